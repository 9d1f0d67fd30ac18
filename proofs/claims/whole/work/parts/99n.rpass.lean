/-! THE REFERENCE'S CALLS: pass -/
section RPASS
variable {Z : tk_Z} {d mc ms : Nat} {QR : tk_R} {m hw k : Nat} {B : bS} {V : vR} {ρ : Nat → Nat} {S : tk_S} {R : Nat → Nat} {M : Mt}
theorem harm_of {kd wh be : Int32} : (harmOf kd wh be).toInt64 = if kd = 0 then 6 * (if wh < 6 then 2 else 1) else if kd = 1 then 4 * (if wh < 6 then 2 else 1) else if kd = 2 then 10 * (if wh < 6 then 2 else 1) else if kd = 3 then 1 else if kd = 4 then be.toInt64 else if kd = 5 then (be / 4).toInt64 else 0 := by
  unfold harmOf
  by_cases h0 : kd = 0
  · rw [if_pos h0, if_pos h0]
    by_cases h : wh < 6
    · rw [if_pos h, if_pos h]; rfl
    · rw [if_neg h, if_neg h]; rfl
  rw [if_neg h0, if_neg h0]
  by_cases h1 : kd = 1
  · rw [if_pos h1, if_pos h1]
    by_cases h : wh < 6
    · rw [if_pos h, if_pos h]; rfl
    · rw [if_neg h, if_neg h]; rfl
  rw [if_neg h1, if_neg h1]
  by_cases h2 : kd = 2
  · rw [if_pos h2, if_pos h2]
    by_cases h : wh < 6
    · rw [if_pos h, if_pos h]; rfl
    · rw [if_neg h, if_neg h]; rfl
  rw [if_neg h2, if_neg h2]
  by_cases h3 : kd = 3
  · rw [if_pos h3, if_pos h3]; rfl
  rw [if_neg h3, if_neg h3]
  by_cases h4 : kd = 4
  · rw [if_pos h4, if_pos h4]
  rw [if_neg h4, if_neg h4]
  by_cases h5 : kd = 5
  · rw [if_pos h5, if_pos h5]
  rw [if_neg h5, if_neg h5]
  rfl
/-- ahead of the wear: the passing itself -/
def psV (V : vR) (f h : Nat → Int32) (by0 : Int32) (o : Nat) (td : Int32) (v : Int32) (g : Nat) (ps : Nat → Int32) : vR := wA (if 0 < v then wA (wA (wI (tlV (wI V 0 0) f h by0) 37 by0) 23 (upd (vA V 23) o td)) 24 (upd (vA V 24) o td) else wA (wI (tlV (wI V 0 0) f h by0) 37 by0) 23 (upd (vA V 23) o td)) 30 (upd ps g (ps g + 1))
set_option maxHeartbeats 16000000 in
theorem rr_pass {t0 g0 : Int32} (hd : 4 ≤ d) (hR : RS B m ρ S (rLk (cp 400 hw) (cp 600 M.2.2.2.2.2.2.2.1.1)) R V) (hI : RI V k M) (hB : BD M) (hla : LA M) (hk : k ≤ hw) (hhw : hw ≤ 12000) (hda : ∀ (a : Nat) (A : pA), M.2.1[a]? = some A → -1 ≤ A.1) (hdr : M.2.2.2.2.2.2.2.2.2.1 ≤ 20000)
    (hJn : M.2.2.2.2.2.2.2.1.1 < 12000) (hmc : 4 * (lv 600 (M.2.2.2.2.2.2.2.1.1 + 1) - lv 600 M.2.2.2.2.2.2.2.1.1) ≤ mc) (hms : 80000 * (lv 600 (M.2.2.2.2.2.2.2.1.1 + 1) - lv 600 M.2.2.2.2.2.2.2.1.1) ≤ ms)
    (H1 : ((t0 < 0 ∨ nI M.2.2.2.2.1.1 ≤ t0) ∨ (g0 < 0 ∨ nI M.2.2.2.1.1 ≤ g0)) → okR B m hw k QR (some (.int 0)) 1 M)
    (H0 : ∀ t g, t < M.2.2.2.2.1.1 → t0 = nI t → g < M.2.2.2.1.1 → g0 = nI g → okR B m hw k QR (some (.int (passPay M t g).1)) 0 (passM M t g)) : tk_M Z mX12_pass d mc ms [.ref m, .int t0, .int g0] S QR tk_noX := by
  refine M_X12_pass (Nat.le_of_ble_eq_true rfl) (fun E hE => hE.1 _ _ _ _ _ ?_)
  show t_X12_pass_0 Z d mc ms QR E [some (.ref m), some (.int t0), some (.int g0), none, none, none] [] S 0 0
  have hB0 := hB
  have hI0 := hI
  have hla0 := hla
  have hR0 := hR
  obtain ⟨h1, h2, h3⟩ := id hR.1.1
  have hO1 : rO ρ (s_I S 13 0 m 0) m := ⟨h1, h2, h3⟩
  have bad : ((t0 < 0 ∨ nI M.2.2.2.2.1.1 ≤ t0) ∨ (g0 < 0 ∨ nI M.2.2.2.1.1 ≤ g0)) → E 20 [some (.ref m), some (.int t0), some (.int g0), none, none, none] [.int 1, .ref m] (s_I S 13 0 m 0) 0 0 := fun w => by
    refine hE.2.1 _ _ _ _ _ ?_
    simp -implicitDefEqProofs [t_X12_pass_20, i_aload, i_iload, i_lload, i_istore, i_lstore, i_astore, i_iinc, i_push, i_getI, i_getJ, i_getR, i_putI, i_putJ, i_putR, i_iadd, i_isub, i_imul, i_iand, i_ior, i_ixor, i_ishl, i_ishr, i_iushr, i_idiv, i_irem, i_ladd, i_lsub, i_lmul, i_land, i_lor, i_lxor, i_ldiv, i_lrem, i_lshl, i_lshr, i_lcmp, i_ineg, i_lneg, i_i2l, i_l2i, i_i2b, i_i2c, i_dup, i_pop, i_dup_x1, i_dup2, i_icmp_eq, i_icmp_lt, i_icmp_ge, i_icmp_gt, i_icmp_le, i_if_eq, i_if_lt, i_if_ge, i_if_gt, i_if_le, i_goto, i_ifnull, i_iald, i_bald, i_zald, i_lald, i_aald, i_iast, i_bast, i_zast, i_last, i_alen, i_iret, i_lret, i_aret, i_vret, i_oinit, i_cast, i_tsw, i_cases, i_mmin, i_mmax, i_lmin, i_throw, nb0, nb1, nint, nby0, rf_s, rf_n, of_r, of_n, tk_orf_rf, tk_c2, tk_ls, Value.category, tk_isR_ref, tk_isR_rf, tk_isR_null, z_q_L_s_I, z_q_K_s_I, z_q_I_s_I, z_q_J_s_I, z_q_R_s_I, z_q_n_s_I, z_q_aI_s_I, z_q_aJ_s_I, z_q_aR_s_I, z_q_L_s_J, z_q_K_s_J, z_q_I_s_J, z_q_J_s_J, z_q_R_s_J, z_q_n_s_J, z_q_aI_s_J, z_q_aJ_s_J, z_q_aR_s_J, z_q_L_s_R, z_q_K_s_R, z_q_I_s_R, z_q_J_s_R, z_q_R_s_R, z_q_n_s_R, z_q_aI_s_R, z_q_aJ_s_R, z_q_aR_s_R, z_q_L_s_aI, z_q_K_s_aI, z_q_I_s_aI, z_q_J_s_aI, z_q_R_s_aI, z_q_n_s_aI, z_q_aI_s_aI, z_q_aJ_s_aI, z_q_aR_s_aI, z_q_L_s_aJ, z_q_K_s_aJ, z_q_I_s_aJ, z_q_J_s_aJ, z_q_R_s_aJ, z_q_n_s_aJ, z_q_aI_s_aJ, z_q_aJ_s_aJ, z_q_aR_s_aJ, z_q_L_s_aR, z_q_K_s_aR, z_q_I_s_aR, z_q_J_s_aR, z_q_R_s_aR, z_q_n_s_aR, z_q_aI_s_aR, z_q_aJ_s_aR, z_q_aR_s_aR, z_q_L_s_new, z_q_K_s_new, z_q_I_s_new, z_q_J_s_new, z_q_R_s_new, z_q_n_s_new, z_q_aI_s_new, z_q_aJ_s_new, z_q_aR_s_new, z_q_L_s_arr, z_q_K_s_arr, z_q_I_s_arr, z_q_J_s_arr, z_q_R_s_arr, z_q_n_s_arr, z_q_aI_s_arr, z_q_aJ_s_arr, z_q_aR_s_arr, h1, h2]
    refine ⟨by simp, h1, h2, by simp [Value.category], 0, 0, 0, by omega, by omega, by omega, ?_⟩
    refine r_badT hO1 ?_
    simp -implicitDefEqProofs [i_aload, i_iload, i_lload, i_istore, i_lstore, i_astore, i_iinc, i_push, i_getI, i_getJ, i_getR, i_putI, i_putJ, i_putR, i_iadd, i_isub, i_imul, i_iand, i_ior, i_ixor, i_ishl, i_ishr, i_iushr, i_idiv, i_irem, i_ladd, i_lsub, i_lmul, i_land, i_lor, i_lxor, i_ldiv, i_lrem, i_lshl, i_lshr, i_lcmp, i_ineg, i_lneg, i_i2l, i_l2i, i_i2b, i_i2c, i_dup, i_pop, i_dup_x1, i_dup2, i_icmp_eq, i_icmp_lt, i_icmp_ge, i_icmp_gt, i_icmp_le, i_if_eq, i_if_lt, i_if_ge, i_if_gt, i_if_le, i_goto, i_ifnull, i_iald, i_bald, i_zald, i_lald, i_aald, i_iast, i_bast, i_zast, i_last, i_alen, i_iret, i_lret, i_aret, i_vret, i_oinit, i_cast, i_tsw, i_cases, i_mmin, i_mmax, i_lmin, i_throw, nb0, nb1, nint, nby0, rf_s, rf_n, of_r, of_n, tk_orf_rf, tk_c2, tk_ls, Value.category, tk_isR_ref, tk_isR_rf, tk_isR_null, z_q_L_s_I, z_q_K_s_I, z_q_I_s_I, z_q_J_s_I, z_q_R_s_I, z_q_n_s_I, z_q_aI_s_I, z_q_aJ_s_I, z_q_aR_s_I, z_q_L_s_J, z_q_K_s_J, z_q_I_s_J, z_q_J_s_J, z_q_R_s_J, z_q_n_s_J, z_q_aI_s_J, z_q_aJ_s_J, z_q_aR_s_J, z_q_L_s_R, z_q_K_s_R, z_q_I_s_R, z_q_J_s_R, z_q_R_s_R, z_q_n_s_R, z_q_aI_s_R, z_q_aJ_s_R, z_q_aR_s_R, z_q_L_s_aI, z_q_K_s_aI, z_q_I_s_aI, z_q_J_s_aI, z_q_R_s_aI, z_q_n_s_aI, z_q_aI_s_aI, z_q_aJ_s_aI, z_q_aR_s_aI, z_q_L_s_aJ, z_q_K_s_aJ, z_q_I_s_aJ, z_q_J_s_aJ, z_q_R_s_aJ, z_q_n_s_aJ, z_q_aI_s_aJ, z_q_aJ_s_aJ, z_q_aR_s_aJ, z_q_L_s_aR, z_q_K_s_aR, z_q_I_s_aR, z_q_J_s_aR, z_q_R_s_aR, z_q_n_s_aR, z_q_aI_s_aR, z_q_aJ_s_aR, z_q_aR_s_aR, z_q_L_s_new, z_q_K_s_new, z_q_I_s_new, z_q_J_s_new, z_q_R_s_new, z_q_n_s_new, z_q_aI_s_new, z_q_aJ_s_new, z_q_aR_s_new, z_q_L_s_arr, z_q_K_s_arr, z_q_I_s_arr, z_q_J_s_arr, z_q_R_s_arr, z_q_n_s_arr, z_q_aI_s_arr, z_q_aJ_s_arr, z_q_aR_s_arr]
    exact H1 w _ ((hI0.t0 0).t0 1) rfl _ _ _ ((hR.iI 0 0).iI 0 1)
  -- behind the toll
  have go86 : ∀ t g, t < M.2.2.2.2.1.1 → t0 = nI t → g < M.2.2.2.1.1 → g0 = nI g → ∀ f h ρ S R, RS B m ρ S (rLk (cp 400 hw) (cp 600 M.2.2.2.2.2.2.2.1.1)) R (tlV (wI V 0 0) f h (passPay M t g).2) → i_istore 3 (i_aload 0 (i_aload 0 (i_getI 13 35 (i_putI 13 37 (i_aload 0 (i_getR 13 23 (i_push (.int (8)) (i_iload 1 (i_imul (i_iload 2 (i_iadd (i_aload 0 (i_getI 13 32 (i_iast (i_iload 3 (i_if_le (E 86) (i_aload 0 (i_getR 13 24 (i_push (.int (8)) (i_iload 1 (i_imul (i_iload 2 (i_iadd (i_aload 0 (i_getI 13 32 (i_iast (E 86))))))))))))))))))))))))))) [some (.ref m), some (.int t0), some (.int g0), none, none, none] [.int (passPay M t g).1] S 0 0 := by
    intro t g ht htt hg hgg f h ρ S R hR
    have H9 := H0 t g ht htt hg hgg
    clear H0 H1
    have hv4 := hI0
    clear bad hO1 h1 h2 h3
    generalize hpp : passPay M t g = pp at *
    obtain ⟨v, b0⟩ := pp
    have hpp2 := hpp
    obtain ⟨⟨tn, tg, tp⟩, acts, ⟨nS, pr, wo⟩, ⟨nG, os, ps, ls, re, su, du, le, nb, bf, br, bs⟩, ⟨nV, kd, wh, be, bi, pa, pd, la⟩, ⟨nF, mo⟩, ⟨nL, lsu, lra, lrk, ldu⟩, ⟨jn, jb, jd, jk, jw, js, jh⟩, ⟨td, dry, lc⟩⟩ := M
    obtain ⟨rT0, rA0, rS0, rG0, rV0, rF0, rL0, rJ0, rD0⟩ := id hI
    obtain ⟨b1, b2, b3, b4, b5, b6, b7, b8, b9, b10, b11⟩ := hB
    obtain ⟨v1, v2, v3, v4, v5, v6, v7, v8⟩ := rV0
    obtain ⟨g1, g2, g3, g4⟩ := rG0
    dsimp only at H9 hdr hJn hmc hms ht hg hR ⊢
    obtain ⟨y1, y2, y3, y4⟩ := b6 g hg
    obtain ⟨k1, k2, k3, k4⟩ := g4 g hg
    obtain ⟨⟨kk, hkk, hkd⟩, ⟨kw, hkw, hwh⟩, ⟨kb, hkb, hbe⟩, -⟩ := v8 t ht
    subst htt
    subst hgg
    obtain ⟨h1, h2, h3⟩ := id hR.1.1
    have hQ := hR.2.1.1
    have e35 : q_I S 13 35 m = b0 := hQ 35
    have e32 : q_I S 13 32 m = nI td := (hQ 32).trans rD0.1
    have e33 : q_I S 13 33 m = nI (dry - td) := (hQ 33).trans rD0.2.1
    obtain ⟨a23, b23, c23, d23, -⟩ := hR.1.2 23 _ _ rfl
    have x23 := hR.2.1.2.2.1 23 _ _ rfl (by decide)
    obtain ⟨a24, b24, c24, d24, -⟩ := hR.1.2 24 _ _ rfl
    have x24 := hR.2.1.2.2.1 24 _ _ rfl (by decide)
    obtain ⟨a30, b30, c30, d30, -⟩ := hR.1.2 30 _ _ rfl
    have x30 := hR.2.1.2.2.1 30 _ _ rfl (by decide)
    obtain ⟨a19, b19, c19, d19, -⟩ := hR.1.2 19 _ _ rfl
    have x19 := hR.2.1.2.2.1 19 _ _ rfl (by decide)
    obtain ⟨a20, b20, c20, d20, -⟩ := hR.1.2 20 _ _ rfl
    have x20 := hR.2.1.2.2.1 20 _ _ rfl (by decide)
    obtain ⟨a21, b21, c21, d21, -⟩ := hR.1.2 21 _ _ rfl
    have x21 := hR.2.1.2.2.1 21 _ _ rfl (by decide)
    obtain ⟨a29, b29, c29, d29, -⟩ := hR.1.2 29 _ _ rfl
    have x29 := hR.2.1.2.2.1 29 _ _ rfl (by decide)
    obtain ⟨a50, b50, c50, d50, -⟩ := hR.1.2 50 _ _ rfl
    have x50 := hR.2.1.2.2.1 50 _ _ rfl (by decide)
    obtain ⟨a27, b27, c27, d27, -⟩ := hR.1.2 27 _ _ rfl
    have x27 := hR.2.1.2.2.2 27 _ rfl
    obtain ⟨a44, b44, c44, d44, -⟩ := hR.1.2 44 _ _ rfl
    have x44 := hR.2.1.2.2.2 44 _ rfl
    have n1 := hR.1.ne (i := 24) (j := 23) rfl rfl (by decide)
    have n2 := hR.1.ne (i := 30) (j := 23) rfl rfl (by decide)
    have n3 := hR.1.ne (i := 30) (j := 24) rfl rfl (by decide)
    have n4 := hR.1.ne (i := 19) (j := 23) rfl rfl (by decide)
    have n5 := hR.1.ne (i := 19) (j := 24) rfl rfl (by decide)
    have n6 := hR.1.ne (i := 19) (j := 30) rfl rfl (by decide)
    have n7 := hR.1.ne (i := 20) (j := 23) rfl rfl (by decide)
    have n8 := hR.1.ne (i := 20) (j := 24) rfl rfl (by decide)
    have n9 := hR.1.ne (i := 20) (j := 30) rfl rfl (by decide)
    have n10 := hR.1.ne (i := 21) (j := 23) rfl rfl (by decide)
    have n11 := hR.1.ne (i := 21) (j := 24) rfl rfl (by decide)
    have n12 := hR.1.ne (i := 21) (j := 30) rfl rfl (by decide)
    have e8 : (8 : Int32) * nI t + nI g = nI (8 * t + g) := by
      rw [show (8 : Int32) = nI 8 by rfl, show nI 8 * nI t = nI (8 * t) from (Int32.ofNat_mul 8 t).symm, nI_add]
    have hin8 : vp_in (nI (8 * t + g)) 480 := vp_in_nI (by omega) (by omega)
    have c8 : (nI (8 * t + g)).toNatClampNeg = 8 * t + g := nI_clamp (by omega)
    have hint : vp_in (nI t) 60 := vp_in_nI (by omega) (by omega)
    have ct : (nI t).toNatClampNeg = t := nI_clamp (by omega)
    have hing : vp_in (nI g) 8 := vp_in_nI (by omega) (by omega)
    have cg : (nI g).toNatClampNeg = g := nI_clamp (by omega)
    have hins : vp_in (nI (os g)) 12 := vp_in_nI (by omega) (by omega)
    have cs0 : (nI (os g)).toNatClampNeg = os g := nI_clamp (by omega)
    have x23' : q_aI S (R 23) = vA V 23 := x23
    have x24' : q_aI S (R 24) = vA V 24 := x24
    have x30' : q_aI S (R 30) = ps := x30.trans g2
    have x19' : q_aI S (R 19) = kd := x19.trans v3
    have x20' : q_aI S (R 20) = wh := x20.trans v4
    have x21' : q_aI S (R 21) = be := x21.trans v5
    clear x23 x24 x30 x19 x20 x21
    -- the end
    have end0 : ∀ ρ S R l4 l5 W, RS B m ρ S (rLk (cp 400 hw) (cp 600 jn)) R (psV V f h b0 (8 * t + g) (nI td) v g ps) → W = (if td < dry then 2 * (harmOf (kd t) (wh t) (be t)).toInt64 else (harmOf (kd t) (wh t) (be t)).toInt64) → E 251 [some (.ref m), some (.int (nI t)), some (.int (nI g)), some (.int v), l4, l5] [.long W, .long (wo (os g)), .int (nI (os g)), .ref (R 27)] S 0 0 := by
      intro ρ S R l4 l5 W hR hW
      refine hE.2.2.2.2.2 _ _ _ _ _ ?_
      obtain ⟨h1, h2, h3⟩ := id hR.1.1
      obtain ⟨a50, b50, c50, d50, -⟩ := hR.1.2 50 _ _ rfl
      have x50 := hR.2.1.2.2.1 50 _ _ rfl (by decide)
      obtain ⟨a27, b27, c27, d27, -⟩ := hR.1.2 27 _ _ rfl
      have x27 := hR.2.1.2.2.2 27 _ rfl
      obtain ⟨a44, b44, c44, d44, -⟩ := hR.1.2 44 _ _ rfl
      have x44 := hR.2.1.2.2.2 44 _ rfl
      have n44 := hR.1.ne (i := 44) (j := 27) rfl rfl (by decide)
      have x50' : q_aI S (R 50) = vA V 50 := x50.trans (by unfold psV; split <;> rfl)
      have x27' : q_aJ S (R 27) = wo := (x27.trans (by unfold psV; split <;> rfl)).trans rS0.2.2
      have x44' : q_aJ S (R 44) = mo := (x44.trans (by unfold psV; split <;> rfl)).trans rF0.2
      clear x50 x27 x44
      have hR2 := hR.iL (k := 27) rfl (vp_updL wo (os g) (wo (os g) + W))
      -- what both tell
      have ri : ∀ V' mo' J', rFa V' nF mo' → rJn V' J' → (∀ i, i ≠ 42 → vI V' i = vI (psV V f h b0 (8 * t + g) (nI td) v g ps) i) → (∀ i, i < 38 ∨ 41 < i → vA V' i = vA (psV V f h b0 (8 * t + g) (nI td) v g ps) i) → (∀ i, i ≠ 44 → vL V' i = vL (wL (psV V f h b0 (8 * t + g) (nI td) v g ps) 27 (vp_updL wo (os g) (wo (os g) + W))) i) →
          RI V' k ((tn, tg, tp), acts, (nS, pr, vp_updL wo (os g) (wo (os g) + W)), (nG, os, upd ps g (ps g + 1), ls, re, su, du, le, nb, bf, br, bs), (nV, kd, wh, be, bi, upd pa (8 * t + g) (nI td), (if 0 < v then upd pd (8 * t + g) (nI td) else pd), (if 0 < v then upd la t (nI td) else la)), (nF, mo'), (nL, lsu, lra, lrk, ldu), J', (td, dry, b0)) := by
        intro V' mo' J' hF hJ hi ha hl
        have pI : ∀ i, i ≠ 0 → i ≠ 35 → i ≠ 37 → vI (psV V f h b0 (8 * t + g) (nI td) v g ps) i = vI V i := fun i i0 i35 i37 => by
          unfold psV tlV
          split <;> simp [vI_wI, vI_wA, i0, i35, i37]
        have pA0 : ∀ i, i ≠ 34 → i ≠ 36 → i ≠ 23 → i ≠ 24 → i ≠ 30 → vA (psV V f h b0 (8 * t + g) (nI td) v g ps) i = vA V i := fun i i34 i36 i23 i24 i30 => by
          unfold psV tlV
          split <;> simp [vA_wI, vA_wA, i34, i36, i23, i24, i30]
        have pL : ∀ i, vL (psV V f h b0 (8 * t + g) (nI td) v g ps) i = vL V i := fun i => by
          unfold psV tlV
          split <;> rfl
        have qI : ∀ i, i ≠ 0 → i ≠ 35 → i ≠ 37 → i ≠ 42 → vI V' i = vI V i := fun i a b c e => (hi i e).trans (pI i a b c)
        have qA : ∀ i, (i < 38 ∨ 41 < i) → i ≠ 34 → i ≠ 36 → i ≠ 23 → i ≠ 24 → i ≠ 30 → vA V' i = vA V i := fun i a a1 b c e f => (ha i a).trans (pA0 i a1 b c e f)
        refine ⟨⟨(qI 2 (by decide) (by decide) (by decide) (by decide)).trans rT0.1, (qA 1 (by decide) (by decide) (by decide) (by decide) (by decide) (by decide)).trans rT0.2.1, (qI 6 (by decide) (by decide) (by decide) (by decide)).trans rT0.2.2⟩, ?_, ⟨(qI 28 (by decide) (by decide) (by decide) (by decide)).trans rS0.1, (qA 26 (by decide) (by decide) (by decide) (by decide) (by decide) (by decide)).trans rS0.2.1, hl 27 (by decide)⟩, ?_, ?_, hF, ?_, hJ, ?_⟩
        · obtain ⟨a1, a2, a3, a4⟩ := rA0
          refine ⟨(qI 18 (by decide) (by decide) (by decide) (by decide)).trans a1, a2, (qI 17 (by decide) (by decide) (by decide) (by decide)).trans a3, fun a A hA => ?_⟩
          obtain ⟨w1, w2, w3, w4⟩ := a4 a A hA
          have w4' : acV V k (40 * a) A.2 := w4
          exact ⟨by rw [qA 9 (by decide) (by decide) (by decide) (by decide) (by decide) (by decide)]; exact w1, by rw [qA 8 (by decide) (by decide) (by decide) (by decide) (by decide) (by decide)]; exact w2, w3, w4'.ext (fun i hi => qA i (by omega) (by omega) (by omega) (by omega) (by omega) (by omega))⟩
        · refine ⟨(qI 31 (by decide) (by decide) (by decide) (by decide)).trans g1, (ha 30 (by decide)).trans (by unfold psV; simp [vA_wA]), fun g => by rw [qA 46 (by decide) (by decide) (by decide) (by decide) (by decide) (by decide)]; exact g3 g, fun g hg => ?_⟩
          obtain ⟨w1, w2, w3, w4⟩ := g4 g hg
          have r1 := qA 29 (by decide) (by decide) (by decide) (by decide) (by decide) (by decide)
          have r2 := qA 47 (by decide) (by decide) (by decide) (by decide) (by decide) (by decide)
          have r3 := qA 48 (by decide) (by decide) (by decide) (by decide) (by decide) (by decide)
          have r4 := qA 49 (by decide) (by decide) (by decide) (by decide) (by decide) (by decide)
          have r5 := qA 50 (by decide) (by decide) (by decide) (by decide) (by decide) (by decide)
          have r6 := qA 51 (by decide) (by decide) (by decide) (by decide) (by decide) (by decide)
          have r7 := qA 52 (by decide) (by decide) (by decide) (by decide) (by decide) (by decide)
          have r8 := qA 53 (by decide) (by decide) (by decide) (by decide) (by decide) (by decide)
          have r9 := qA 54 (by decide) (by decide) (by decide) (by decide) (by decide) (by decide)
          rw [r1, r2, r3, r4, r5, r6, r7, r8, r9]
          exact ⟨w1, w2, w3, w4⟩
        · refine ⟨(qI 25 (by decide) (by decide) (by decide) (by decide)).trans v1, v2, (qA 19 (by decide) (by decide) (by decide) (by decide) (by decide) (by decide)).trans v3, (qA 20 (by decide) (by decide) (by decide) (by decide) (by decide) (by decide)).trans v4, (qA 21 (by decide) (by decide) (by decide) (by decide) (by decide) (by decide)).trans v5, (qA 22 (by decide) (by decide) (by decide) (by decide) (by decide) (by decide)).trans v6, fun j hj => ?_, v8⟩
          obtain ⟨w1, w2⟩ := v7 j hj
          rw [ha 23 (by decide), ha 24 (by decide)]
          by_cases hv : 0 < v
          · have p1 : vA (psV V f h b0 (8 * t + g) (nI td) v g ps) 23 = upd (vA V 23) (8 * t + g) (nI td) := by unfold psV; rw [if_pos hv]; simp [vA_wA]
            have p2 : vA (psV V f h b0 (8 * t + g) (nI td) v g ps) 24 = upd (vA V 24) (8 * t + g) (nI td) := by unfold psV; rw [if_pos hv]; simp [vA_wA]
            rw [p1, p2, if_pos hv]
            by_cases hjo : j = 8 * t + g
            · subst hjo
              rw [pk_us, pk_us, pk_us, pk_us]
              exact ⟨rfl, rfl⟩
            · rw [pk_un hjo, pk_un hjo, pk_un hjo, pk_un hjo]
              exact ⟨w1, w2⟩
          · have p1 : vA (psV V f h b0 (8 * t + g) (nI td) v g ps) 23 = upd (vA V 23) (8 * t + g) (nI td) := by unfold psV; rw [if_neg hv]; simp [vA_wA]
            have p2 : vA (psV V f h b0 (8 * t + g) (nI td) v g ps) 24 = vA V 24 := by unfold psV; rw [if_neg hv]; simp [vA_wA, vA_wI, tlV]
            rw [p1, p2, if_neg hv]
            by_cases hjo : j = 8 * t + g
            · subst hjo
              rw [pk_us, pk_us]
              exact ⟨rfl, w2⟩
            · rw [pk_un hjo, pk_un hjo]
              exact ⟨w1, w2⟩
        · obtain ⟨j1, j2, j3, j4, j5⟩ := rL0
          exact ⟨(qI 61 (by decide) (by decide) (by decide) (by decide)).trans j1, (qA 55 (by decide) (by decide) (by decide) (by decide) (by decide) (by decide)).trans j2, (qA 56 (by decide) (by decide) (by decide) (by decide) (by decide) (by decide)).trans j3, (qA 57 (by decide) (by decide) (by decide) (by decide) (by decide) (by decide)).trans j4, ((hl 58 (by decide)).trans (pL 58)).trans j5⟩
        · exact ⟨(qI 32 (by decide) (by decide) (by decide) (by decide)).trans rD0.1, (qI 33 (by decide) (by decide) (by decide) (by decide)).trans rD0.2.1, (hi 37 (by decide)).trans (by unfold psV; split <;> rfl)⟩
      have rjP : rJn (psV V f h b0 (8 * t + g) (nI td) v g ps) (jn, jb, jd, jk, jw, js, jh) := by
        have : rJn V (jn, jb, jd, jk, jw, js, jh) := rJ0
        unfold psV
        split <;> exact this
      have rfP : rFa (psV V f h b0 (8 * t + g) (nI td) v g ps) nF mo := by
        have : rFa V nF mo := rF0
        unfold psV
        split <;> exact this
      have p32 : vI (psV V f h b0 (8 * t + g) (nI td) v g ps) 32 = nI td := by
        have : vI V 32 = nI td := rD0.1
        unfold psV
        split <;> exact this
      have p42 : vI (psV V f h b0 (8 * t + g) (nI td) v g ps) 42 = nI jn := rjP.1
      have p0 : vI (psV V f h b0 (8 * t + g) (nI td) v g ps) 0 = 0 := by
        unfold psV
        split <;> rfl
      rcases hls : ls g with _ | fa
      · have k6 := k3 hls
        have z6 : (-1 : Int32) < 0 := by decide
        simp -implicitDefEqProofs [t_X12_pass_251, i_aload, i_iload, i_lload, i_istore, i_lstore, i_astore, i_iinc, i_push, i_getI, i_getJ, i_getR, i_putI, i_putJ, i_putR, i_iadd, i_isub, i_imul, i_iand, i_ior, i_ixor, i_ishl, i_ishr, i_iushr, i_idiv, i_irem, i_ladd, i_lsub, i_lmul, i_land, i_lor, i_lxor, i_ldiv, i_lrem, i_lshl, i_lshr, i_lcmp, i_ineg, i_lneg, i_i2l, i_l2i, i_i2b, i_i2c, i_dup, i_pop, i_dup_x1, i_dup2, i_icmp_eq, i_icmp_lt, i_icmp_ge, i_icmp_gt, i_icmp_le, i_if_eq, i_if_lt, i_if_ge, i_if_gt, i_if_le, i_goto, i_ifnull, i_iald, i_bald, i_zald, i_lald, i_aald, i_iast, i_bast, i_zast, i_last, i_alen, i_iret, i_lret, i_aret, i_vret, i_oinit, i_cast, i_tsw, i_cases, i_mmin, i_mmax, i_lmin, i_throw, nb0, nb1, nint, nby0, rf_s, rf_n, of_r, of_n, tk_orf_rf, tk_c2, tk_ls, Value.category, tk_isR_ref, tk_isR_rf, tk_isR_null, z_q_L_s_I, z_q_K_s_I, z_q_I_s_I, z_q_J_s_I, z_q_R_s_I, z_q_n_s_I, z_q_aI_s_I, z_q_aJ_s_I, z_q_aR_s_I, z_q_L_s_J, z_q_K_s_J, z_q_I_s_J, z_q_J_s_J, z_q_R_s_J, z_q_n_s_J, z_q_aI_s_J, z_q_aJ_s_J, z_q_aR_s_J, z_q_L_s_R, z_q_K_s_R, z_q_I_s_R, z_q_J_s_R, z_q_R_s_R, z_q_n_s_R, z_q_aI_s_R, z_q_aJ_s_R, z_q_aR_s_R, z_q_L_s_aI, z_q_K_s_aI, z_q_I_s_aI, z_q_J_s_aI, z_q_R_s_aI, z_q_n_s_aI, z_q_aI_s_aI, z_q_aJ_s_aI, z_q_aR_s_aI, z_q_L_s_aJ, z_q_K_s_aJ, z_q_I_s_aJ, z_q_J_s_aJ, z_q_R_s_aJ, z_q_n_s_aJ, z_q_aI_s_aJ, z_q_aJ_s_aJ, z_q_aR_s_aJ, z_q_L_s_aR, z_q_K_s_aR, z_q_I_s_aR, z_q_J_s_aR, z_q_R_s_aR, z_q_n_s_aR, z_q_aI_s_aR, z_q_aJ_s_aR, z_q_aR_s_aR, z_q_L_s_new, z_q_K_s_new, z_q_I_s_new, z_q_J_s_new, z_q_R_s_new, z_q_n_s_new, z_q_aI_s_new, z_q_aJ_s_new, z_q_aR_s_new, z_q_L_s_arr, z_q_K_s_arr, z_q_I_s_arr, z_q_J_s_arr, z_q_R_s_arr, z_q_n_s_arr, z_q_aI_s_arr, z_q_aJ_s_arr, z_q_aR_s_arr, h1, h2, a50, b50, c50, d50, x50', a27, b27, c27, d27, x27', hins, cs0, hing, cg, k6, z6]
        refine ⟨fun hv0 => ?_, fun hv0 => ?_⟩
        · have hv : ¬ 0 < v := Int32.not_lt.mpr hv0
          have hM : passM ((tn, tg, tp), acts, (nS, pr, wo), (nG, os, ps, ls, re, su, du, le, nb, bf, br, bs), (nV, kd, wh, be, bi, pa, pd, la), (nF, mo), (nL, lsu, lra, lrk, ldu), (jn, jb, jd, jk, jw, js, jh), (td, dry, lc)) t g = ((tn, tg, tp), acts, (nS, pr, vp_updL wo (os g) (wo (os g) + W)), (nG, os, upd ps g (ps g + 1), ls, re, su, du, le, nb, bf, br, bs), (nV, kd, wh, be, bi, upd pa (8 * t + g) (nI td), (if 0 < v then upd pd (8 * t + g) (nI td) else pd), (if 0 < v then upd la t (nI td) else la)), (nF, mo), (nL, lsu, lra, lrk, ldu), (jn, jb, jd, jk, jw, js, jh), (td, dry, b0)) := by
            unfold passM
            rw [hpp2, hW]
            simp only [woM, psM, noteM, tollTo, lcM, hls, if_neg hv]
          rw [hM] at H9
          exact H9 (wL (psV V f h b0 (8 * t + g) (nI td) v g ps) 27 (vp_updL wo (os g) (wo (os g) + W))) (ri (wL (psV V f h b0 (8 * t + g) (nI td) v g ps) 27 (vp_updL wo (os g) (wo (os g) + W))) mo (jn, jb, jd, jk, jw, js, jh) rfP rjP (fun i _ => rfl) (fun i _ => rfl) (fun i _ => rfl)) p0 _ _ _ hR2
        · have hM : passM ((tn, tg, tp), acts, (nS, pr, wo), (nG, os, ps, ls, re, su, du, le, nb, bf, br, bs), (nV, kd, wh, be, bi, pa, pd, la), (nF, mo), (nL, lsu, lra, lrk, ldu), (jn, jb, jd, jk, jw, js, jh), (td, dry, lc)) t g = ((tn, tg, tp), acts, (nS, pr, vp_updL wo (os g) (wo (os g) + W)), (nG, os, upd ps g (ps g + 1), ls, re, su, du, le, nb, bf, br, bs), (nV, kd, wh, be, bi, upd pa (8 * t + g) (nI td), (if 0 < v then upd pd (8 * t + g) (nI td) else pd), (if 0 < v then upd la t (nI td) else la)), (nF, mo), (nL, lsu, lra, lrk, ldu), lineM (jn, jb, jd, jk, jw, js, jh) (nI td) 0 (nI t) v.toInt64, (td, dry, b0)) := by
            unfold passM
            rw [hpp2, hW]
            simp only [woM, psM, noteM, tollTo, lcM, hls, if_pos hv0]
          rw [hM] at H9
          refine call_line (n := jn) (by omega) hR2 p42 hJn (by simpa using hmc) (by simpa using hms) (fun f1 f2 f3 f4 ρ' S' R' hf hR' => ?_)
          generalize 4 * (lv 600 (jn + 1) - lv 600 jn) = mc1 at *
          generalize 80000 * (lv 600 (jn + 1) - lv 600 jn) = ms1 at *
          simp -implicitDefEqProofs [i_aload, i_iload, i_lload, i_istore, i_lstore, i_astore, i_iinc, i_push, i_getI, i_getJ, i_getR, i_putI, i_putJ, i_putR, i_iadd, i_isub, i_imul, i_iand, i_ior, i_ixor, i_ishl, i_ishr, i_iushr, i_idiv, i_irem, i_ladd, i_lsub, i_lmul, i_land, i_lor, i_lxor, i_ldiv, i_lrem, i_lshl, i_lshr, i_lcmp, i_ineg, i_lneg, i_i2l, i_l2i, i_i2b, i_i2c, i_dup, i_pop, i_dup_x1, i_dup2, i_icmp_eq, i_icmp_lt, i_icmp_ge, i_icmp_gt, i_icmp_le, i_if_eq, i_if_lt, i_if_ge, i_if_gt, i_if_le, i_goto, i_ifnull, i_iald, i_bald, i_zald, i_lald, i_aald, i_iast, i_bast, i_zast, i_last, i_alen, i_iret, i_lret, i_aret, i_vret, i_oinit, i_cast, i_tsw, i_cases, i_mmin, i_mmax, i_lmin, i_throw, nb0, nb1, nint, nby0, rf_s, rf_n, of_r, of_n, tk_orf_rf, tk_c2, tk_ls, Value.category, tk_isR_ref, tk_isR_rf, tk_isR_null]
          refine ⟨hmc, hms, H9 (lineV (wL (psV V f h b0 (8 * t + g) (nI td) v g ps) 27 (vp_updL wo (os g) (wo (os g) + W))) jn 0 (nI t) v.toInt64 f1 f2 f3 f4) (ri (lineV (wL (psV V f h b0 (8 * t + g) (nI td) v g ps) 27 (vp_updL wo (os g) (wo (os g) + W))) jn 0 (nI t) v.toInt64 f1 f2 f3 f4) mo (lineM (jn, jb, jd, jk, jw, js, jh) (nI td) 0 (nI t) v.toInt64) rfP (rJn.line (V := (wL (psV V f h b0 (8 * t + g) (nI td) v g ps) 27 (vp_updL wo (os g) (wo (os g) + W)))) (J := (jn, jb, jd, jk, jw, js, jh)) rjP p32 hf (l32 v)) (fun i hi => ?_) (fun i hi => ?_) (fun i _ => rfl)) p0 _ _ _ hR'⟩
          · show upd _ 42 _ i = _
            rw [pk_un hi]
            rfl
          · have i1 : ¬ i = 38 := by omega
            have i2 : ¬ i = 39 := by omega
            have i3 : ¬ i = 40 := by omega
            have i4 : ¬ i = 41 := by omega
            simp [lineV, vA_wJ, vA_wI, vA_wA, vA_wL, i1, i2, i3, i4]
      · obtain ⟨k6, -⟩ := k4 fa hls
        have hfa : fa < nF := y4 fa hls
        have z6 : ¬ nI fa < 0 := nI_pos (by omega)
        have hinf : vp_in (nI fa) 8 := vp_in_nI (by omega) (by omega)
        have cf : (nI fa).toNatClampNeg = fa := nI_clamp (by omega)
        have hM : passM ((tn, tg, tp), acts, (nS, pr, wo), (nG, os, ps, ls, re, su, du, le, nb, bf, br, bs), (nV, kd, wh, be, bi, pa, pd, la), (nF, mo), (nL, lsu, lra, lrk, ldu), (jn, jb, jd, jk, jw, js, jh), (td, dry, lc)) t g = ((tn, tg, tp), acts, (nS, pr, vp_updL wo (os g) (wo (os g) + W)), (nG, os, upd ps g (ps g + 1), ls, re, su, du, le, nb, bf, br, bs), (nV, kd, wh, be, bi, upd pa (8 * t + g) (nI td), (if 0 < v then upd pd (8 * t + g) (nI td) else pd), (if 0 < v then upd la t (nI td) else la)), (nF, vp_updL mo fa (mo fa + v.toInt64)), (nL, lsu, lra, lrk, ldu), (jn, jb, jd, jk, jw, js, jh), (td, dry, b0)) := by
          unfold passM
          rw [hpp2, hW]
          simp only [woM, psM, noteM, tollTo, lcM, hls]
        rw [hM] at H9
        simp -implicitDefEqProofs [t_X12_pass_251, i_aload, i_iload, i_lload, i_istore, i_lstore, i_astore, i_iinc, i_push, i_getI, i_getJ, i_getR, i_putI, i_putJ, i_putR, i_iadd, i_isub, i_imul, i_iand, i_ior, i_ixor, i_ishl, i_ishr, i_iushr, i_idiv, i_irem, i_ladd, i_lsub, i_lmul, i_land, i_lor, i_lxor, i_ldiv, i_lrem, i_lshl, i_lshr, i_lcmp, i_ineg, i_lneg, i_i2l, i_l2i, i_i2b, i_i2c, i_dup, i_pop, i_dup_x1, i_dup2, i_icmp_eq, i_icmp_lt, i_icmp_ge, i_icmp_gt, i_icmp_le, i_if_eq, i_if_lt, i_if_ge, i_if_gt, i_if_le, i_goto, i_ifnull, i_iald, i_bald, i_zald, i_lald, i_aald, i_iast, i_bast, i_zast, i_last, i_alen, i_iret, i_lret, i_aret, i_vret, i_oinit, i_cast, i_tsw, i_cases, i_mmin, i_mmax, i_lmin, i_throw, nb0, nb1, nint, nby0, rf_s, rf_n, of_r, of_n, tk_orf_rf, tk_c2, tk_ls, Value.category, tk_isR_ref, tk_isR_rf, tk_isR_null, z_q_L_s_I, z_q_K_s_I, z_q_I_s_I, z_q_J_s_I, z_q_R_s_I, z_q_n_s_I, z_q_aI_s_I, z_q_aJ_s_I, z_q_aR_s_I, z_q_L_s_J, z_q_K_s_J, z_q_I_s_J, z_q_J_s_J, z_q_R_s_J, z_q_n_s_J, z_q_aI_s_J, z_q_aJ_s_J, z_q_aR_s_J, z_q_L_s_R, z_q_K_s_R, z_q_I_s_R, z_q_J_s_R, z_q_R_s_R, z_q_n_s_R, z_q_aI_s_R, z_q_aJ_s_R, z_q_aR_s_R, z_q_L_s_aI, z_q_K_s_aI, z_q_I_s_aI, z_q_J_s_aI, z_q_R_s_aI, z_q_n_s_aI, z_q_aI_s_aI, z_q_aJ_s_aI, z_q_aR_s_aI, z_q_L_s_aJ, z_q_K_s_aJ, z_q_I_s_aJ, z_q_J_s_aJ, z_q_R_s_aJ, z_q_n_s_aJ, z_q_aI_s_aJ, z_q_aJ_s_aJ, z_q_aR_s_aJ, z_q_L_s_aR, z_q_K_s_aR, z_q_I_s_aR, z_q_J_s_aR, z_q_R_s_aR, z_q_n_s_aR, z_q_aI_s_aR, z_q_aJ_s_aR, z_q_aR_s_aR, z_q_L_s_new, z_q_K_s_new, z_q_I_s_new, z_q_J_s_new, z_q_R_s_new, z_q_n_s_new, z_q_aI_s_new, z_q_aJ_s_new, z_q_aR_s_new, z_q_L_s_arr, z_q_K_s_arr, z_q_I_s_arr, z_q_J_s_arr, z_q_R_s_arr, z_q_n_s_arr, z_q_aI_s_arr, z_q_aJ_s_arr, z_q_aR_s_arr, h1, h2, a50, b50, c50, d50, x50', a27, b27, c27, d27, x27', a44, b44, c44, d44, x44', n44, hins, cs0, hing, cg, k6, z6, hinf, cf]
        refine H9 (wL (wL (psV V f h b0 (8 * t + g) (nI td) v g ps) 27 (vp_updL wo (os g) (wo (os g) + W))) 44 (vp_updL mo fa (mo fa + v.toInt64))) (ri (wL (wL (psV V f h b0 (8 * t + g) (nI td) v g ps) 27 (vp_updL wo (os g) (wo (os g) + W))) 44 (vp_updL mo fa (mo fa + v.toInt64))) (vp_updL mo fa (mo fa + v.toInt64)) (jn, jb, jd, jk, jw, js, jh) ⟨rfP.1, rfl⟩ rjP (fun i _ => rfl) (fun i _ => rfl) (fun i hi => ?_)) p0 _ _ _ (hR2.iL (k := 44) rfl (vp_updL mo fa (mo fa + v.toInt64)))
        rw [vL_wL, if_neg hi]
    -- the wear
    have at219 : ∀ ρ S R y4 y5, RS B m ρ S (rLk (cp 400 hw) (cp 600 jn)) R (psV V f h b0 (8 * t + g) (nI td) v g ps) → E 219 [some (.ref m), some (.int (nI t)), some (.int (nI g)), some (.int v), y4, y5] [.long (harmOf (kd t) (wh t) (be t)).toInt64] S 0 0 := by
      intro ρ S R y4 y5 hR
      refine hE.2.2.2.2.1 _ _ _ _ _ ?_
      obtain ⟨h1, h2, h3⟩ := id hR.1.1
      have e33 : q_I S 13 33 m = nI (dry - td) := (hR.2.1.1 33).trans (by
        have : vI V 33 = nI (dry - td) := rD0.2.1
        unfold psV
        split <;> exact this)
      obtain ⟨a29, b29, c29, d29, -⟩ := hR.1.2 29 _ _ rfl
      have x29 := hR.2.1.2.2.1 29 _ _ rfl (by decide)
      obtain ⟨a27, b27, c27, d27, -⟩ := hR.1.2 27 _ _ rfl
      have x27 := hR.2.1.2.2.2 27 _ rfl
      have x29' : q_aI S (R 29) = vA V 29 := x29.trans (by unfold psV; split <;> rfl)
      have x27' : q_aJ S (R 27) = wo := (x27.trans (by unfold psV; split <;> rfl)).trans rS0.2.2
      clear x29 x27
      simp -implicitDefEqProofs [t_X12_pass_219, i_aload, i_iload, i_lload, i_istore, i_lstore, i_astore, i_iinc, i_push, i_getI, i_getJ, i_getR, i_putI, i_putJ, i_putR, i_iadd, i_isub, i_imul, i_iand, i_ior, i_ixor, i_ishl, i_ishr, i_iushr, i_idiv, i_irem, i_ladd, i_lsub, i_lmul, i_land, i_lor, i_lxor, i_ldiv, i_lrem, i_lshl, i_lshr, i_lcmp, i_ineg, i_lneg, i_i2l, i_l2i, i_i2b, i_i2c, i_dup, i_pop, i_dup_x1, i_dup2, i_icmp_eq, i_icmp_lt, i_icmp_ge, i_icmp_gt, i_icmp_le, i_if_eq, i_if_lt, i_if_ge, i_if_gt, i_if_le, i_goto, i_ifnull, i_iald, i_bald, i_zald, i_lald, i_aald, i_iast, i_bast, i_zast, i_last, i_alen, i_iret, i_lret, i_aret, i_vret, i_oinit, i_cast, i_tsw, i_cases, i_mmin, i_mmax, i_lmin, i_throw, nb0, nb1, nint, nby0, rf_s, rf_n, of_r, of_n, tk_orf_rf, tk_c2, tk_ls, Value.category, tk_isR_ref, tk_isR_rf, tk_isR_null, h1, h2, e33, a29, b29, c29, d29, x29', a27, b27, c27, d27, x27', hing, cg, k1, hins, cs0]
      refine ⟨fun w => ?_, fun w => ?_⟩
      · refine end0 ρ S R _ _ _ hR ?_
        rw [if_neg (fun z => nI_nle (n := dry - td) (by omega) (by omega) w)]
      · refine end0 ρ S R _ _ _ hR ?_
        rw [if_pos]
        apply Classical.byContradiction
        intro z
        rw [show dry - td = 0 by omega] at w
        exact absurd w (by decide)
    have at86 : ∀ S y4 y5, RS B m ρ S (rLk (cp 400 hw) (cp 600 jn)) R (if 0 < v then wA (wA (wI (tlV (wI V 0 0) f h b0) 37 b0) 23 (upd (vA V 23) (8 * t + g) (nI td))) 24 (upd (vA V 24) (8 * t + g) (nI td)) else wA (wI (tlV (wI V 0 0) f h b0) 37 b0) 23 (upd (vA V 23) (8 * t + g) (nI td))) → E 86 [some (.ref m), some (.int (nI t)), some (.int (nI g)), some (.int v), y4, y5] [] S 0 0 := by
      intro S y4 y5 hR
      refine hE.2.2.1 _ _ _ _ _ ?_
      have hR9 := hR.iA (k := 30) rfl (upd ps g (ps g + 1))
      have at219 := at219 _ _ _ y4 y5 hR9
      obtain ⟨h1, h2, h3⟩ := id hR.1.1
      obtain ⟨a30, b30, c30, d30, -⟩ := hR.1.2 30 _ _ rfl
      have x30 := hR.2.1.2.2.1 30 _ _ rfl (by decide)
      obtain ⟨a19, b19, c19, d19, -⟩ := hR.1.2 19 _ _ rfl
      have x19 := hR.2.1.2.2.1 19 _ _ rfl (by decide)
      obtain ⟨a20, b20, c20, d20, -⟩ := hR.1.2 20 _ _ rfl
      have x20 := hR.2.1.2.2.1 20 _ _ rfl (by decide)
      obtain ⟨a21, b21, c21, d21, -⟩ := hR.1.2 21 _ _ rfl
      have x21 := hR.2.1.2.2.1 21 _ _ rfl (by decide)
      have n6 := hR.1.ne (i := 19) (j := 30) rfl rfl (by decide)
      have n9 := hR.1.ne (i := 20) (j := 30) rfl rfl (by decide)
      have n12 := hR.1.ne (i := 21) (j := 30) rfl rfl (by decide)
      have x30' : q_aI S (R 30) = ps := (x30.trans (by split <;> rfl)).trans g2
      have x19' : q_aI S (R 19) = kd := (x19.trans (by split <;> rfl)).trans v3
      have x20' : q_aI S (R 20) = wh := (x20.trans (by split <;> rfl)).trans v4
      have x21' : q_aI S (R 21) = be := (x21.trans (by split <;> rfl)).trans v5
      clear x30 x19 x20 x21
      have hk7 : kk = 0 ∨ kk = 1 ∨ kk = 2 ∨ kk = 3 ∨ kk = 4 ∨ kk = 5 ∨ kk = 6 := by omega
      have wide : ∀ (c : Int64) ls', ls' = [some (Value.ref m), some (.int (nI t)), some (.int (nI g)), some (.int v), y4, y5] → (harmOf (kd t) (wh t) (be t)).toInt64 = c * (if wh t < 6 then 2 else 1) → E 140 ls' [.long c] (s_aI S (R 30) (upd ps g (ps g + 1))) 0 0 := by
        intro c ls' hls' hc
        subst hls'
        rw [hc] at at219
        refine hE.2.2.2.1 _ _ _ _ _ ?_
        simp -implicitDefEqProofs [t_X12_pass_140, i_aload, i_iload, i_lload, i_istore, i_lstore, i_astore, i_iinc, i_push, i_getI, i_getJ, i_getR, i_putI, i_putJ, i_putR, i_iadd, i_isub, i_imul, i_iand, i_ior, i_ixor, i_ishl, i_ishr, i_iushr, i_idiv, i_irem, i_ladd, i_lsub, i_lmul, i_land, i_lor, i_lxor, i_ldiv, i_lrem, i_lshl, i_lshr, i_lcmp, i_ineg, i_lneg, i_i2l, i_l2i, i_i2b, i_i2c, i_dup, i_pop, i_dup_x1, i_dup2, i_icmp_eq, i_icmp_lt, i_icmp_ge, i_icmp_gt, i_icmp_le, i_if_eq, i_if_lt, i_if_ge, i_if_gt, i_if_le, i_goto, i_ifnull, i_iald, i_bald, i_zald, i_lald, i_aald, i_iast, i_bast, i_zast, i_last, i_alen, i_iret, i_lret, i_aret, i_vret, i_oinit, i_cast, i_tsw, i_cases, i_mmin, i_mmax, i_lmin, i_throw, nb0, nb1, nint, nby0, rf_s, rf_n, of_r, of_n, tk_orf_rf, tk_c2, tk_ls, Value.category, tk_isR_ref, tk_isR_rf, tk_isR_null, z_q_L_s_I, z_q_K_s_I, z_q_I_s_I, z_q_J_s_I, z_q_R_s_I, z_q_n_s_I, z_q_aI_s_I, z_q_aJ_s_I, z_q_aR_s_I, z_q_L_s_J, z_q_K_s_J, z_q_I_s_J, z_q_J_s_J, z_q_R_s_J, z_q_n_s_J, z_q_aI_s_J, z_q_aJ_s_J, z_q_aR_s_J, z_q_L_s_R, z_q_K_s_R, z_q_I_s_R, z_q_J_s_R, z_q_R_s_R, z_q_n_s_R, z_q_aI_s_R, z_q_aJ_s_R, z_q_aR_s_R, z_q_L_s_aI, z_q_K_s_aI, z_q_I_s_aI, z_q_J_s_aI, z_q_R_s_aI, z_q_n_s_aI, z_q_aI_s_aI, z_q_aJ_s_aI, z_q_aR_s_aI, z_q_L_s_aJ, z_q_K_s_aJ, z_q_I_s_aJ, z_q_J_s_aJ, z_q_R_s_aJ, z_q_n_s_aJ, z_q_aI_s_aJ, z_q_aJ_s_aJ, z_q_aR_s_aJ, z_q_L_s_aR, z_q_K_s_aR, z_q_I_s_aR, z_q_J_s_aR, z_q_R_s_aR, z_q_n_s_aR, z_q_aI_s_aR, z_q_aJ_s_aR, z_q_aR_s_aR, z_q_L_s_new, z_q_K_s_new, z_q_I_s_new, z_q_J_s_new, z_q_R_s_new, z_q_n_s_new, z_q_aI_s_new, z_q_aJ_s_new, z_q_aR_s_new, z_q_L_s_arr, z_q_K_s_arr, z_q_I_s_arr, z_q_J_s_arr, z_q_R_s_arr, z_q_n_s_arr, z_q_aI_s_arr, z_q_aJ_s_arr, z_q_aR_s_arr, h1, h2, a20, b20, c20, d20, x20', n9, hint, ct]
        refine ⟨fun w => ?_, fun w => ?_⟩
        · rw [if_neg (Int32.not_lt.mpr w), Int64.mul_one] at at219
          exact at219
        · rw [if_pos w] at at219
          exact at219
      rcases hk7 with rfl | rfl | rfl | rfl | rfl | rfl | rfl
      · have z : kd t = 0 := hkd
        rw [harm_of, z] at wide
        simp -implicitDefEqProofs [t_X12_pass_86, i_aload, i_iload, i_lload, i_istore, i_lstore, i_astore, i_iinc, i_push, i_getI, i_getJ, i_getR, i_putI, i_putJ, i_putR, i_iadd, i_isub, i_imul, i_iand, i_ior, i_ixor, i_ishl, i_ishr, i_iushr, i_idiv, i_irem, i_ladd, i_lsub, i_lmul, i_land, i_lor, i_lxor, i_ldiv, i_lrem, i_lshl, i_lshr, i_lcmp, i_ineg, i_lneg, i_i2l, i_l2i, i_i2b, i_i2c, i_dup, i_pop, i_dup_x1, i_dup2, i_icmp_eq, i_icmp_lt, i_icmp_ge, i_icmp_gt, i_icmp_le, i_if_eq, i_if_lt, i_if_ge, i_if_gt, i_if_le, i_goto, i_ifnull, i_iald, i_bald, i_zald, i_lald, i_aald, i_iast, i_bast, i_zast, i_last, i_alen, i_iret, i_lret, i_aret, i_vret, i_oinit, i_cast, i_tsw, i_cases, i_mmin, i_mmax, i_lmin, i_throw, nb0, nb1, nint, nby0, rf_s, rf_n, of_r, of_n, tk_orf_rf, tk_c2, tk_ls, Value.category, tk_isR_ref, tk_isR_rf, tk_isR_null, z_q_L_s_I, z_q_K_s_I, z_q_I_s_I, z_q_J_s_I, z_q_R_s_I, z_q_n_s_I, z_q_aI_s_I, z_q_aJ_s_I, z_q_aR_s_I, z_q_L_s_J, z_q_K_s_J, z_q_I_s_J, z_q_J_s_J, z_q_R_s_J, z_q_n_s_J, z_q_aI_s_J, z_q_aJ_s_J, z_q_aR_s_J, z_q_L_s_R, z_q_K_s_R, z_q_I_s_R, z_q_J_s_R, z_q_R_s_R, z_q_n_s_R, z_q_aI_s_R, z_q_aJ_s_R, z_q_aR_s_R, z_q_L_s_aI, z_q_K_s_aI, z_q_I_s_aI, z_q_J_s_aI, z_q_R_s_aI, z_q_n_s_aI, z_q_aI_s_aI, z_q_aJ_s_aI, z_q_aR_s_aI, z_q_L_s_aJ, z_q_K_s_aJ, z_q_I_s_aJ, z_q_J_s_aJ, z_q_R_s_aJ, z_q_n_s_aJ, z_q_aI_s_aJ, z_q_aJ_s_aJ, z_q_aR_s_aJ, z_q_L_s_aR, z_q_K_s_aR, z_q_I_s_aR, z_q_J_s_aR, z_q_R_s_aR, z_q_n_s_aR, z_q_aI_s_aR, z_q_aJ_s_aR, z_q_aR_s_aR, z_q_L_s_new, z_q_K_s_new, z_q_I_s_new, z_q_J_s_new, z_q_R_s_new, z_q_n_s_new, z_q_aI_s_new, z_q_aJ_s_new, z_q_aR_s_new, z_q_L_s_arr, z_q_K_s_arr, z_q_I_s_arr, z_q_J_s_arr, z_q_R_s_arr, z_q_n_s_arr, z_q_aI_s_arr, z_q_aJ_s_arr, z_q_aR_s_arr, h1, h2, a30, b30, c30, d30, x30', a19, b19, c19, d19, x19', n6, hint, ct, hing, cg, z]
        exact wide 6 _ rfl (by simp)
      · have z : kd t = 1 := hkd
        rw [harm_of, z] at wide
        simp -implicitDefEqProofs [t_X12_pass_86, i_aload, i_iload, i_lload, i_istore, i_lstore, i_astore, i_iinc, i_push, i_getI, i_getJ, i_getR, i_putI, i_putJ, i_putR, i_iadd, i_isub, i_imul, i_iand, i_ior, i_ixor, i_ishl, i_ishr, i_iushr, i_idiv, i_irem, i_ladd, i_lsub, i_lmul, i_land, i_lor, i_lxor, i_ldiv, i_lrem, i_lshl, i_lshr, i_lcmp, i_ineg, i_lneg, i_i2l, i_l2i, i_i2b, i_i2c, i_dup, i_pop, i_dup_x1, i_dup2, i_icmp_eq, i_icmp_lt, i_icmp_ge, i_icmp_gt, i_icmp_le, i_if_eq, i_if_lt, i_if_ge, i_if_gt, i_if_le, i_goto, i_ifnull, i_iald, i_bald, i_zald, i_lald, i_aald, i_iast, i_bast, i_zast, i_last, i_alen, i_iret, i_lret, i_aret, i_vret, i_oinit, i_cast, i_tsw, i_cases, i_mmin, i_mmax, i_lmin, i_throw, nb0, nb1, nint, nby0, rf_s, rf_n, of_r, of_n, tk_orf_rf, tk_c2, tk_ls, Value.category, tk_isR_ref, tk_isR_rf, tk_isR_null, z_q_L_s_I, z_q_K_s_I, z_q_I_s_I, z_q_J_s_I, z_q_R_s_I, z_q_n_s_I, z_q_aI_s_I, z_q_aJ_s_I, z_q_aR_s_I, z_q_L_s_J, z_q_K_s_J, z_q_I_s_J, z_q_J_s_J, z_q_R_s_J, z_q_n_s_J, z_q_aI_s_J, z_q_aJ_s_J, z_q_aR_s_J, z_q_L_s_R, z_q_K_s_R, z_q_I_s_R, z_q_J_s_R, z_q_R_s_R, z_q_n_s_R, z_q_aI_s_R, z_q_aJ_s_R, z_q_aR_s_R, z_q_L_s_aI, z_q_K_s_aI, z_q_I_s_aI, z_q_J_s_aI, z_q_R_s_aI, z_q_n_s_aI, z_q_aI_s_aI, z_q_aJ_s_aI, z_q_aR_s_aI, z_q_L_s_aJ, z_q_K_s_aJ, z_q_I_s_aJ, z_q_J_s_aJ, z_q_R_s_aJ, z_q_n_s_aJ, z_q_aI_s_aJ, z_q_aJ_s_aJ, z_q_aR_s_aJ, z_q_L_s_aR, z_q_K_s_aR, z_q_I_s_aR, z_q_J_s_aR, z_q_R_s_aR, z_q_n_s_aR, z_q_aI_s_aR, z_q_aJ_s_aR, z_q_aR_s_aR, z_q_L_s_new, z_q_K_s_new, z_q_I_s_new, z_q_J_s_new, z_q_R_s_new, z_q_n_s_new, z_q_aI_s_new, z_q_aJ_s_new, z_q_aR_s_new, z_q_L_s_arr, z_q_K_s_arr, z_q_I_s_arr, z_q_J_s_arr, z_q_R_s_arr, z_q_n_s_arr, z_q_aI_s_arr, z_q_aJ_s_arr, z_q_aR_s_arr, h1, h2, a30, b30, c30, d30, x30', a19, b19, c19, d19, x19', n6, hint, ct, hing, cg, z]
        exact wide 4 _ rfl (by simp)
      · have z : kd t = 2 := hkd
        rw [harm_of, z] at wide
        simp -implicitDefEqProofs [t_X12_pass_86, i_aload, i_iload, i_lload, i_istore, i_lstore, i_astore, i_iinc, i_push, i_getI, i_getJ, i_getR, i_putI, i_putJ, i_putR, i_iadd, i_isub, i_imul, i_iand, i_ior, i_ixor, i_ishl, i_ishr, i_iushr, i_idiv, i_irem, i_ladd, i_lsub, i_lmul, i_land, i_lor, i_lxor, i_ldiv, i_lrem, i_lshl, i_lshr, i_lcmp, i_ineg, i_lneg, i_i2l, i_l2i, i_i2b, i_i2c, i_dup, i_pop, i_dup_x1, i_dup2, i_icmp_eq, i_icmp_lt, i_icmp_ge, i_icmp_gt, i_icmp_le, i_if_eq, i_if_lt, i_if_ge, i_if_gt, i_if_le, i_goto, i_ifnull, i_iald, i_bald, i_zald, i_lald, i_aald, i_iast, i_bast, i_zast, i_last, i_alen, i_iret, i_lret, i_aret, i_vret, i_oinit, i_cast, i_tsw, i_cases, i_mmin, i_mmax, i_lmin, i_throw, nb0, nb1, nint, nby0, rf_s, rf_n, of_r, of_n, tk_orf_rf, tk_c2, tk_ls, Value.category, tk_isR_ref, tk_isR_rf, tk_isR_null, z_q_L_s_I, z_q_K_s_I, z_q_I_s_I, z_q_J_s_I, z_q_R_s_I, z_q_n_s_I, z_q_aI_s_I, z_q_aJ_s_I, z_q_aR_s_I, z_q_L_s_J, z_q_K_s_J, z_q_I_s_J, z_q_J_s_J, z_q_R_s_J, z_q_n_s_J, z_q_aI_s_J, z_q_aJ_s_J, z_q_aR_s_J, z_q_L_s_R, z_q_K_s_R, z_q_I_s_R, z_q_J_s_R, z_q_R_s_R, z_q_n_s_R, z_q_aI_s_R, z_q_aJ_s_R, z_q_aR_s_R, z_q_L_s_aI, z_q_K_s_aI, z_q_I_s_aI, z_q_J_s_aI, z_q_R_s_aI, z_q_n_s_aI, z_q_aI_s_aI, z_q_aJ_s_aI, z_q_aR_s_aI, z_q_L_s_aJ, z_q_K_s_aJ, z_q_I_s_aJ, z_q_J_s_aJ, z_q_R_s_aJ, z_q_n_s_aJ, z_q_aI_s_aJ, z_q_aJ_s_aJ, z_q_aR_s_aJ, z_q_L_s_aR, z_q_K_s_aR, z_q_I_s_aR, z_q_J_s_aR, z_q_R_s_aR, z_q_n_s_aR, z_q_aI_s_aR, z_q_aJ_s_aR, z_q_aR_s_aR, z_q_L_s_new, z_q_K_s_new, z_q_I_s_new, z_q_J_s_new, z_q_R_s_new, z_q_n_s_new, z_q_aI_s_new, z_q_aJ_s_new, z_q_aR_s_new, z_q_L_s_arr, z_q_K_s_arr, z_q_I_s_arr, z_q_J_s_arr, z_q_R_s_arr, z_q_n_s_arr, z_q_aI_s_arr, z_q_aJ_s_arr, z_q_aR_s_arr, h1, h2, a30, b30, c30, d30, x30', a19, b19, c19, d19, x19', n6, hint, ct, hing, cg, z]
        exact wide 10 _ rfl (by simp)
      · have z : kd t = 3 := hkd
        rw [harm_of, z] at at219
        simp -implicitDefEqProofs [t_X12_pass_86, i_aload, i_iload, i_lload, i_istore, i_lstore, i_astore, i_iinc, i_push, i_getI, i_getJ, i_getR, i_putI, i_putJ, i_putR, i_iadd, i_isub, i_imul, i_iand, i_ior, i_ixor, i_ishl, i_ishr, i_iushr, i_idiv, i_irem, i_ladd, i_lsub, i_lmul, i_land, i_lor, i_lxor, i_ldiv, i_lrem, i_lshl, i_lshr, i_lcmp, i_ineg, i_lneg, i_i2l, i_l2i, i_i2b, i_i2c, i_dup, i_pop, i_dup_x1, i_dup2, i_icmp_eq, i_icmp_lt, i_icmp_ge, i_icmp_gt, i_icmp_le, i_if_eq, i_if_lt, i_if_ge, i_if_gt, i_if_le, i_goto, i_ifnull, i_iald, i_bald, i_zald, i_lald, i_aald, i_iast, i_bast, i_zast, i_last, i_alen, i_iret, i_lret, i_aret, i_vret, i_oinit, i_cast, i_tsw, i_cases, i_mmin, i_mmax, i_lmin, i_throw, nb0, nb1, nint, nby0, rf_s, rf_n, of_r, of_n, tk_orf_rf, tk_c2, tk_ls, Value.category, tk_isR_ref, tk_isR_rf, tk_isR_null, z_q_L_s_I, z_q_K_s_I, z_q_I_s_I, z_q_J_s_I, z_q_R_s_I, z_q_n_s_I, z_q_aI_s_I, z_q_aJ_s_I, z_q_aR_s_I, z_q_L_s_J, z_q_K_s_J, z_q_I_s_J, z_q_J_s_J, z_q_R_s_J, z_q_n_s_J, z_q_aI_s_J, z_q_aJ_s_J, z_q_aR_s_J, z_q_L_s_R, z_q_K_s_R, z_q_I_s_R, z_q_J_s_R, z_q_R_s_R, z_q_n_s_R, z_q_aI_s_R, z_q_aJ_s_R, z_q_aR_s_R, z_q_L_s_aI, z_q_K_s_aI, z_q_I_s_aI, z_q_J_s_aI, z_q_R_s_aI, z_q_n_s_aI, z_q_aI_s_aI, z_q_aJ_s_aI, z_q_aR_s_aI, z_q_L_s_aJ, z_q_K_s_aJ, z_q_I_s_aJ, z_q_J_s_aJ, z_q_R_s_aJ, z_q_n_s_aJ, z_q_aI_s_aJ, z_q_aJ_s_aJ, z_q_aR_s_aJ, z_q_L_s_aR, z_q_K_s_aR, z_q_I_s_aR, z_q_J_s_aR, z_q_R_s_aR, z_q_n_s_aR, z_q_aI_s_aR, z_q_aJ_s_aR, z_q_aR_s_aR, z_q_L_s_new, z_q_K_s_new, z_q_I_s_new, z_q_J_s_new, z_q_R_s_new, z_q_n_s_new, z_q_aI_s_new, z_q_aJ_s_new, z_q_aR_s_new, z_q_L_s_arr, z_q_K_s_arr, z_q_I_s_arr, z_q_J_s_arr, z_q_R_s_arr, z_q_n_s_arr, z_q_aI_s_arr, z_q_aJ_s_arr, z_q_aR_s_arr, h1, h2, a30, b30, c30, d30, x30', a19, b19, c19, d19, x19', n6, hint, ct, hing, cg, z]
        simpa using at219
      · have z : kd t = 4 := hkd
        rw [harm_of, z] at at219
        simp -implicitDefEqProofs [t_X12_pass_86, i_aload, i_iload, i_lload, i_istore, i_lstore, i_astore, i_iinc, i_push, i_getI, i_getJ, i_getR, i_putI, i_putJ, i_putR, i_iadd, i_isub, i_imul, i_iand, i_ior, i_ixor, i_ishl, i_ishr, i_iushr, i_idiv, i_irem, i_ladd, i_lsub, i_lmul, i_land, i_lor, i_lxor, i_ldiv, i_lrem, i_lshl, i_lshr, i_lcmp, i_ineg, i_lneg, i_i2l, i_l2i, i_i2b, i_i2c, i_dup, i_pop, i_dup_x1, i_dup2, i_icmp_eq, i_icmp_lt, i_icmp_ge, i_icmp_gt, i_icmp_le, i_if_eq, i_if_lt, i_if_ge, i_if_gt, i_if_le, i_goto, i_ifnull, i_iald, i_bald, i_zald, i_lald, i_aald, i_iast, i_bast, i_zast, i_last, i_alen, i_iret, i_lret, i_aret, i_vret, i_oinit, i_cast, i_tsw, i_cases, i_mmin, i_mmax, i_lmin, i_throw, nb0, nb1, nint, nby0, rf_s, rf_n, of_r, of_n, tk_orf_rf, tk_c2, tk_ls, Value.category, tk_isR_ref, tk_isR_rf, tk_isR_null, z_q_L_s_I, z_q_K_s_I, z_q_I_s_I, z_q_J_s_I, z_q_R_s_I, z_q_n_s_I, z_q_aI_s_I, z_q_aJ_s_I, z_q_aR_s_I, z_q_L_s_J, z_q_K_s_J, z_q_I_s_J, z_q_J_s_J, z_q_R_s_J, z_q_n_s_J, z_q_aI_s_J, z_q_aJ_s_J, z_q_aR_s_J, z_q_L_s_R, z_q_K_s_R, z_q_I_s_R, z_q_J_s_R, z_q_R_s_R, z_q_n_s_R, z_q_aI_s_R, z_q_aJ_s_R, z_q_aR_s_R, z_q_L_s_aI, z_q_K_s_aI, z_q_I_s_aI, z_q_J_s_aI, z_q_R_s_aI, z_q_n_s_aI, z_q_aI_s_aI, z_q_aJ_s_aI, z_q_aR_s_aI, z_q_L_s_aJ, z_q_K_s_aJ, z_q_I_s_aJ, z_q_J_s_aJ, z_q_R_s_aJ, z_q_n_s_aJ, z_q_aI_s_aJ, z_q_aJ_s_aJ, z_q_aR_s_aJ, z_q_L_s_aR, z_q_K_s_aR, z_q_I_s_aR, z_q_J_s_aR, z_q_R_s_aR, z_q_n_s_aR, z_q_aI_s_aR, z_q_aJ_s_aR, z_q_aR_s_aR, z_q_L_s_new, z_q_K_s_new, z_q_I_s_new, z_q_J_s_new, z_q_R_s_new, z_q_n_s_new, z_q_aI_s_new, z_q_aJ_s_new, z_q_aR_s_new, z_q_L_s_arr, z_q_K_s_arr, z_q_I_s_arr, z_q_J_s_arr, z_q_R_s_arr, z_q_n_s_arr, z_q_aI_s_arr, z_q_aJ_s_arr, z_q_aR_s_arr, h1, h2, a30, b30, c30, d30, x30', a19, b19, c19, d19, x19', a21, b21, c21, d21, x21', n6, n12, hint, ct, hing, cg, z]
        simpa using at219
      · have z : kd t = 5 := hkd
        rw [harm_of, z] at at219
        simp -implicitDefEqProofs [t_X12_pass_86, i_aload, i_iload, i_lload, i_istore, i_lstore, i_astore, i_iinc, i_push, i_getI, i_getJ, i_getR, i_putI, i_putJ, i_putR, i_iadd, i_isub, i_imul, i_iand, i_ior, i_ixor, i_ishl, i_ishr, i_iushr, i_idiv, i_irem, i_ladd, i_lsub, i_lmul, i_land, i_lor, i_lxor, i_ldiv, i_lrem, i_lshl, i_lshr, i_lcmp, i_ineg, i_lneg, i_i2l, i_l2i, i_i2b, i_i2c, i_dup, i_pop, i_dup_x1, i_dup2, i_icmp_eq, i_icmp_lt, i_icmp_ge, i_icmp_gt, i_icmp_le, i_if_eq, i_if_lt, i_if_ge, i_if_gt, i_if_le, i_goto, i_ifnull, i_iald, i_bald, i_zald, i_lald, i_aald, i_iast, i_bast, i_zast, i_last, i_alen, i_iret, i_lret, i_aret, i_vret, i_oinit, i_cast, i_tsw, i_cases, i_mmin, i_mmax, i_lmin, i_throw, nb0, nb1, nint, nby0, rf_s, rf_n, of_r, of_n, tk_orf_rf, tk_c2, tk_ls, Value.category, tk_isR_ref, tk_isR_rf, tk_isR_null, z_q_L_s_I, z_q_K_s_I, z_q_I_s_I, z_q_J_s_I, z_q_R_s_I, z_q_n_s_I, z_q_aI_s_I, z_q_aJ_s_I, z_q_aR_s_I, z_q_L_s_J, z_q_K_s_J, z_q_I_s_J, z_q_J_s_J, z_q_R_s_J, z_q_n_s_J, z_q_aI_s_J, z_q_aJ_s_J, z_q_aR_s_J, z_q_L_s_R, z_q_K_s_R, z_q_I_s_R, z_q_J_s_R, z_q_R_s_R, z_q_n_s_R, z_q_aI_s_R, z_q_aJ_s_R, z_q_aR_s_R, z_q_L_s_aI, z_q_K_s_aI, z_q_I_s_aI, z_q_J_s_aI, z_q_R_s_aI, z_q_n_s_aI, z_q_aI_s_aI, z_q_aJ_s_aI, z_q_aR_s_aI, z_q_L_s_aJ, z_q_K_s_aJ, z_q_I_s_aJ, z_q_J_s_aJ, z_q_R_s_aJ, z_q_n_s_aJ, z_q_aI_s_aJ, z_q_aJ_s_aJ, z_q_aR_s_aJ, z_q_L_s_aR, z_q_K_s_aR, z_q_I_s_aR, z_q_J_s_aR, z_q_R_s_aR, z_q_n_s_aR, z_q_aI_s_aR, z_q_aJ_s_aR, z_q_aR_s_aR, z_q_L_s_new, z_q_K_s_new, z_q_I_s_new, z_q_J_s_new, z_q_R_s_new, z_q_n_s_new, z_q_aI_s_new, z_q_aJ_s_new, z_q_aR_s_new, z_q_L_s_arr, z_q_K_s_arr, z_q_I_s_arr, z_q_J_s_arr, z_q_R_s_arr, z_q_n_s_arr, z_q_aI_s_arr, z_q_aJ_s_arr, z_q_aR_s_arr, h1, h2, a30, b30, c30, d30, x30', a19, b19, c19, d19, x19', a21, b21, c21, d21, x21', n6, n12, hint, ct, hing, cg, z]
        simpa using at219
      · have z : kd t = 6 := hkd
        rw [harm_of, z] at at219
        simp -implicitDefEqProofs [t_X12_pass_86, i_aload, i_iload, i_lload, i_istore, i_lstore, i_astore, i_iinc, i_push, i_getI, i_getJ, i_getR, i_putI, i_putJ, i_putR, i_iadd, i_isub, i_imul, i_iand, i_ior, i_ixor, i_ishl, i_ishr, i_iushr, i_idiv, i_irem, i_ladd, i_lsub, i_lmul, i_land, i_lor, i_lxor, i_ldiv, i_lrem, i_lshl, i_lshr, i_lcmp, i_ineg, i_lneg, i_i2l, i_l2i, i_i2b, i_i2c, i_dup, i_pop, i_dup_x1, i_dup2, i_icmp_eq, i_icmp_lt, i_icmp_ge, i_icmp_gt, i_icmp_le, i_if_eq, i_if_lt, i_if_ge, i_if_gt, i_if_le, i_goto, i_ifnull, i_iald, i_bald, i_zald, i_lald, i_aald, i_iast, i_bast, i_zast, i_last, i_alen, i_iret, i_lret, i_aret, i_vret, i_oinit, i_cast, i_tsw, i_cases, i_mmin, i_mmax, i_lmin, i_throw, nb0, nb1, nint, nby0, rf_s, rf_n, of_r, of_n, tk_orf_rf, tk_c2, tk_ls, Value.category, tk_isR_ref, tk_isR_rf, tk_isR_null, z_q_L_s_I, z_q_K_s_I, z_q_I_s_I, z_q_J_s_I, z_q_R_s_I, z_q_n_s_I, z_q_aI_s_I, z_q_aJ_s_I, z_q_aR_s_I, z_q_L_s_J, z_q_K_s_J, z_q_I_s_J, z_q_J_s_J, z_q_R_s_J, z_q_n_s_J, z_q_aI_s_J, z_q_aJ_s_J, z_q_aR_s_J, z_q_L_s_R, z_q_K_s_R, z_q_I_s_R, z_q_J_s_R, z_q_R_s_R, z_q_n_s_R, z_q_aI_s_R, z_q_aJ_s_R, z_q_aR_s_R, z_q_L_s_aI, z_q_K_s_aI, z_q_I_s_aI, z_q_J_s_aI, z_q_R_s_aI, z_q_n_s_aI, z_q_aI_s_aI, z_q_aJ_s_aI, z_q_aR_s_aI, z_q_L_s_aJ, z_q_K_s_aJ, z_q_I_s_aJ, z_q_J_s_aJ, z_q_R_s_aJ, z_q_n_s_aJ, z_q_aI_s_aJ, z_q_aJ_s_aJ, z_q_aR_s_aJ, z_q_L_s_aR, z_q_K_s_aR, z_q_I_s_aR, z_q_J_s_aR, z_q_R_s_aR, z_q_n_s_aR, z_q_aI_s_aR, z_q_aJ_s_aR, z_q_aR_s_aR, z_q_L_s_new, z_q_K_s_new, z_q_I_s_new, z_q_J_s_new, z_q_R_s_new, z_q_n_s_new, z_q_aI_s_new, z_q_aJ_s_new, z_q_aR_s_new, z_q_L_s_arr, z_q_K_s_arr, z_q_I_s_arr, z_q_J_s_arr, z_q_R_s_arr, z_q_n_s_arr, z_q_aI_s_arr, z_q_aJ_s_arr, z_q_aR_s_arr, h1, h2, a30, b30, c30, d30, x30', a19, b19, c19, d19, x19', n6, hint, ct, hing, cg, z]
        simpa using at219
    simp -implicitDefEqProofs [i_aload, i_iload, i_lload, i_istore, i_lstore, i_astore, i_iinc, i_push, i_getI, i_getJ, i_getR, i_putI, i_putJ, i_putR, i_iadd, i_isub, i_imul, i_iand, i_ior, i_ixor, i_ishl, i_ishr, i_iushr, i_idiv, i_irem, i_ladd, i_lsub, i_lmul, i_land, i_lor, i_lxor, i_ldiv, i_lrem, i_lshl, i_lshr, i_lcmp, i_ineg, i_lneg, i_i2l, i_l2i, i_i2b, i_i2c, i_dup, i_pop, i_dup_x1, i_dup2, i_icmp_eq, i_icmp_lt, i_icmp_ge, i_icmp_gt, i_icmp_le, i_if_eq, i_if_lt, i_if_ge, i_if_gt, i_if_le, i_goto, i_ifnull, i_iald, i_bald, i_zald, i_lald, i_aald, i_iast, i_bast, i_zast, i_last, i_alen, i_iret, i_lret, i_aret, i_vret, i_oinit, i_cast, i_tsw, i_cases, i_mmin, i_mmax, i_lmin, i_throw, nb0, nb1, nint, nby0, rf_s, rf_n, of_r, of_n, tk_orf_rf, tk_c2, tk_ls, Value.category, tk_isR_ref, tk_isR_rf, tk_isR_null, z_q_L_s_I, z_q_K_s_I, z_q_I_s_I, z_q_J_s_I, z_q_R_s_I, z_q_n_s_I, z_q_aI_s_I, z_q_aJ_s_I, z_q_aR_s_I, z_q_L_s_J, z_q_K_s_J, z_q_I_s_J, z_q_J_s_J, z_q_R_s_J, z_q_n_s_J, z_q_aI_s_J, z_q_aJ_s_J, z_q_aR_s_J, z_q_L_s_R, z_q_K_s_R, z_q_I_s_R, z_q_J_s_R, z_q_R_s_R, z_q_n_s_R, z_q_aI_s_R, z_q_aJ_s_R, z_q_aR_s_R, z_q_L_s_aI, z_q_K_s_aI, z_q_I_s_aI, z_q_J_s_aI, z_q_R_s_aI, z_q_n_s_aI, z_q_aI_s_aI, z_q_aJ_s_aI, z_q_aR_s_aI, z_q_L_s_aJ, z_q_K_s_aJ, z_q_I_s_aJ, z_q_J_s_aJ, z_q_R_s_aJ, z_q_n_s_aJ, z_q_aI_s_aJ, z_q_aJ_s_aJ, z_q_aR_s_aJ, z_q_L_s_aR, z_q_K_s_aR, z_q_I_s_aR, z_q_J_s_aR, z_q_R_s_aR, z_q_n_s_aR, z_q_aI_s_aR, z_q_aJ_s_aR, z_q_aR_s_aR, z_q_L_s_new, z_q_K_s_new, z_q_I_s_new, z_q_J_s_new, z_q_R_s_new, z_q_n_s_new, z_q_aI_s_new, z_q_aJ_s_new, z_q_aR_s_new, z_q_L_s_arr, z_q_K_s_arr, z_q_I_s_arr, z_q_J_s_arr, z_q_R_s_arr, z_q_n_s_arr, z_q_aI_s_arr, z_q_aJ_s_arr, z_q_aR_s_arr, h1, h2, e35, e32, a23, b23, c23, d23, x23', a24, b24, c24, d24, x24', n1, e8, hin8, c8]
    have hR3 := (hR.iI 37 b0).iA (k := 23) rfl (upd (vA V 23) (8 * t + g) (nI td))
    refine ⟨fun w => ?_, fun w => ?_⟩
    · refine at86 _ _ _ ?_
      rw [if_neg (Int32.not_lt.mpr w)]
      exact hR3
    · refine at86 _ _ _ ?_
      rw [if_pos w]
      exact hR3.iA (k := 24) rfl (upd (vA V 24) (8 * t + g) (nI td))
  -- the good call
  have good : ∀ t g, t < M.2.2.2.2.1.1 → t0 = nI t → g < M.2.2.2.1.1 → g0 = nI g → E 20 [some (.ref m), some (.int t0), some (.int g0), none, none, none] [.int 0, .ref m] (s_I S 13 0 m 0) 0 0 := fun t g ht htt hg hgg => by
    refine hE.2.1 _ _ _ _ _ ?_
    have go := go86 t g ht htt hg hgg
    have e32 : q_I S 13 32 m = nI M.2.2.2.2.2.2.2.2.1 := by
      obtain ⟨⟨tn, tg, tp⟩, acts, ⟨nS, pr, wo⟩, ⟨nG, os, ps, ls, re, su, du, le, nb, bf, br, bs⟩, ⟨nV, kd, wh, be, bi, pa, pd, la⟩, ⟨nF, mo⟩, ⟨nL, lsu, lra, lrk, ldu⟩, ⟨jn, jb, jd, jk, jw, js, jh⟩, ⟨td, dry, lc⟩⟩ := M
      exact (hR.2.1.1 32).trans hI.2.2.2.2.2.2.2.2.1
    have e18 : q_I S 13 18 m = nI M.2.1.length := by
      obtain ⟨⟨tn, tg, tp⟩, acts, ⟨nS, pr, wo⟩, ⟨nG, os, ps, ls, re, su, du, le, nb, bf, br, bs⟩, ⟨nV, kd, wh, be, bi, pa, pd, la⟩, ⟨nF, mo⟩, ⟨nL, lsu, lra, lrk, ldu⟩, ⟨jn, jb, jd, jk, jw, js, jh⟩, ⟨td, dry, lc⟩⟩ := M
      exact (hR.2.1.1 18).trans hI.2.1.1
    have x9 := hR.2.1.2.2.1 9 _ _ rfl (by decide)
    have hl12 : M.2.1.length ≤ 12 := by
      obtain ⟨⟨tn, tg, tp⟩, acts, ⟨nS, pr, wo⟩, ⟨nG, os, ps, ls, re, su, du, le, nb, bf, br, bs⟩, ⟨nV, kd, wh, be, bi, pa, pd, la⟩, ⟨nF, mo⟩, ⟨nL, lsu, lra, lrk, ldu⟩, ⟨jn, jb, jd, jk, jw, js, jh⟩, ⟨td, dry, lc⟩⟩ := M
      exact hB.2.1
    have hv9 : ∀ (a : Nat) (A : pA), M.2.1[a]? = some A → vA V 9 a = A.1 := by
      obtain ⟨⟨tn, tg, tp⟩, acts, ⟨nS, pr, wo⟩, ⟨nG, os, ps, ls, re, su, du, le, nb, bf, br, bs⟩, ⟨nV, kd, wh, be, bi, pa, pd, la⟩, ⟨nF, mo⟩, ⟨nL, lsu, lra, lrk, ldu⟩, ⟨jn, jb, jd, jk, jw, js, jh⟩, ⟨td, dry, lc⟩⟩ := M
      exact fun a A hA => (hI.2.1.2.2.2 a A hA).1
    simp -implicitDefEqProofs [t_X12_pass_20, i_aload, i_iload, i_lload, i_istore, i_lstore, i_astore, i_iinc, i_push, i_getI, i_getJ, i_getR, i_putI, i_putJ, i_putR, i_iadd, i_isub, i_imul, i_iand, i_ior, i_ixor, i_ishl, i_ishr, i_iushr, i_idiv, i_irem, i_ladd, i_lsub, i_lmul, i_land, i_lor, i_lxor, i_ldiv, i_lrem, i_lshl, i_lshr, i_lcmp, i_ineg, i_lneg, i_i2l, i_l2i, i_i2b, i_i2c, i_dup, i_pop, i_dup_x1, i_dup2, i_icmp_eq, i_icmp_lt, i_icmp_ge, i_icmp_gt, i_icmp_le, i_if_eq, i_if_lt, i_if_ge, i_if_gt, i_if_le, i_goto, i_ifnull, i_iald, i_bald, i_zald, i_lald, i_aald, i_iast, i_bast, i_zast, i_last, i_alen, i_iret, i_lret, i_aret, i_vret, i_oinit, i_cast, i_tsw, i_cases, i_mmin, i_mmax, i_lmin, i_throw, nb0, nb1, nint, nby0, rf_s, rf_n, of_r, of_n, tk_orf_rf, tk_c2, tk_ls, Value.category, tk_isR_ref, tk_isR_rf, tk_isR_null, z_q_L_s_I, z_q_K_s_I, z_q_I_s_I, z_q_J_s_I, z_q_R_s_I, z_q_n_s_I, z_q_aI_s_I, z_q_aJ_s_I, z_q_aR_s_I, z_q_L_s_J, z_q_K_s_J, z_q_I_s_J, z_q_J_s_J, z_q_R_s_J, z_q_n_s_J, z_q_aI_s_J, z_q_aJ_s_J, z_q_aR_s_J, z_q_L_s_R, z_q_K_s_R, z_q_I_s_R, z_q_J_s_R, z_q_R_s_R, z_q_n_s_R, z_q_aI_s_R, z_q_aJ_s_R, z_q_aR_s_R, z_q_L_s_aI, z_q_K_s_aI, z_q_I_s_aI, z_q_J_s_aI, z_q_R_s_aI, z_q_n_s_aI, z_q_aI_s_aI, z_q_aJ_s_aI, z_q_aR_s_aI, z_q_L_s_aJ, z_q_K_s_aJ, z_q_I_s_aJ, z_q_J_s_aJ, z_q_R_s_aJ, z_q_n_s_aJ, z_q_aI_s_aJ, z_q_aJ_s_aJ, z_q_aR_s_aJ, z_q_L_s_aR, z_q_K_s_aR, z_q_I_s_aR, z_q_J_s_aR, z_q_R_s_aR, z_q_n_s_aR, z_q_aI_s_aR, z_q_aJ_s_aR, z_q_aR_s_aR, z_q_L_s_new, z_q_K_s_new, z_q_I_s_new, z_q_J_s_new, z_q_R_s_new, z_q_n_s_new, z_q_aI_s_new, z_q_aJ_s_new, z_q_aR_s_new, z_q_L_s_arr, z_q_K_s_arr, z_q_I_s_arr, z_q_J_s_arr, z_q_R_s_arr, z_q_n_s_arr, z_q_aI_s_arr, z_q_aJ_s_arr, z_q_aR_s_arr, h1, h2]
    refine ⟨by simp, h1, h2, by simp [Value.category], 0, 0, 0, by omega, by omega, by omega, ?_⟩
    refine r_badF ?_
    simp -implicitDefEqProofs [i_aload, i_iload, i_lload, i_istore, i_lstore, i_astore, i_iinc, i_push, i_getI, i_getJ, i_getR, i_putI, i_putJ, i_putR, i_iadd, i_isub, i_imul, i_iand, i_ior, i_ixor, i_ishl, i_ishr, i_iushr, i_idiv, i_irem, i_ladd, i_lsub, i_lmul, i_land, i_lor, i_lxor, i_ldiv, i_lrem, i_lshl, i_lshr, i_lcmp, i_ineg, i_lneg, i_i2l, i_l2i, i_i2b, i_i2c, i_dup, i_pop, i_dup_x1, i_dup2, i_icmp_eq, i_icmp_lt, i_icmp_ge, i_icmp_gt, i_icmp_le, i_if_eq, i_if_lt, i_if_ge, i_if_gt, i_if_le, i_goto, i_ifnull, i_iald, i_bald, i_zald, i_lald, i_aald, i_iast, i_bast, i_zast, i_last, i_alen, i_iret, i_lret, i_aret, i_vret, i_oinit, i_cast, i_tsw, i_cases, i_mmin, i_mmax, i_lmin, i_throw, nb0, nb1, nint, nby0, rf_s, rf_n, of_r, of_n, tk_orf_rf, tk_c2, tk_ls, Value.category, tk_isR_ref, tk_isR_rf, tk_isR_null, z_q_L_s_I, z_q_K_s_I, z_q_I_s_I, z_q_J_s_I, z_q_R_s_I, z_q_n_s_I, z_q_aI_s_I, z_q_aJ_s_I, z_q_aR_s_I, z_q_L_s_J, z_q_K_s_J, z_q_I_s_J, z_q_J_s_J, z_q_R_s_J, z_q_n_s_J, z_q_aI_s_J, z_q_aJ_s_J, z_q_aR_s_J, z_q_L_s_R, z_q_K_s_R, z_q_I_s_R, z_q_J_s_R, z_q_R_s_R, z_q_n_s_R, z_q_aI_s_R, z_q_aJ_s_R, z_q_aR_s_R, z_q_L_s_aI, z_q_K_s_aI, z_q_I_s_aI, z_q_J_s_aI, z_q_R_s_aI, z_q_n_s_aI, z_q_aI_s_aI, z_q_aJ_s_aI, z_q_aR_s_aI, z_q_L_s_aJ, z_q_K_s_aJ, z_q_I_s_aJ, z_q_J_s_aJ, z_q_R_s_aJ, z_q_n_s_aJ, z_q_aI_s_aJ, z_q_aJ_s_aJ, z_q_aR_s_aJ, z_q_L_s_aR, z_q_K_s_aR, z_q_I_s_aR, z_q_J_s_aR, z_q_R_s_aR, z_q_n_s_aR, z_q_aI_s_aR, z_q_aJ_s_aR, z_q_aR_s_aR, z_q_L_s_new, z_q_K_s_new, z_q_I_s_new, z_q_J_s_new, z_q_R_s_new, z_q_n_s_new, z_q_aI_s_new, z_q_aJ_s_new, z_q_aR_s_new, z_q_L_s_arr, z_q_K_s_arr, z_q_I_s_arr, z_q_J_s_arr, z_q_R_s_arr, z_q_n_s_arr, z_q_aI_s_arr, z_q_aJ_s_arr, z_q_aR_s_arr, h1, h2, e32]
    refine ⟨by simp, h1, h2, by simp [Value.category], 0, 0, 0, by omega, by omega, by omega, ?_⟩
    refine r_forceOf (acts := M.2.1) hO1 ((hR.iI 0 0).1.2 9 _ _ rfl) (by simpa -implicitDefEqProofs [z_q_L_s_I, z_q_K_s_I, z_q_I_s_I, z_q_J_s_I, z_q_R_s_I, z_q_n_s_I, z_q_aI_s_I, z_q_aJ_s_I, z_q_aR_s_I, z_q_L_s_J, z_q_K_s_J, z_q_I_s_J, z_q_J_s_J, z_q_R_s_J, z_q_n_s_J, z_q_aI_s_J, z_q_aJ_s_J, z_q_aR_s_J, z_q_L_s_R, z_q_K_s_R, z_q_I_s_R, z_q_J_s_R, z_q_R_s_R, z_q_n_s_R, z_q_aI_s_R, z_q_aJ_s_R, z_q_aR_s_R, z_q_L_s_aI, z_q_K_s_aI, z_q_I_s_aI, z_q_J_s_aI, z_q_R_s_aI, z_q_n_s_aI, z_q_aI_s_aI, z_q_aJ_s_aI, z_q_aR_s_aI, z_q_L_s_aJ, z_q_K_s_aJ, z_q_I_s_aJ, z_q_J_s_aJ, z_q_R_s_aJ, z_q_n_s_aJ, z_q_aI_s_aJ, z_q_aJ_s_aJ, z_q_aR_s_aJ, z_q_L_s_aR, z_q_K_s_aR, z_q_I_s_aR, z_q_J_s_aR, z_q_R_s_aR, z_q_n_s_aR, z_q_aI_s_aR, z_q_aJ_s_aR, z_q_aR_s_aR, z_q_L_s_new, z_q_K_s_new, z_q_I_s_new, z_q_J_s_new, z_q_R_s_new, z_q_n_s_new, z_q_aI_s_new, z_q_aJ_s_new, z_q_aR_s_new, z_q_L_s_arr, z_q_K_s_arr, z_q_I_s_arr, z_q_J_s_arr, z_q_R_s_arr, z_q_n_s_arr, z_q_aI_s_arr, z_q_aJ_s_arr, z_q_aR_s_arr] using e18) hl12 (fun a A hA => ⟨by rw [show q_aI (s_I S 13 0 m 0) (R 9) = q_aI S (R 9) by simp -implicitDefEqProofs [z_q_L_s_I, z_q_K_s_I, z_q_I_s_I, z_q_J_s_I, z_q_R_s_I, z_q_n_s_I, z_q_aI_s_I, z_q_aJ_s_I, z_q_aR_s_I, z_q_L_s_J, z_q_K_s_J, z_q_I_s_J, z_q_J_s_J, z_q_R_s_J, z_q_n_s_J, z_q_aI_s_J, z_q_aJ_s_J, z_q_aR_s_J, z_q_L_s_R, z_q_K_s_R, z_q_I_s_R, z_q_J_s_R, z_q_R_s_R, z_q_n_s_R, z_q_aI_s_R, z_q_aJ_s_R, z_q_aR_s_R, z_q_L_s_aI, z_q_K_s_aI, z_q_I_s_aI, z_q_J_s_aI, z_q_R_s_aI, z_q_n_s_aI, z_q_aI_s_aI, z_q_aJ_s_aI, z_q_aR_s_aI, z_q_L_s_aJ, z_q_K_s_aJ, z_q_I_s_aJ, z_q_J_s_aJ, z_q_R_s_aJ, z_q_n_s_aJ, z_q_aI_s_aJ, z_q_aJ_s_aJ, z_q_aR_s_aJ, z_q_L_s_aR, z_q_K_s_aR, z_q_I_s_aR, z_q_J_s_aR, z_q_R_s_aR, z_q_n_s_aR, z_q_aI_s_aR, z_q_aJ_s_aR, z_q_aR_s_aR, z_q_L_s_new, z_q_K_s_new, z_q_I_s_new, z_q_J_s_new, z_q_R_s_new, z_q_n_s_new, z_q_aI_s_new, z_q_aJ_s_new, z_q_aR_s_new, z_q_L_s_arr, z_q_K_s_arr, z_q_I_s_arr, z_q_J_s_arr, z_q_R_s_arr, z_q_n_s_arr, z_q_aI_s_arr, z_q_aJ_s_arr, z_q_aR_s_arr], x9]; exact hv9 a A hA, hda a A hA⟩) ?_
    simp -implicitDefEqProofs [i_aload, i_iload, i_lload, i_istore, i_lstore, i_astore, i_iinc, i_push, i_getI, i_getJ, i_getR, i_putI, i_putJ, i_putR, i_iadd, i_isub, i_imul, i_iand, i_ior, i_ixor, i_ishl, i_ishr, i_iushr, i_idiv, i_irem, i_ladd, i_lsub, i_lmul, i_land, i_lor, i_lxor, i_ldiv, i_lrem, i_lshl, i_lshr, i_lcmp, i_ineg, i_lneg, i_i2l, i_l2i, i_i2b, i_i2c, i_dup, i_pop, i_dup_x1, i_dup2, i_icmp_eq, i_icmp_lt, i_icmp_ge, i_icmp_gt, i_icmp_le, i_if_eq, i_if_lt, i_if_ge, i_if_gt, i_if_le, i_goto, i_ifnull, i_iald, i_bald, i_zald, i_lald, i_aald, i_iast, i_bast, i_zast, i_last, i_alen, i_iret, i_lret, i_aret, i_vret, i_oinit, i_cast, i_tsw, i_cases, i_mmin, i_mmax, i_lmin, i_throw, nb0, nb1, nint, nby0, rf_s, rf_n, of_r, of_n, tk_orf_rf, tk_c2, tk_ls, Value.category, tk_isR_ref, tk_isR_rf, tk_isR_null, z_q_L_s_I, z_q_K_s_I, z_q_I_s_I, z_q_J_s_I, z_q_R_s_I, z_q_n_s_I, z_q_aI_s_I, z_q_aJ_s_I, z_q_aR_s_I, z_q_L_s_J, z_q_K_s_J, z_q_I_s_J, z_q_J_s_J, z_q_R_s_J, z_q_n_s_J, z_q_aI_s_J, z_q_aJ_s_J, z_q_aR_s_J, z_q_L_s_R, z_q_K_s_R, z_q_I_s_R, z_q_J_s_R, z_q_R_s_R, z_q_n_s_R, z_q_aI_s_R, z_q_aJ_s_R, z_q_aR_s_R, z_q_L_s_aI, z_q_K_s_aI, z_q_I_s_aI, z_q_J_s_aI, z_q_R_s_aI, z_q_n_s_aI, z_q_aI_s_aI, z_q_aJ_s_aI, z_q_aR_s_aI, z_q_L_s_aJ, z_q_K_s_aJ, z_q_I_s_aJ, z_q_J_s_aJ, z_q_R_s_aJ, z_q_n_s_aJ, z_q_aI_s_aJ, z_q_aJ_s_aJ, z_q_aR_s_aJ, z_q_L_s_aR, z_q_K_s_aR, z_q_I_s_aR, z_q_J_s_aR, z_q_R_s_aR, z_q_n_s_aR, z_q_aI_s_aR, z_q_aJ_s_aR, z_q_aR_s_aR, z_q_L_s_new, z_q_K_s_new, z_q_I_s_new, z_q_J_s_new, z_q_R_s_new, z_q_n_s_new, z_q_aI_s_new, z_q_aJ_s_new, z_q_aR_s_new, z_q_L_s_arr, z_q_K_s_arr, z_q_I_s_arr, z_q_J_s_arr, z_q_R_s_arr, z_q_n_s_arr, z_q_aI_s_arr, z_q_aJ_s_arr, z_q_aR_s_arr, h1, h2]
    refine ⟨by simp, h1, h2, by simp [Value.category], 3, 0, 0, by omega, by omega, by omega, ?_⟩
    rcases actM_ok M.2.1 0 (nI M.2.2.2.2.2.2.2.2.1) (-1) (-1) with hm1 | ⟨b, hb0, hb1, hb2⟩
    · have hpay : passPay M t g = (0, -1) := by
        unfold passPay
        rw [hm1]
        split
        · rfl
        · rfl
      rw [hpay] at go
      rw [hm1]
      refine r_toll0 (hR0.iI 0 0) (by decide) (fun S' ρ' R' hR' => ?_)
      refine go (vA V 34) (vA V 36) ρ' S' R' (RS.cast hR' ?_)
      show _ = wI (wA (wA (wI V 0 0) 34 (vA V 34)) 36 (vA V 36)) 35 (-1)
      rw [show wA (wI V 0 0) 34 (vA V 34) = wI V 0 0 from wA_id (wI V 0 0) 34, show wA (wI V 0 0) 36 (vA V 36) = wI V 0 0 from wA_id (wI V 0 0) 36]
    · have hbl : b < M.2.1.length := by omega
      have hA : M.2.1[b]? = some M.2.1[b] := List.getElem?_eq_getElem hbl
      have hpay : passPay M t g = payOf M M.2.1[b] t g := by
        unfold passPay
        rw [hb2, nI_clamp (by omega), hA]
        dsimp only
        rw [if_neg (nI_pos (by omega))]
      rw [hpay] at go
      rw [hb2, htt, hgg]
      refine rr_toll (A := M.2.1[b]) (Nat.le_refl 3) (hR0.iI 0 0) (hI0.t0 0) hB0 hla0 hk hhw hA ht hg (fun f h => ?_)
      intro S' ρ' R' hR'
      have gg := go f h ρ' S' R' hR'
      rw [htt, hgg] at gg
      exact gg
  have e25 : q_I S 13 25 m = nI M.2.2.2.2.1.1 := by
    obtain ⟨⟨tn, tg, tp⟩, acts, ⟨nS, pr, wo⟩, ⟨nG, os, ps, ls, re, su, du, le, nb, bf, br, bs⟩, ⟨nV, kd, wh, be, bi, pa, pd, la⟩, ⟨nF, mo⟩, ⟨nL, lsu, lra, lrk, ldu⟩, ⟨jn, jb, jd, jk, jw, js, jh⟩, ⟨td, dry, lc⟩⟩ := M
    exact (hR.2.1.1 25).trans hI.2.2.2.2.1.1
  have e31 : q_I S 13 31 m = nI M.2.2.2.1.1 := by
    obtain ⟨⟨tn, tg, tp⟩, acts, ⟨nS, pr, wo⟩, ⟨nG, os, ps, ls, re, su, du, le, nb, bf, br, bs⟩, ⟨nV, kd, wh, be, bi, pa, pd, la⟩, ⟨nF, mo⟩, ⟨nL, lsu, lra, lrk, ldu⟩, ⟨jn, jb, jd, jk, jw, js, jh⟩, ⟨td, dry, lc⟩⟩ := M
    exact (hR.2.1.1 31).trans hI.2.2.2.1.1
  have nV60 : M.2.2.2.2.1.1 ≤ 60 := by
    obtain ⟨⟨tn, tg, tp⟩, acts, ⟨nS, pr, wo⟩, ⟨nG, os, ps, ls, re, su, du, le, nb, bf, br, bs⟩, ⟨nV, kd, wh, be, bi, pa, pd, la⟩, ⟨nF, mo⟩, ⟨nL, lsu, lra, lrk, ldu⟩, ⟨jn, jb, jd, jk, jw, js, jh⟩, ⟨td, dry, lc⟩⟩ := M
    exact hB.2.2.2.2.2.2.1
  have nG8 : M.2.2.2.1.1 ≤ 8 := by
    obtain ⟨⟨tn, tg, tp⟩, acts, ⟨nS, pr, wo⟩, ⟨nG, os, ps, ls, re, su, du, le, nb, bf, br, bs⟩, ⟨nV, kd, wh, be, bi, pa, pd, la⟩, ⟨nF, mo⟩, ⟨nL, lsu, lra, lrk, ldu⟩, ⟨jn, jb, jd, jk, jw, js, jh⟩, ⟨td, dry, lc⟩⟩ := M
    exact hB.2.2.2.2.1
  simp -implicitDefEqProofs [t_X12_pass_0, i_aload, i_iload, i_lload, i_istore, i_lstore, i_astore, i_iinc, i_push, i_getI, i_getJ, i_getR, i_putI, i_putJ, i_putR, i_iadd, i_isub, i_imul, i_iand, i_ior, i_ixor, i_ishl, i_ishr, i_iushr, i_idiv, i_irem, i_ladd, i_lsub, i_lmul, i_land, i_lor, i_lxor, i_ldiv, i_lrem, i_lshl, i_lshr, i_lcmp, i_ineg, i_lneg, i_i2l, i_l2i, i_i2b, i_i2c, i_dup, i_pop, i_dup_x1, i_dup2, i_icmp_eq, i_icmp_lt, i_icmp_ge, i_icmp_gt, i_icmp_le, i_if_eq, i_if_lt, i_if_ge, i_if_gt, i_if_le, i_goto, i_ifnull, i_iald, i_bald, i_zald, i_lald, i_aald, i_iast, i_bast, i_zast, i_last, i_alen, i_iret, i_lret, i_aret, i_vret, i_oinit, i_cast, i_tsw, i_cases, i_mmin, i_mmax, i_lmin, i_throw, nb0, nb1, nint, nby0, rf_s, rf_n, of_r, of_n, tk_orf_rf, tk_c2, tk_ls, Value.category, tk_isR_ref, tk_isR_rf, tk_isR_null, z_q_L_s_I, z_q_K_s_I, z_q_I_s_I, z_q_J_s_I, z_q_R_s_I, z_q_n_s_I, z_q_aI_s_I, z_q_aJ_s_I, z_q_aR_s_I, z_q_L_s_J, z_q_K_s_J, z_q_I_s_J, z_q_J_s_J, z_q_R_s_J, z_q_n_s_J, z_q_aI_s_J, z_q_aJ_s_J, z_q_aR_s_J, z_q_L_s_R, z_q_K_s_R, z_q_I_s_R, z_q_J_s_R, z_q_R_s_R, z_q_n_s_R, z_q_aI_s_R, z_q_aJ_s_R, z_q_aR_s_R, z_q_L_s_aI, z_q_K_s_aI, z_q_I_s_aI, z_q_J_s_aI, z_q_R_s_aI, z_q_n_s_aI, z_q_aI_s_aI, z_q_aJ_s_aI, z_q_aR_s_aI, z_q_L_s_aJ, z_q_K_s_aJ, z_q_I_s_aJ, z_q_J_s_aJ, z_q_R_s_aJ, z_q_n_s_aJ, z_q_aI_s_aJ, z_q_aJ_s_aJ, z_q_aR_s_aJ, z_q_L_s_aR, z_q_K_s_aR, z_q_I_s_aR, z_q_J_s_aR, z_q_R_s_aR, z_q_n_s_aR, z_q_aI_s_aR, z_q_aJ_s_aR, z_q_aR_s_aR, z_q_L_s_new, z_q_K_s_new, z_q_I_s_new, z_q_J_s_new, z_q_R_s_new, z_q_n_s_new, z_q_aI_s_new, z_q_aJ_s_new, z_q_aR_s_new, z_q_L_s_arr, z_q_K_s_arr, z_q_I_s_arr, z_q_J_s_arr, z_q_R_s_arr, z_q_n_s_arr, z_q_aI_s_arr, z_q_aJ_s_arr, z_q_aR_s_arr, h1, h2]
  refine ⟨by simp, h1, h2, by simp [Value.category], 0, 0, 0, by omega, by omega, by omega, ?_⟩
  refine r_isPass (n1 := nI M.2.2.2.2.1.1) (n2 := nI M.2.2.2.1.1) hO1 (by simpa -implicitDefEqProofs [z_q_L_s_I, z_q_K_s_I, z_q_I_s_I, z_q_J_s_I, z_q_R_s_I, z_q_n_s_I, z_q_aI_s_I, z_q_aJ_s_I, z_q_aR_s_I, z_q_L_s_J, z_q_K_s_J, z_q_I_s_J, z_q_J_s_J, z_q_R_s_J, z_q_n_s_J, z_q_aI_s_J, z_q_aJ_s_J, z_q_aR_s_J, z_q_L_s_R, z_q_K_s_R, z_q_I_s_R, z_q_J_s_R, z_q_R_s_R, z_q_n_s_R, z_q_aI_s_R, z_q_aJ_s_R, z_q_aR_s_R, z_q_L_s_aI, z_q_K_s_aI, z_q_I_s_aI, z_q_J_s_aI, z_q_R_s_aI, z_q_n_s_aI, z_q_aI_s_aI, z_q_aJ_s_aI, z_q_aR_s_aI, z_q_L_s_aJ, z_q_K_s_aJ, z_q_I_s_aJ, z_q_J_s_aJ, z_q_R_s_aJ, z_q_n_s_aJ, z_q_aI_s_aJ, z_q_aJ_s_aJ, z_q_aR_s_aJ, z_q_L_s_aR, z_q_K_s_aR, z_q_I_s_aR, z_q_J_s_aR, z_q_R_s_aR, z_q_n_s_aR, z_q_aI_s_aR, z_q_aJ_s_aR, z_q_aR_s_aR, z_q_L_s_new, z_q_K_s_new, z_q_I_s_new, z_q_J_s_new, z_q_R_s_new, z_q_n_s_new, z_q_aI_s_new, z_q_aJ_s_new, z_q_aR_s_new, z_q_L_s_arr, z_q_K_s_arr, z_q_I_s_arr, z_q_J_s_arr, z_q_R_s_arr, z_q_n_s_arr, z_q_aI_s_arr, z_q_aJ_s_arr, z_q_aR_s_arr] using e25) (by simpa -implicitDefEqProofs [z_q_L_s_I, z_q_K_s_I, z_q_I_s_I, z_q_J_s_I, z_q_R_s_I, z_q_n_s_I, z_q_aI_s_I, z_q_aJ_s_I, z_q_aR_s_I, z_q_L_s_J, z_q_K_s_J, z_q_I_s_J, z_q_J_s_J, z_q_R_s_J, z_q_n_s_J, z_q_aI_s_J, z_q_aJ_s_J, z_q_aR_s_J, z_q_L_s_R, z_q_K_s_R, z_q_I_s_R, z_q_J_s_R, z_q_R_s_R, z_q_n_s_R, z_q_aI_s_R, z_q_aJ_s_R, z_q_aR_s_R, z_q_L_s_aI, z_q_K_s_aI, z_q_I_s_aI, z_q_J_s_aI, z_q_R_s_aI, z_q_n_s_aI, z_q_aI_s_aI, z_q_aJ_s_aI, z_q_aR_s_aI, z_q_L_s_aJ, z_q_K_s_aJ, z_q_I_s_aJ, z_q_J_s_aJ, z_q_R_s_aJ, z_q_n_s_aJ, z_q_aI_s_aJ, z_q_aJ_s_aJ, z_q_aR_s_aJ, z_q_L_s_aR, z_q_K_s_aR, z_q_I_s_aR, z_q_J_s_aR, z_q_R_s_aR, z_q_n_s_aR, z_q_aI_s_aR, z_q_aJ_s_aR, z_q_aR_s_aR, z_q_L_s_new, z_q_K_s_new, z_q_I_s_new, z_q_J_s_new, z_q_R_s_new, z_q_n_s_new, z_q_aI_s_new, z_q_aJ_s_new, z_q_aR_s_new, z_q_L_s_arr, z_q_K_s_arr, z_q_I_s_arr, z_q_J_s_arr, z_q_R_s_arr, z_q_n_s_arr, z_q_aI_s_arr, z_q_aJ_s_arr, z_q_aR_s_arr] using e31) (fun w => ?_) (fun w => ?_)
  · simp -implicitDefEqProofs [i_aload, i_iload, i_lload, i_istore, i_lstore, i_astore, i_iinc, i_push, i_getI, i_getJ, i_getR, i_putI, i_putJ, i_putR, i_iadd, i_isub, i_imul, i_iand, i_ior, i_ixor, i_ishl, i_ishr, i_iushr, i_idiv, i_irem, i_ladd, i_lsub, i_lmul, i_land, i_lor, i_lxor, i_ldiv, i_lrem, i_lshl, i_lshr, i_lcmp, i_ineg, i_lneg, i_i2l, i_l2i, i_i2b, i_i2c, i_dup, i_pop, i_dup_x1, i_dup2, i_icmp_eq, i_icmp_lt, i_icmp_ge, i_icmp_gt, i_icmp_le, i_if_eq, i_if_lt, i_if_ge, i_if_gt, i_if_le, i_goto, i_ifnull, i_iald, i_bald, i_zald, i_lald, i_aald, i_iast, i_bast, i_zast, i_last, i_alen, i_iret, i_lret, i_aret, i_vret, i_oinit, i_cast, i_tsw, i_cases, i_mmin, i_mmax, i_lmin, i_throw, nb0, nb1, nint, nby0, rf_s, rf_n, of_r, of_n, tk_orf_rf, tk_c2, tk_ls, Value.category, tk_isR_ref, tk_isR_rf, tk_isR_null, z_q_L_s_I, z_q_K_s_I, z_q_I_s_I, z_q_J_s_I, z_q_R_s_I, z_q_n_s_I, z_q_aI_s_I, z_q_aJ_s_I, z_q_aR_s_I, z_q_L_s_J, z_q_K_s_J, z_q_I_s_J, z_q_J_s_J, z_q_R_s_J, z_q_n_s_J, z_q_aI_s_J, z_q_aJ_s_J, z_q_aR_s_J, z_q_L_s_R, z_q_K_s_R, z_q_I_s_R, z_q_J_s_R, z_q_R_s_R, z_q_n_s_R, z_q_aI_s_R, z_q_aJ_s_R, z_q_aR_s_R, z_q_L_s_aI, z_q_K_s_aI, z_q_I_s_aI, z_q_J_s_aI, z_q_R_s_aI, z_q_n_s_aI, z_q_aI_s_aI, z_q_aJ_s_aI, z_q_aR_s_aI, z_q_L_s_aJ, z_q_K_s_aJ, z_q_I_s_aJ, z_q_J_s_aJ, z_q_R_s_aJ, z_q_n_s_aJ, z_q_aI_s_aJ, z_q_aJ_s_aJ, z_q_aR_s_aJ, z_q_L_s_aR, z_q_K_s_aR, z_q_I_s_aR, z_q_J_s_aR, z_q_R_s_aR, z_q_n_s_aR, z_q_aI_s_aR, z_q_aJ_s_aR, z_q_aR_s_aR, z_q_L_s_new, z_q_K_s_new, z_q_I_s_new, z_q_J_s_new, z_q_R_s_new, z_q_n_s_new, z_q_aI_s_new, z_q_aJ_s_new, z_q_aR_s_new, z_q_L_s_arr, z_q_K_s_arr, z_q_I_s_arr, z_q_J_s_arr, z_q_R_s_arr, z_q_n_s_arr, z_q_aI_s_arr, z_q_aJ_s_arr, z_q_aR_s_arr, h1, h2]
    obtain ⟨t, ht, htt⟩ := ix_get (by omega) ((ix_in (by omega)).mp w.1)
    obtain ⟨g, hg, hgg⟩ := ix_get (by omega) ((ix_in (by omega)).mp w.2)
    exact good t g ht htt hg hgg
  · simp -implicitDefEqProofs [i_aload, i_iload, i_lload, i_istore, i_lstore, i_astore, i_iinc, i_push, i_getI, i_getJ, i_getR, i_putI, i_putJ, i_putR, i_iadd, i_isub, i_imul, i_iand, i_ior, i_ixor, i_ishl, i_ishr, i_iushr, i_idiv, i_irem, i_ladd, i_lsub, i_lmul, i_land, i_lor, i_lxor, i_ldiv, i_lrem, i_lshl, i_lshr, i_lcmp, i_ineg, i_lneg, i_i2l, i_l2i, i_i2b, i_i2c, i_dup, i_pop, i_dup_x1, i_dup2, i_icmp_eq, i_icmp_lt, i_icmp_ge, i_icmp_gt, i_icmp_le, i_if_eq, i_if_lt, i_if_ge, i_if_gt, i_if_le, i_goto, i_ifnull, i_iald, i_bald, i_zald, i_lald, i_aald, i_iast, i_bast, i_zast, i_last, i_alen, i_iret, i_lret, i_aret, i_vret, i_oinit, i_cast, i_tsw, i_cases, i_mmin, i_mmax, i_lmin, i_throw, nb0, nb1, nint, nby0, rf_s, rf_n, of_r, of_n, tk_orf_rf, tk_c2, tk_ls, Value.category, tk_isR_ref, tk_isR_rf, tk_isR_null, z_q_L_s_I, z_q_K_s_I, z_q_I_s_I, z_q_J_s_I, z_q_R_s_I, z_q_n_s_I, z_q_aI_s_I, z_q_aJ_s_I, z_q_aR_s_I, z_q_L_s_J, z_q_K_s_J, z_q_I_s_J, z_q_J_s_J, z_q_R_s_J, z_q_n_s_J, z_q_aI_s_J, z_q_aJ_s_J, z_q_aR_s_J, z_q_L_s_R, z_q_K_s_R, z_q_I_s_R, z_q_J_s_R, z_q_R_s_R, z_q_n_s_R, z_q_aI_s_R, z_q_aJ_s_R, z_q_aR_s_R, z_q_L_s_aI, z_q_K_s_aI, z_q_I_s_aI, z_q_J_s_aI, z_q_R_s_aI, z_q_n_s_aI, z_q_aI_s_aI, z_q_aJ_s_aI, z_q_aR_s_aI, z_q_L_s_aJ, z_q_K_s_aJ, z_q_I_s_aJ, z_q_J_s_aJ, z_q_R_s_aJ, z_q_n_s_aJ, z_q_aI_s_aJ, z_q_aJ_s_aJ, z_q_aR_s_aJ, z_q_L_s_aR, z_q_K_s_aR, z_q_I_s_aR, z_q_J_s_aR, z_q_R_s_aR, z_q_n_s_aR, z_q_aI_s_aR, z_q_aJ_s_aR, z_q_aR_s_aR, z_q_L_s_new, z_q_K_s_new, z_q_I_s_new, z_q_J_s_new, z_q_R_s_new, z_q_n_s_new, z_q_aI_s_new, z_q_aJ_s_new, z_q_aR_s_new, z_q_L_s_arr, z_q_K_s_arr, z_q_I_s_arr, z_q_J_s_arr, z_q_R_s_arr, z_q_n_s_arr, z_q_aI_s_arr, z_q_aJ_s_arr, z_q_aR_s_arr, h1, h2]
    refine bad ?_
    apply Classical.byContradiction
    intro z
    exact w ⟨(ix_in (by omega)).mpr (fun q => z (Or.inl q)), (ix_in (by omega)).mpr (fun q => z (Or.inr q))⟩
end RPASS

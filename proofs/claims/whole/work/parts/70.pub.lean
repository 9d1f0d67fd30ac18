/-! THE CLASS'S CALLS: acts -/
section PUBA
variable {Z : tk_Z} {d mc ms : Nat} {S : tk_S} {QR : tk_R} {QX : String → tk_S → Prop} {ρ : Nat → Nat} {x : Nat} {gh : gH} {M : Mt}
theorem pActs_good (g : Nat → Int32) {len : Nat} (hl : len ≤ 2000) : ∀ m n s ps, s ≤ len → n ≤ 40 → pActs g len m n s = .inl ps → n + ps.length ≤ 40 ∧ ∀ p ∈ ps, cOK p ∧ p.2.2.2.2.length ≤ 700 := by
  intro m
  induction m with
  | zero =>
    intro n s ps hs hn h
    unfold pActs at h
    cases h
    exact ⟨hn, fun p hp => absurd hp (by simp)⟩
  | succ m ih =>
    intro n s ps hs hn h
    unfold pActs at h
    by_cases w : tkTok g len s = -1
    · rw [if_pos w] at h
      cases h
      exact ⟨hn, fun p hp => absurd hp (by simp)⟩
    rw [if_neg w] at h
    have hg := pClause_good g (n := n) hs
    generalize pClause g len n s = q at h hg
    rcases q with ⟨s', p⟩ | e
    · obtain ⟨a1, a2, a3, a4⟩ := hg
      dsimp only at h
      rcases hq : pActs g len m (n + 1) s' with ps' | ⟨kd, pl, j⟩
      · rw [hq] at h
        cases h
        obtain ⟨b1, b2⟩ := ih (n + 1) s' ps' a2 (by omega) hq
        refine ⟨by simp; omega, fun y hy => ?_⟩
        rcases List.mem_cons.mp hy with rfl | hy
        · exact ⟨a3, by omega⟩
        · exact b2 y hy
      · rw [hq] at h
        cases h
    · cases h
/-- what act leaves, by its reading -/
def actR (Z : tk_Z) (ρ : Nat → Nat) (S : tk_S) (x : Nat) (QR : tk_R) (M : Mt) (day : Int32) : (List pC) ⊕ (Int32 × Nat × Nat) → Prop
  | .inl ps => okC Z ρ S x QR (.int (nI M.2.1.length)) ((0, M.1.2.1, -1), M.2.1 ++ [(day, ps)], M.2.2)
  | .inr (kd, pl, _) => okC Z ρ S x QR (.int (kd - 10)) ((0, M.1.2.1, nI pl), M.2)
set_option maxHeartbeats 8000000 in
theorem c_act {n0 day : Int32} (hst : Z.1.stackTraces = false) (hd : 58 ≤ d) (hZ : Z.2.2.2.2.2.1 ∉ q_L S) (hC : CI Z ρ S x gh M) (hmc : 170 ≤ mc) (hms : 6060 ≤ ms)
    (H1 : ¬ ((0 ≤ n0 ∧ n0 ≤ nI M.1.1) ∧ (0 ≤ day ∧ day ≤ 9999)) → QX "java/lang/IllegalArgumentException" S) (H2 : ((0 ≤ n0 ∧ n0 ≤ nI M.1.1) ∧ (0 ≤ day ∧ day ≤ 9999)) → 12 ≤ M.2.1.length → QX "java/lang/IllegalStateException" S)
    (H0 : ∀ n, n ≤ M.1.1 → n0 = nI n → (0 ≤ day ∧ day ≤ 9999) → M.2.1.length < 12 → actR Z ρ S x QR M day (pActs M.1.2.1 n 2000 0 (tkStart M.1.2.1 n 0))) : tk_M Z mX11_act d mc ms [.ref x, .int n0, .int day] S QR QX := by
  have hC0 := hC
  obtain ⟨fS, fG, fV, p, p2, fF, fL, bl⟩ := gh
  obtain ⟨⟨tn, tg, tp⟩, acts, ⟨nS, pr, wo⟩, ⟨nG, os, ps, ls, re, su, du, le, nb, bf, br, bs⟩, ⟨nV, kd, wh, be, bi, pa, pd, la⟩, ⟨nF, mo⟩, ⟨nL, lsu, lra, lrk, ldu⟩, J, ⟨td, dry, lc⟩⟩ := M
  obtain ⟨cD0, cT0, cK0, cA0, cS0, cG0, cV0, cF0, cL0, cJ0⟩ := hC
  obtain ⟨hx, hk, hρ, htd, ht, hdry, hlc⟩ := cD0
  refine M_X11_act hst (by omega) (Nat.le_of_ble_eq_true rfl) (fun E hE => hE _ _ _ _ _ ?_)
  show t_X11_act_0 Z d mc ms QR QX E [some (.ref x), some (.int n0), some (.int day), none, none] [] S 0 0
  obtain ⟨a, qt, qs, k1, ⟨k2, k3, k4⟩, ⟨k5, k6, k7, k8, k9⟩, ⟨k10, k11, k12, k13, k14⟩, k15, k16, k17, k18⟩ := id cT0
  obtain ⟨l, e, f, h1, h2, h3, h4⟩ := id cA0
  have hl := h2.1
  dsimp only at H1 H2 H0
  simp -implicitDefEqProofs [t_X11_act_0, i_aload, i_iload, i_lload, i_istore, i_lstore, i_astore, i_iinc, i_push, i_getI, i_getJ, i_getR, i_putI, i_putJ, i_putR, i_iadd, i_isub, i_imul, i_iand, i_ior, i_ixor, i_ishl, i_ishr, i_iushr, i_idiv, i_irem, i_ladd, i_lsub, i_lmul, i_land, i_lor, i_lxor, i_ldiv, i_lrem, i_lshl, i_lshr, i_lcmp, i_ineg, i_lneg, i_i2l, i_l2i, i_i2b, i_i2c, i_dup, i_pop, i_dup_x1, i_dup2, i_icmp_eq, i_icmp_lt, i_icmp_ge, i_icmp_gt, i_icmp_le, i_if_eq, i_if_lt, i_if_ge, i_if_gt, i_if_le, i_goto, i_ifnull, i_iald, i_bald, i_zald, i_lald, i_aald, i_iast, i_bast, i_zast, i_last, i_alen, i_iret, i_lret, i_aret, i_vret, i_oinit, i_cast, i_tsw, i_cases, i_mmin, i_mmax, i_lmin, i_throw, nb0, nb1, nint, nby0, rf_s, rf_n, of_r, of_n, tk_orf_rf, tk_c2, tk_ls, Value.category, tk_isR_ref, tk_isR_rf, tk_isR_null, hx, hk, k1, k2, k3, k15]
  refine w_callS (by omega) (by simp) (fun z1 => ?_) (fun z1 => ?_)
  · simp -implicitDefEqProofs [i_aload, i_iload, i_lload, i_istore, i_lstore, i_astore, i_iinc, i_push, i_getI, i_getJ, i_getR, i_putI, i_putJ, i_putR, i_iadd, i_isub, i_imul, i_iand, i_ior, i_ixor, i_ishl, i_ishr, i_iushr, i_idiv, i_irem, i_ladd, i_lsub, i_lmul, i_land, i_lor, i_lxor, i_ldiv, i_lrem, i_lshl, i_lshr, i_lcmp, i_ineg, i_lneg, i_i2l, i_l2i, i_i2b, i_i2c, i_dup, i_pop, i_dup_x1, i_dup2, i_icmp_eq, i_icmp_lt, i_icmp_ge, i_icmp_gt, i_icmp_le, i_if_eq, i_if_lt, i_if_ge, i_if_gt, i_if_le, i_goto, i_ifnull, i_iald, i_bald, i_zald, i_lald, i_aald, i_iast, i_bast, i_zast, i_last, i_alen, i_iret, i_lret, i_aret, i_vret, i_oinit, i_cast, i_tsw, i_cases, i_mmin, i_mmax, i_lmin, i_throw, nb0, nb1, nint, nby0, rf_s, rf_n, of_r, of_n, tk_orf_rf, tk_c2, tk_ls, Value.category, tk_isR_ref, tk_isR_rf, tk_isR_null]
    exact ⟨by omega, by omega, H1 (fun q => z1 q.1)⟩
  simp -implicitDefEqProofs [i_aload, i_iload, i_lload, i_istore, i_lstore, i_astore, i_iinc, i_push, i_getI, i_getJ, i_getR, i_putI, i_putJ, i_putR, i_iadd, i_isub, i_imul, i_iand, i_ior, i_ixor, i_ishl, i_ishr, i_iushr, i_idiv, i_irem, i_ladd, i_lsub, i_lmul, i_land, i_lor, i_lxor, i_ldiv, i_lrem, i_lshl, i_lshr, i_lcmp, i_ineg, i_lneg, i_i2l, i_l2i, i_i2b, i_i2c, i_dup, i_pop, i_dup_x1, i_dup2, i_icmp_eq, i_icmp_lt, i_icmp_ge, i_icmp_gt, i_icmp_le, i_if_eq, i_if_lt, i_if_ge, i_if_gt, i_if_le, i_goto, i_ifnull, i_iald, i_bald, i_zald, i_lald, i_aald, i_iast, i_bast, i_zast, i_last, i_alen, i_iret, i_lret, i_aret, i_vret, i_oinit, i_cast, i_tsw, i_cases, i_mmin, i_mmax, i_lmin, i_throw, nb0, nb1, nint, nby0, rf_s, rf_n, of_r, of_n, tk_orf_rf, tk_c2, tk_ls, Value.category, tk_isR_ref, tk_isR_rf, tk_isR_null]
  refine w_callS (by omega) (by simp) (fun z2 => ?_) (fun z2 => ?_)
  · simp -implicitDefEqProofs [i_aload, i_iload, i_lload, i_istore, i_lstore, i_astore, i_iinc, i_push, i_getI, i_getJ, i_getR, i_putI, i_putJ, i_putR, i_iadd, i_isub, i_imul, i_iand, i_ior, i_ixor, i_ishl, i_ishr, i_iushr, i_idiv, i_irem, i_ladd, i_lsub, i_lmul, i_land, i_lor, i_lxor, i_ldiv, i_lrem, i_lshl, i_lshr, i_lcmp, i_ineg, i_lneg, i_i2l, i_l2i, i_i2b, i_i2c, i_dup, i_pop, i_dup_x1, i_dup2, i_icmp_eq, i_icmp_lt, i_icmp_ge, i_icmp_gt, i_icmp_le, i_if_eq, i_if_lt, i_if_ge, i_if_gt, i_if_le, i_goto, i_ifnull, i_iald, i_bald, i_zald, i_lald, i_aald, i_iast, i_bast, i_zast, i_last, i_alen, i_iret, i_lret, i_aret, i_vret, i_oinit, i_cast, i_tsw, i_cases, i_mmin, i_mmax, i_lmin, i_throw, nb0, nb1, nint, nby0, rf_s, rf_n, of_r, of_n, tk_orf_rf, tk_c2, tk_ls, Value.category, tk_isR_ref, tk_isR_rf, tk_isR_null]
    exact ⟨by omega, by omega, H1 (fun q => z2 q.2)⟩
  replace H2 := H2 ⟨z1, z2⟩
  obtain ⟨n, hn31, rfl⟩ := nI_of (Int32.not_lt.mpr z1.1)
  have hn : n ≤ tn := (nI_leI hn31 (by omega)).mp z1.2
  have H0 := H0 n hn rfl z2
  simp -implicitDefEqProofs [i_aload, i_iload, i_lload, i_istore, i_lstore, i_astore, i_iinc, i_push, i_getI, i_getJ, i_getR, i_putI, i_putJ, i_putR, i_iadd, i_isub, i_imul, i_iand, i_ior, i_ixor, i_ishl, i_ishr, i_iushr, i_idiv, i_irem, i_ladd, i_lsub, i_lmul, i_land, i_lor, i_lxor, i_ldiv, i_lrem, i_lshl, i_lshr, i_lcmp, i_ineg, i_lneg, i_i2l, i_l2i, i_i2b, i_i2c, i_dup, i_pop, i_dup_x1, i_dup2, i_icmp_eq, i_icmp_lt, i_icmp_ge, i_icmp_gt, i_icmp_le, i_if_eq, i_if_lt, i_if_ge, i_if_gt, i_if_le, i_goto, i_ifnull, i_iald, i_bald, i_zald, i_lald, i_aald, i_iast, i_bast, i_zast, i_last, i_alen, i_iret, i_lret, i_aret, i_vret, i_oinit, i_cast, i_tsw, i_cases, i_mmin, i_mmax, i_lmin, i_throw, nb0, nb1, nint, nby0, rf_s, rf_n, of_r, of_n, tk_orf_rf, tk_c2, tk_ls, Value.category, tk_isR_ref, tk_isR_rf, tk_isR_null, hx, hk, h1]
  refine ⟨by simp, hl.1, hl.2.1, by simp [Value.category], 0, 0, 0, by omega, by omega, by omega, ?_⟩
  refine l_size hl ?_
  have zn : (nI acts.length < 12 ↔ acts.length < 12) := nI_ltI (b := 12) (by omega) (by omega)
  simp -implicitDefEqProofs [i_aload, i_iload, i_lload, i_istore, i_lstore, i_astore, i_iinc, i_push, i_getI, i_getJ, i_getR, i_putI, i_putJ, i_putR, i_iadd, i_isub, i_imul, i_iand, i_ior, i_ixor, i_ishl, i_ishr, i_iushr, i_idiv, i_irem, i_ladd, i_lsub, i_lmul, i_land, i_lor, i_lxor, i_ldiv, i_lrem, i_lshl, i_lshr, i_lcmp, i_ineg, i_lneg, i_i2l, i_l2i, i_i2b, i_i2c, i_dup, i_pop, i_dup_x1, i_dup2, i_icmp_eq, i_icmp_lt, i_icmp_ge, i_icmp_gt, i_icmp_le, i_if_eq, i_if_lt, i_if_ge, i_if_gt, i_if_le, i_goto, i_ifnull, i_iald, i_bald, i_zald, i_lald, i_aald, i_iast, i_bast, i_zast, i_last, i_alen, i_iret, i_lret, i_aret, i_vret, i_oinit, i_cast, i_tsw, i_cases, i_mmin, i_mmax, i_lmin, i_throw, nb0, nb1, nint, nby0, rf_s, rf_n, of_r, of_n, tk_orf_rf, tk_c2, tk_ls, Value.category, tk_isR_ref, tk_isR_rf, tk_isR_null, i_new, hx, hk, h1]
  refine ⟨fun w2 => ?_, fun w2 => ?_⟩
  · have hn12 := zn.mp w2
    have H0 := H0 hn12
    refine ⟨by omega, by omega, fun q hq => ?_⟩
    have hxq : x ≠ q := fun z => hq (z ▸ hx)
    have haq : a ≠ q := fun z => hq (z ▸ k2)
    have hs1 : ∀ b, b ∈ q_L S → sameAt S (s_new S 1 q) b := fun b hb => new_same hb hq
    have hLn : q_L (s_new S 1 q) = q_L S ++ [q] := rfl
    refine ⟨by simp, by simp [Value.category], 4, 1, 3, by omega, by omega, by omega, ?_⟩
    refine tk_M.out (m_Act (Nat.le_refl 4) (by simp -implicitDefEqProofs [z_q_L_s_I, z_q_K_s_I, z_q_I_s_I, z_q_J_s_I, z_q_R_s_I, z_q_n_s_I, z_q_aI_s_I, z_q_aJ_s_I, z_q_aR_s_I, z_q_L_s_J, z_q_K_s_J, z_q_I_s_J, z_q_J_s_J, z_q_R_s_J, z_q_n_s_J, z_q_aI_s_J, z_q_aJ_s_J, z_q_aR_s_J, z_q_L_s_R, z_q_K_s_R, z_q_I_s_R, z_q_J_s_R, z_q_R_s_R, z_q_n_s_R, z_q_aI_s_R, z_q_aJ_s_R, z_q_aR_s_R, z_q_L_s_aI, z_q_K_s_aI, z_q_I_s_aI, z_q_J_s_aI, z_q_R_s_aI, z_q_n_s_aI, z_q_aI_s_aI, z_q_aJ_s_aI, z_q_aR_s_aI, z_q_L_s_aJ, z_q_K_s_aJ, z_q_I_s_aJ, z_q_J_s_aJ, z_q_R_s_aJ, z_q_n_s_aJ, z_q_aI_s_aJ, z_q_aJ_s_aJ, z_q_aR_s_aJ, z_q_L_s_aR, z_q_K_s_aR, z_q_I_s_aR, z_q_J_s_aR, z_q_R_s_aR, z_q_n_s_aR, z_q_aI_s_aR, z_q_aJ_s_aR, z_q_aR_s_aR, z_q_L_s_new, z_q_K_s_new, z_q_I_s_new, z_q_J_s_new, z_q_R_s_new, z_q_n_s_new, z_q_aI_s_new, z_q_aJ_s_new, z_q_aR_s_new, z_q_L_s_arr, z_q_K_s_arr, z_q_I_s_arr, z_q_J_s_arr, z_q_R_s_arr, z_q_n_s_arr, z_q_aI_s_arr, z_q_aJ_s_arr, z_q_aR_s_arr]) (by simp -implicitDefEqProofs [z_q_L_s_I, z_q_K_s_I, z_q_I_s_I, z_q_J_s_I, z_q_R_s_I, z_q_n_s_I, z_q_aI_s_I, z_q_aJ_s_I, z_q_aR_s_I, z_q_L_s_J, z_q_K_s_J, z_q_I_s_J, z_q_J_s_J, z_q_R_s_J, z_q_n_s_J, z_q_aI_s_J, z_q_aJ_s_J, z_q_aR_s_J, z_q_L_s_R, z_q_K_s_R, z_q_I_s_R, z_q_J_s_R, z_q_R_s_R, z_q_n_s_R, z_q_aI_s_R, z_q_aJ_s_R, z_q_aR_s_R, z_q_L_s_aI, z_q_K_s_aI, z_q_I_s_aI, z_q_J_s_aI, z_q_R_s_aI, z_q_n_s_aI, z_q_aI_s_aI, z_q_aJ_s_aI, z_q_aR_s_aI, z_q_L_s_aJ, z_q_K_s_aJ, z_q_I_s_aJ, z_q_J_s_aJ, z_q_R_s_aJ, z_q_n_s_aJ, z_q_aI_s_aJ, z_q_aJ_s_aJ, z_q_aR_s_aJ, z_q_L_s_aR, z_q_K_s_aR, z_q_I_s_aR, z_q_J_s_aR, z_q_R_s_aR, z_q_n_s_aR, z_q_aI_s_aR, z_q_aJ_s_aR, z_q_aR_s_aR, z_q_L_s_new, z_q_K_s_new, z_q_I_s_new, z_q_J_s_new, z_q_R_s_new, z_q_n_s_new, z_q_aI_s_new, z_q_aJ_s_new, z_q_aR_s_new, z_q_L_s_arr, z_q_K_s_arr, z_q_I_s_arr, z_q_J_s_arr, z_q_R_s_arr, z_q_n_s_arr, z_q_aI_s_arr, z_q_aJ_s_arr, z_q_aR_s_arr]) (Nat.le_refl 1) (Nat.le_refl 3) (fun lc0 hl0 hZ2 => ?_))
    have hql : q ≠ lc0 := fun z => hl0 (by rw [hLn, ← z]; simp)
    have hlS : ∀ b, b ∈ q_L S → b ≠ lc0 := fun b hb z => hl0 (by rw [hLn, ← z]; simp [hb])
    generalize hS2 : s_I (s_R (s_R (s_I (s_new (s_new S 1 q) 0 lc0) 0 0 lc0 0) 0 1 lc0 (some Z.2.2.2.2.2.1)) 1 1 q (some lc0)) 1 0 q day = S2 at hZ2 ⊢
    have L2 : q_L S2 = q_L S ++ [q] ++ [lc0] := by rw [← hS2]; rfl
    have hs2 : ∀ b, b ∈ q_L S → sameAt S S2 b := fun b hb => by
      have n1 : b ≠ q := fun z => hq (z ▸ hb)
      have n2 := hlS b hb
      rw [← hS2]
      simp -implicitDefEqProofs [sameAt, z_q_L_s_I, z_q_K_s_I, z_q_I_s_I, z_q_J_s_I, z_q_R_s_I, z_q_n_s_I, z_q_aI_s_I, z_q_aJ_s_I, z_q_aR_s_I, z_q_L_s_J, z_q_K_s_J, z_q_I_s_J, z_q_J_s_J, z_q_R_s_J, z_q_n_s_J, z_q_aI_s_J, z_q_aJ_s_J, z_q_aR_s_J, z_q_L_s_R, z_q_K_s_R, z_q_I_s_R, z_q_J_s_R, z_q_R_s_R, z_q_n_s_R, z_q_aI_s_R, z_q_aJ_s_R, z_q_aR_s_R, z_q_L_s_aI, z_q_K_s_aI, z_q_I_s_aI, z_q_J_s_aI, z_q_R_s_aI, z_q_n_s_aI, z_q_aI_s_aI, z_q_aJ_s_aI, z_q_aR_s_aI, z_q_L_s_aJ, z_q_K_s_aJ, z_q_I_s_aJ, z_q_J_s_aJ, z_q_R_s_aJ, z_q_n_s_aJ, z_q_aI_s_aJ, z_q_aJ_s_aJ, z_q_aR_s_aJ, z_q_L_s_aR, z_q_K_s_aR, z_q_I_s_aR, z_q_J_s_aR, z_q_R_s_aR, z_q_n_s_aR, z_q_aI_s_aR, z_q_aJ_s_aR, z_q_aR_s_aR, z_q_L_s_new, z_q_K_s_new, z_q_I_s_new, z_q_J_s_new, z_q_R_s_new, z_q_n_s_new, z_q_aI_s_new, z_q_aJ_s_new, z_q_aR_s_new, z_q_L_s_arr, z_q_K_s_arr, z_q_I_s_arr, z_q_J_s_arr, z_q_R_s_arr, z_q_n_s_arr, z_q_aI_s_arr, z_q_aJ_s_arr, z_q_aR_s_arr, hb, n1, n2]
    have q2 : q ∈ q_L S2 ∧ q_K S2 q = 1 ∧ q_R S2 1 1 q = some lc0 ∧ q_I S2 1 0 q = day := by
      rw [← hS2]
      exact ⟨by simp -implicitDefEqProofs [z_q_L_s_I, z_q_K_s_I, z_q_I_s_I, z_q_J_s_I, z_q_R_s_I, z_q_n_s_I, z_q_aI_s_I, z_q_aJ_s_I, z_q_aR_s_I, z_q_L_s_J, z_q_K_s_J, z_q_I_s_J, z_q_J_s_J, z_q_R_s_J, z_q_n_s_J, z_q_aI_s_J, z_q_aJ_s_J, z_q_aR_s_J, z_q_L_s_R, z_q_K_s_R, z_q_I_s_R, z_q_J_s_R, z_q_R_s_R, z_q_n_s_R, z_q_aI_s_R, z_q_aJ_s_R, z_q_aR_s_R, z_q_L_s_aI, z_q_K_s_aI, z_q_I_s_aI, z_q_J_s_aI, z_q_R_s_aI, z_q_n_s_aI, z_q_aI_s_aI, z_q_aJ_s_aI, z_q_aR_s_aI, z_q_L_s_aJ, z_q_K_s_aJ, z_q_I_s_aJ, z_q_J_s_aJ, z_q_R_s_aJ, z_q_n_s_aJ, z_q_aI_s_aJ, z_q_aJ_s_aJ, z_q_aR_s_aJ, z_q_L_s_aR, z_q_K_s_aR, z_q_I_s_aR, z_q_J_s_aR, z_q_R_s_aR, z_q_n_s_aR, z_q_aI_s_aR, z_q_aJ_s_aR, z_q_aR_s_aR, z_q_L_s_new, z_q_K_s_new, z_q_I_s_new, z_q_J_s_new, z_q_R_s_new, z_q_n_s_new, z_q_aI_s_new, z_q_aJ_s_new, z_q_aR_s_new, z_q_L_s_arr, z_q_K_s_arr, z_q_I_s_arr, z_q_J_s_arr, z_q_R_s_arr, z_q_n_s_arr, z_q_aI_s_arr, z_q_aJ_s_arr, z_q_aR_s_arr], by simp -implicitDefEqProofs [z_q_L_s_I, z_q_K_s_I, z_q_I_s_I, z_q_J_s_I, z_q_R_s_I, z_q_n_s_I, z_q_aI_s_I, z_q_aJ_s_I, z_q_aR_s_I, z_q_L_s_J, z_q_K_s_J, z_q_I_s_J, z_q_J_s_J, z_q_R_s_J, z_q_n_s_J, z_q_aI_s_J, z_q_aJ_s_J, z_q_aR_s_J, z_q_L_s_R, z_q_K_s_R, z_q_I_s_R, z_q_J_s_R, z_q_R_s_R, z_q_n_s_R, z_q_aI_s_R, z_q_aJ_s_R, z_q_aR_s_R, z_q_L_s_aI, z_q_K_s_aI, z_q_I_s_aI, z_q_J_s_aI, z_q_R_s_aI, z_q_n_s_aI, z_q_aI_s_aI, z_q_aJ_s_aI, z_q_aR_s_aI, z_q_L_s_aJ, z_q_K_s_aJ, z_q_I_s_aJ, z_q_J_s_aJ, z_q_R_s_aJ, z_q_n_s_aJ, z_q_aI_s_aJ, z_q_aJ_s_aJ, z_q_aR_s_aJ, z_q_L_s_aR, z_q_K_s_aR, z_q_I_s_aR, z_q_J_s_aR, z_q_R_s_aR, z_q_n_s_aR, z_q_aI_s_aR, z_q_aJ_s_aR, z_q_aR_s_aR, z_q_L_s_new, z_q_K_s_new, z_q_I_s_new, z_q_J_s_new, z_q_R_s_new, z_q_n_s_new, z_q_aI_s_new, z_q_aJ_s_new, z_q_aR_s_new, z_q_L_s_arr, z_q_K_s_arr, z_q_I_s_arr, z_q_J_s_arr, z_q_R_s_arr, z_q_n_s_arr, z_q_aI_s_arr, z_q_aJ_s_arr, z_q_aR_s_arr, hql], by simp -implicitDefEqProofs [z_q_L_s_I, z_q_K_s_I, z_q_I_s_I, z_q_J_s_I, z_q_R_s_I, z_q_n_s_I, z_q_aI_s_I, z_q_aJ_s_I, z_q_aR_s_I, z_q_L_s_J, z_q_K_s_J, z_q_I_s_J, z_q_J_s_J, z_q_R_s_J, z_q_n_s_J, z_q_aI_s_J, z_q_aJ_s_J, z_q_aR_s_J, z_q_L_s_R, z_q_K_s_R, z_q_I_s_R, z_q_J_s_R, z_q_R_s_R, z_q_n_s_R, z_q_aI_s_R, z_q_aJ_s_R, z_q_aR_s_R, z_q_L_s_aI, z_q_K_s_aI, z_q_I_s_aI, z_q_J_s_aI, z_q_R_s_aI, z_q_n_s_aI, z_q_aI_s_aI, z_q_aJ_s_aI, z_q_aR_s_aI, z_q_L_s_aJ, z_q_K_s_aJ, z_q_I_s_aJ, z_q_J_s_aJ, z_q_R_s_aJ, z_q_n_s_aJ, z_q_aI_s_aJ, z_q_aJ_s_aJ, z_q_aR_s_aJ, z_q_L_s_aR, z_q_K_s_aR, z_q_I_s_aR, z_q_J_s_aR, z_q_R_s_aR, z_q_n_s_aR, z_q_aI_s_aR, z_q_aJ_s_aR, z_q_aR_s_aR, z_q_L_s_new, z_q_K_s_new, z_q_I_s_new, z_q_J_s_new, z_q_R_s_new, z_q_n_s_new, z_q_aI_s_new, z_q_aJ_s_new, z_q_aR_s_new, z_q_L_s_arr, z_q_K_s_arr, z_q_I_s_arr, z_q_J_s_arr, z_q_R_s_arr, z_q_n_s_arr, z_q_aI_s_arr, z_q_aJ_s_arr, z_q_aR_s_arr], by simp -implicitDefEqProofs [z_q_L_s_I, z_q_K_s_I, z_q_I_s_I, z_q_J_s_I, z_q_R_s_I, z_q_n_s_I, z_q_aI_s_I, z_q_aJ_s_I, z_q_aR_s_I, z_q_L_s_J, z_q_K_s_J, z_q_I_s_J, z_q_J_s_J, z_q_R_s_J, z_q_n_s_J, z_q_aI_s_J, z_q_aJ_s_J, z_q_aR_s_J, z_q_L_s_R, z_q_K_s_R, z_q_I_s_R, z_q_J_s_R, z_q_R_s_R, z_q_n_s_R, z_q_aI_s_R, z_q_aJ_s_R, z_q_aR_s_R, z_q_L_s_aI, z_q_K_s_aI, z_q_I_s_aI, z_q_J_s_aI, z_q_R_s_aI, z_q_n_s_aI, z_q_aI_s_aI, z_q_aJ_s_aI, z_q_aR_s_aI, z_q_L_s_aJ, z_q_K_s_aJ, z_q_I_s_aJ, z_q_J_s_aJ, z_q_R_s_aJ, z_q_n_s_aJ, z_q_aI_s_aJ, z_q_aJ_s_aJ, z_q_aR_s_aJ, z_q_L_s_aR, z_q_K_s_aR, z_q_I_s_aR, z_q_J_s_aR, z_q_R_s_aR, z_q_n_s_aR, z_q_aI_s_aR, z_q_aJ_s_aR, z_q_aR_s_aR, z_q_L_s_new, z_q_K_s_new, z_q_I_s_new, z_q_J_s_new, z_q_R_s_new, z_q_n_s_new, z_q_aI_s_new, z_q_aJ_s_new, z_q_aR_s_new, z_q_L_s_arr, z_q_K_s_arr, z_q_I_s_arr, z_q_J_s_arr, z_q_R_s_arr, z_q_n_s_arr, z_q_aI_s_arr, z_q_aJ_s_arr, z_q_aR_s_arr]⟩
    have lc2 : isL Z 4 S2 lc0 0 (fun _ => 0) Z.2.2.2.2.2.1 := by
      rw [← hS2]
      exact ⟨by simp -implicitDefEqProofs [z_q_L_s_I, z_q_K_s_I, z_q_I_s_I, z_q_J_s_I, z_q_R_s_I, z_q_n_s_I, z_q_aI_s_I, z_q_aJ_s_I, z_q_aR_s_I, z_q_L_s_J, z_q_K_s_J, z_q_I_s_J, z_q_J_s_J, z_q_R_s_J, z_q_n_s_J, z_q_aI_s_J, z_q_aJ_s_J, z_q_aR_s_J, z_q_L_s_R, z_q_K_s_R, z_q_I_s_R, z_q_J_s_R, z_q_R_s_R, z_q_n_s_R, z_q_aI_s_R, z_q_aJ_s_R, z_q_aR_s_R, z_q_L_s_aI, z_q_K_s_aI, z_q_I_s_aI, z_q_J_s_aI, z_q_R_s_aI, z_q_n_s_aI, z_q_aI_s_aI, z_q_aJ_s_aI, z_q_aR_s_aI, z_q_L_s_aJ, z_q_K_s_aJ, z_q_I_s_aJ, z_q_J_s_aJ, z_q_R_s_aJ, z_q_n_s_aJ, z_q_aI_s_aJ, z_q_aJ_s_aJ, z_q_aR_s_aJ, z_q_L_s_aR, z_q_K_s_aR, z_q_I_s_aR, z_q_J_s_aR, z_q_R_s_aR, z_q_n_s_aR, z_q_aI_s_aR, z_q_aJ_s_aR, z_q_aR_s_aR, z_q_L_s_new, z_q_K_s_new, z_q_I_s_new, z_q_J_s_new, z_q_R_s_new, z_q_n_s_new, z_q_aI_s_new, z_q_aJ_s_new, z_q_aR_s_new, z_q_L_s_arr, z_q_K_s_arr, z_q_I_s_arr, z_q_J_s_arr, z_q_R_s_arr, z_q_n_s_arr, z_q_aI_s_arr, z_q_aJ_s_arr, z_q_aR_s_arr], by simp -implicitDefEqProofs [z_q_L_s_I, z_q_K_s_I, z_q_I_s_I, z_q_J_s_I, z_q_R_s_I, z_q_n_s_I, z_q_aI_s_I, z_q_aJ_s_I, z_q_aR_s_I, z_q_L_s_J, z_q_K_s_J, z_q_I_s_J, z_q_J_s_J, z_q_R_s_J, z_q_n_s_J, z_q_aI_s_J, z_q_aJ_s_J, z_q_aR_s_J, z_q_L_s_R, z_q_K_s_R, z_q_I_s_R, z_q_J_s_R, z_q_R_s_R, z_q_n_s_R, z_q_aI_s_R, z_q_aJ_s_R, z_q_aR_s_R, z_q_L_s_aI, z_q_K_s_aI, z_q_I_s_aI, z_q_J_s_aI, z_q_R_s_aI, z_q_n_s_aI, z_q_aI_s_aI, z_q_aJ_s_aI, z_q_aR_s_aI, z_q_L_s_aJ, z_q_K_s_aJ, z_q_I_s_aJ, z_q_J_s_aJ, z_q_R_s_aJ, z_q_n_s_aJ, z_q_aI_s_aJ, z_q_aJ_s_aJ, z_q_aR_s_aJ, z_q_L_s_aR, z_q_K_s_aR, z_q_I_s_aR, z_q_J_s_aR, z_q_R_s_aR, z_q_n_s_aR, z_q_aI_s_aR, z_q_aJ_s_aR, z_q_aR_s_aR, z_q_L_s_new, z_q_K_s_new, z_q_I_s_new, z_q_J_s_new, z_q_R_s_new, z_q_n_s_new, z_q_aI_s_new, z_q_aJ_s_new, z_q_aR_s_new, z_q_L_s_arr, z_q_K_s_arr, z_q_I_s_arr, z_q_J_s_arr, z_q_R_s_arr, z_q_n_s_arr, z_q_aI_s_arr, z_q_aJ_s_arr, z_q_aR_s_arr], by simp -implicitDefEqProofs [z_q_L_s_I, z_q_K_s_I, z_q_I_s_I, z_q_J_s_I, z_q_R_s_I, z_q_n_s_I, z_q_aI_s_I, z_q_aJ_s_I, z_q_aR_s_I, z_q_L_s_J, z_q_K_s_J, z_q_I_s_J, z_q_J_s_J, z_q_R_s_J, z_q_n_s_J, z_q_aI_s_J, z_q_aJ_s_J, z_q_aR_s_J, z_q_L_s_R, z_q_K_s_R, z_q_I_s_R, z_q_J_s_R, z_q_R_s_R, z_q_n_s_R, z_q_aI_s_R, z_q_aJ_s_R, z_q_aR_s_R, z_q_L_s_aI, z_q_K_s_aI, z_q_I_s_aI, z_q_J_s_aI, z_q_R_s_aI, z_q_n_s_aI, z_q_aI_s_aI, z_q_aJ_s_aI, z_q_aR_s_aI, z_q_L_s_aJ, z_q_K_s_aJ, z_q_I_s_aJ, z_q_J_s_aJ, z_q_R_s_aJ, z_q_n_s_aJ, z_q_aI_s_aJ, z_q_aJ_s_aJ, z_q_aR_s_aJ, z_q_L_s_aR, z_q_K_s_aR, z_q_I_s_aR, z_q_J_s_aR, z_q_R_s_aR, z_q_n_s_aR, z_q_aI_s_aR, z_q_aJ_s_aR, z_q_aR_s_aR, z_q_L_s_new, z_q_K_s_new, z_q_I_s_new, z_q_J_s_new, z_q_R_s_new, z_q_n_s_new, z_q_aI_s_new, z_q_aJ_s_new, z_q_aR_s_new, z_q_L_s_arr, z_q_K_s_arr, z_q_I_s_arr, z_q_J_s_arr, z_q_R_s_arr, z_q_n_s_arr, z_q_aI_s_arr, z_q_aJ_s_arr, z_q_aR_s_arr]; rfl, by simp -implicitDefEqProofs [z_q_L_s_I, z_q_K_s_I, z_q_I_s_I, z_q_J_s_I, z_q_R_s_I, z_q_n_s_I, z_q_aI_s_I, z_q_aJ_s_I, z_q_aR_s_I, z_q_L_s_J, z_q_K_s_J, z_q_I_s_J, z_q_J_s_J, z_q_R_s_J, z_q_n_s_J, z_q_aI_s_J, z_q_aJ_s_J, z_q_aR_s_J, z_q_L_s_R, z_q_K_s_R, z_q_I_s_R, z_q_J_s_R, z_q_R_s_R, z_q_n_s_R, z_q_aI_s_R, z_q_aJ_s_R, z_q_aR_s_R, z_q_L_s_aI, z_q_K_s_aI, z_q_I_s_aI, z_q_J_s_aI, z_q_R_s_aI, z_q_n_s_aI, z_q_aI_s_aI, z_q_aJ_s_aI, z_q_aR_s_aI, z_q_L_s_aJ, z_q_K_s_aJ, z_q_I_s_aJ, z_q_J_s_aJ, z_q_R_s_aJ, z_q_n_s_aJ, z_q_aI_s_aJ, z_q_aJ_s_aJ, z_q_aR_s_aJ, z_q_L_s_aR, z_q_K_s_aR, z_q_I_s_aR, z_q_J_s_aR, z_q_R_s_aR, z_q_n_s_aR, z_q_aI_s_aR, z_q_aJ_s_aR, z_q_aR_s_aR, z_q_L_s_new, z_q_K_s_new, z_q_I_s_new, z_q_J_s_new, z_q_R_s_new, z_q_n_s_new, z_q_aI_s_new, z_q_aJ_s_new, z_q_aR_s_new, z_q_L_s_arr, z_q_K_s_arr, z_q_I_s_arr, z_q_J_s_arr, z_q_R_s_arr, z_q_n_s_arr, z_q_aI_s_arr, z_q_aJ_s_arr, z_q_aR_s_arr], by omega, by decide, fun i hi => absurd hi (by omega), Or.inl ⟨rfl, rfl⟩⟩
    clear hS2
    have sx2 := hs2 x hx
    have sa2 := hs2 a k2
    have st2 := hs2 qt k6
    have ss2 := hs2 qs k11
    simp -implicitDefEqProofs [i_aload, i_iload, i_lload, i_istore, i_lstore, i_astore, i_iinc, i_push, i_getI, i_getJ, i_getR, i_putI, i_putJ, i_putR, i_iadd, i_isub, i_imul, i_iand, i_ior, i_ixor, i_ishl, i_ishr, i_iushr, i_idiv, i_irem, i_ladd, i_lsub, i_lmul, i_land, i_lor, i_lxor, i_ldiv, i_lrem, i_lshl, i_lshr, i_lcmp, i_ineg, i_lneg, i_i2l, i_l2i, i_i2b, i_i2c, i_dup, i_pop, i_dup_x1, i_dup2, i_icmp_eq, i_icmp_lt, i_icmp_ge, i_icmp_gt, i_icmp_le, i_if_eq, i_if_lt, i_if_ge, i_if_gt, i_if_le, i_goto, i_ifnull, i_iald, i_bald, i_zald, i_lald, i_aald, i_iast, i_bast, i_zast, i_last, i_alen, i_iret, i_lret, i_aret, i_vret, i_oinit, i_cast, i_tsw, i_cases, i_mmin, i_mmax, i_lmin, i_throw, nb0, nb1, nint, nby0, rf_s, rf_n, of_r, of_n, tk_orf_rf, tk_c2, tk_ls, Value.category, tk_isR_ref, tk_isR_rf, tk_isR_null, sx2.1, sx2.2.1.trans hk, (sx2.2.2.2.2.1 12 0).trans k1, q2.1, q2.2.1]
    refine ⟨by simp, sa2.1, sa2.2.1.trans k3, by simp [Value.category], 57, 164, 6000, by omega, by omega, by omega, ?_⟩
    refine tk_M.out (m_readAct (a := a) (qt := qt) (qs := qs) (len := n) (g := tg) (Nat.le_refl 57) sa2.1 (sa2.2.1.trans k3) ((sa2.2.2.2.2.1 8 0).trans k5) st2.1 (st2.2.1.trans k7) (st2.2.2.2.2.2.1.trans k8) (by omega) ((sa2.2.2.2.2.1 8 9).trans k10) ss2.1 (ss2.2.1.trans k12) (ss2.2.2.2.2.2.1.trans k13) (st2.2.2.2.2.2.2.1.trans k18) ⟨q2.1, q2.2.1, q2.2.2.1⟩ lc2 (Nat.le_refl _) (Nat.le_refl _) ?_)
    have ltn : tn ≤ 2000 := k16
    have hgood := pActs_good tg (len := n) (by omega) 2000 0 (tkStart tg n 0)
    have hts := (tkStart_le tg (Nat.zero_le n)).2
    generalize pActs tg n 2000 0 (tkStart tg n 0) = pr0 at H0 hgood
    have nb2 : ∀ b r, b ∈ q_L S → ρ b = r → r ≠ 2 → r ≠ 18 → b ∉ [a, qs, lc0] := fun b r hb h1 h2 h3 => by
      simp only [List.mem_cons, List.not_mem_nil, or_false]
      rintro (z | z | z)
      · exact h2 (by rw [← h1, z, k4])
      · exact h3 (by rw [← h1, z, k14])
      · exact hlS b hb z
    rcases pr0 with ps | ⟨kd, pl, j⟩
    · obtain ⟨gl, gp⟩ := hgood ps hts (by omega) rfl
      intro S3 f3 st3 e3 F3 g3 hB3 hL3 he3 hcl3 hfp3 hZ3
      have s13 : ∀ b, b ∈ q_L S → ρ b ∉ [2, 18] → sameAt S S3 b := fun b hb hn => (hs2 b hb).trans (F3 b (hs2 b hb).1 (nb2 b (ρ b) hb rfl (fun z => hn (by rw [z]; simp)) (fun z => hn (by rw [z]; simp))))
      have g13 : gr S S3 := fun b hb => g3 b (hs2 b hb).1
      have sx3 := s13 x hx (by rw [hρ]; simp)
      have hnq : q ∉ [a, qs, lc0] := by
        simp only [List.mem_cons, List.not_mem_nil, or_false]
        rintro (z | z | z)
        · exact haq z.symm
        · exact hq (z ▸ k11)
        · exact hql z
      have sq3 := F3 q q2.1 hnq
      have sa3 : q_R S3 12 0 x = some a := (sx3.2.2.2.2.1 12 0).trans k1
      simp -implicitDefEqProofs [i_aload, i_iload, i_lload, i_istore, i_lstore, i_astore, i_iinc, i_push, i_getI, i_getJ, i_getR, i_putI, i_putJ, i_putR, i_iadd, i_isub, i_imul, i_iand, i_ior, i_ixor, i_ishl, i_ishr, i_iushr, i_idiv, i_irem, i_ladd, i_lsub, i_lmul, i_land, i_lor, i_lxor, i_ldiv, i_lrem, i_lshl, i_lshr, i_lcmp, i_ineg, i_lneg, i_i2l, i_l2i, i_i2b, i_i2c, i_dup, i_pop, i_dup_x1, i_dup2, i_icmp_eq, i_icmp_lt, i_icmp_ge, i_icmp_gt, i_icmp_le, i_if_eq, i_if_lt, i_if_ge, i_if_gt, i_if_le, i_goto, i_ifnull, i_iald, i_bald, i_zald, i_lald, i_aald, i_iast, i_bast, i_zast, i_last, i_alen, i_iret, i_lret, i_aret, i_vret, i_oinit, i_cast, i_tsw, i_cases, i_mmin, i_mmax, i_lmin, i_throw, nb0, nb1, nint, nby0, rf_s, rf_n, of_r, of_n, tk_orf_rf, tk_c2, tk_ls, Value.category, tk_isR_ref, tk_isR_rf, tk_isR_null, z_q_L_s_I, z_q_K_s_I, z_q_I_s_I, z_q_J_s_I, z_q_R_s_I, z_q_n_s_I, z_q_aI_s_I, z_q_aJ_s_I, z_q_aR_s_I, z_q_L_s_J, z_q_K_s_J, z_q_I_s_J, z_q_J_s_J, z_q_R_s_J, z_q_n_s_J, z_q_aI_s_J, z_q_aJ_s_J, z_q_aR_s_J, z_q_L_s_R, z_q_K_s_R, z_q_I_s_R, z_q_J_s_R, z_q_R_s_R, z_q_n_s_R, z_q_aI_s_R, z_q_aJ_s_R, z_q_aR_s_R, z_q_L_s_aI, z_q_K_s_aI, z_q_I_s_aI, z_q_J_s_aI, z_q_R_s_aI, z_q_n_s_aI, z_q_aI_s_aI, z_q_aJ_s_aI, z_q_aR_s_aI, z_q_L_s_aJ, z_q_K_s_aJ, z_q_I_s_aJ, z_q_J_s_aJ, z_q_R_s_aJ, z_q_n_s_aJ, z_q_aI_s_aJ, z_q_aJ_s_aJ, z_q_aR_s_aJ, z_q_L_s_aR, z_q_K_s_aR, z_q_I_s_aR, z_q_J_s_aR, z_q_R_s_aR, z_q_n_s_aR, z_q_aI_s_aR, z_q_aJ_s_aR, z_q_aR_s_aR, z_q_L_s_new, z_q_K_s_new, z_q_I_s_new, z_q_J_s_new, z_q_R_s_new, z_q_n_s_new, z_q_aI_s_new, z_q_aJ_s_new, z_q_aR_s_new, z_q_L_s_arr, z_q_K_s_arr, z_q_I_s_arr, z_q_J_s_arr, z_q_R_s_arr, z_q_n_s_arr, z_q_aI_s_arr, z_q_aJ_s_arr, z_q_aR_s_arr, sx3.1, sx3.2.1.trans hk, sa3, hB3.1.1, hB3.1.2.1, (sx3.2.2.2.2.1 12 3).trans h1]
      have s1 : ∀ b, b ∈ q_L S → ρ b ∉ [2, 18] → sameAt S (s_I S3 8 1 a 0) b := fun b hb hn => (s13 b hb hn).trans (s_I_same (g13 b hb) (fun z => hn (by rw [z, k4]; simp)))
      have s34 : ∀ b, b ∈ q_L S3 → b ≠ a → sameAt S3 (s_I S3 8 1 a 0) b := fun b hb hn => s_I_same hb hn
      generalize hρ1 : (fun b => if b = q then 30 else if b = lc0 then 31 else if b ∈ q_L S then ρ b else if q_K S3 b = 18 then 32 else if q_K S3 b = 4 then 33 else 34 : Nat → Nat) = ρ1
      have r1 : rx ρ ρ1 S := fun b hb => by rw [← hρ1]; simp [hb, hlS b hb, show b ≠ q from fun z => hq (z ▸ hb)]
      have rq : ρ1 q = 30 := by rw [← hρ1]; simp
      have rl : ρ1 lc0 = 31 := by rw [← hρ1]; simp [Ne.symm hql]
      have rnw : ∀ b, b ∉ q_L S2 → ρ1 b = if q_K S3 b = 18 then 32 else if q_K S3 b = 4 then 33 else 34 := fun b hb => by
        have n1 : b ≠ q := fun z => hb (z ▸ q2.1)
        have n2 : b ≠ lc0 := fun z => hb (z ▸ lc2.1)
        have n3 : b ∉ q_L S := fun z => hb (hs2 b z).1
        rw [← hρ1]
        simp [n1, n2, n3]
      clear hρ1
      have hL4 : isLr Z ρ1 4 (s_I S3 8 1 a 0) lc0 ps.length f3 e3 31 32 33 := by
        refine ⟨hL3.same (s34 lc0 hL3.1 (fun z => by have := hL3.2.1; rw [z, hB3.1.2.1] at this; cases this)) (fun y1 y2 => s34 e3 y1 (fun z => by rw [z, hB3.1.2.1] at y2; cases y2)) (fun i hi => s34 (f3 i) (hL3.2.2.2.2.2.2.1 i hi).1 (fun z => by have := (hL3.2.2.2.2.2.2.1 i hi).2; rw [z, hB3.1.2.1] at this; cases this)), rl, ?_, fun i hi => ?_⟩
        · rcases hL3.2.2.2.2.2.2.2 with y | ⟨y1, y2, -⟩
          · exact Or.inl y
          · exact Or.inr ⟨y1, y2, by rw [rnw e3 he3, if_pos y2]⟩
        · have ei : ps[i]? = some ps[i] := by simp [hi]
          have hc := hcl3 i _ ei
          rw [rnw _ hc.2.1, if_neg (by rw [hc.1.2.1]; decide), if_pos hc.1.2.1]
      have hL1 := h2.same (R := [5, 11, 30]) hZ (sm.no s1 (by simp)) r1 (by simp) (by simp) (by simp)
      have sq4 : sameAt S2 (s_I S3 8 1 a 0) q := sq3.trans (s34 q sq3.1 (Ne.symm haq))
      have hZ4 : Z.2.2.2.2.2.1 ∉ q_L (s_I S3 8 1 a 0) := hZ3
      have sl4 : ∀ b, b ∈ q_L S3 → b ≠ a → sameAt S3 (s_I S3 8 1 a 0) b := s34
      have a4 : q_I (s_I S3 8 1 a 0) 8 1 a = 0 := by simp -implicitDefEqProofs [z_q_L_s_I, z_q_K_s_I, z_q_I_s_I, z_q_J_s_I, z_q_R_s_I, z_q_n_s_I, z_q_aI_s_I, z_q_aJ_s_I, z_q_aR_s_I, z_q_L_s_J, z_q_K_s_J, z_q_I_s_J, z_q_J_s_J, z_q_R_s_J, z_q_n_s_J, z_q_aI_s_J, z_q_aJ_s_J, z_q_aR_s_J, z_q_L_s_R, z_q_K_s_R, z_q_I_s_R, z_q_J_s_R, z_q_R_s_R, z_q_n_s_R, z_q_aI_s_R, z_q_aJ_s_R, z_q_aR_s_R, z_q_L_s_aI, z_q_K_s_aI, z_q_I_s_aI, z_q_J_s_aI, z_q_R_s_aI, z_q_n_s_aI, z_q_aI_s_aI, z_q_aJ_s_aI, z_q_aR_s_aI, z_q_L_s_aJ, z_q_K_s_aJ, z_q_I_s_aJ, z_q_J_s_aJ, z_q_R_s_aJ, z_q_n_s_aJ, z_q_aI_s_aJ, z_q_aJ_s_aJ, z_q_aR_s_aJ, z_q_L_s_aR, z_q_K_s_aR, z_q_I_s_aR, z_q_J_s_aR, z_q_R_s_aR, z_q_n_s_aR, z_q_aI_s_aR, z_q_aJ_s_aR, z_q_aR_s_aR, z_q_L_s_new, z_q_K_s_new, z_q_I_s_new, z_q_J_s_new, z_q_R_s_new, z_q_n_s_new, z_q_aI_s_new, z_q_aJ_s_new, z_q_aR_s_new, z_q_L_s_arr, z_q_K_s_arr, z_q_I_s_arr, z_q_J_s_arr, z_q_R_s_arr, z_q_n_s_arr, z_q_aI_s_arr, z_q_aJ_s_arr, z_q_aR_s_arr]
      have a5 : q_I (s_I S3 8 1 a 0) 8 3 a = -1 := by simp -implicitDefEqProofs [z_q_L_s_I, z_q_K_s_I, z_q_I_s_I, z_q_J_s_I, z_q_R_s_I, z_q_n_s_I, z_q_aI_s_I, z_q_aJ_s_I, z_q_aR_s_I, z_q_L_s_J, z_q_K_s_J, z_q_I_s_J, z_q_J_s_J, z_q_R_s_J, z_q_n_s_J, z_q_aI_s_J, z_q_aJ_s_J, z_q_aR_s_J, z_q_L_s_R, z_q_K_s_R, z_q_I_s_R, z_q_J_s_R, z_q_R_s_R, z_q_n_s_R, z_q_aI_s_R, z_q_aJ_s_R, z_q_aR_s_R, z_q_L_s_aI, z_q_K_s_aI, z_q_I_s_aI, z_q_J_s_aI, z_q_R_s_aI, z_q_n_s_aI, z_q_aI_s_aI, z_q_aJ_s_aI, z_q_aR_s_aI, z_q_L_s_aJ, z_q_K_s_aJ, z_q_I_s_aJ, z_q_J_s_aJ, z_q_R_s_aJ, z_q_n_s_aJ, z_q_aI_s_aJ, z_q_aJ_s_aJ, z_q_aR_s_aJ, z_q_L_s_aR, z_q_K_s_aR, z_q_I_s_aR, z_q_J_s_aR, z_q_R_s_aR, z_q_n_s_aR, z_q_aI_s_aR, z_q_aJ_s_aR, z_q_aR_s_aR, z_q_L_s_new, z_q_K_s_new, z_q_I_s_new, z_q_J_s_new, z_q_R_s_new, z_q_n_s_new, z_q_aI_s_new, z_q_aJ_s_new, z_q_aR_s_new, z_q_L_s_arr, z_q_K_s_arr, z_q_I_s_arr, z_q_J_s_arr, z_q_R_s_arr, z_q_n_s_arr, z_q_aI_s_arr, z_q_aJ_s_arr, z_q_aR_s_arr]; exact hfp3
      have hB4 : rdB (s_I S3 8 1 a 0) a qt qs n tg := ⟨⟨hB3.1.1, hB3.1.2.1, hB3.1.2.2.1, hB3.1.2.2.2.1, hB3.1.2.2.2.2.1, hB3.1.2.2.2.2.2.1, by simpa -implicitDefEqProofs [z_q_L_s_I, z_q_K_s_I, z_q_I_s_I, z_q_J_s_I, z_q_R_s_I, z_q_n_s_I, z_q_aI_s_I, z_q_aJ_s_I, z_q_aR_s_I, z_q_L_s_J, z_q_K_s_J, z_q_I_s_J, z_q_J_s_J, z_q_R_s_J, z_q_n_s_J, z_q_aI_s_J, z_q_aJ_s_J, z_q_aR_s_J, z_q_L_s_R, z_q_K_s_R, z_q_I_s_R, z_q_J_s_R, z_q_R_s_R, z_q_n_s_R, z_q_aI_s_R, z_q_aJ_s_R, z_q_aR_s_R, z_q_L_s_aI, z_q_K_s_aI, z_q_I_s_aI, z_q_J_s_aI, z_q_R_s_aI, z_q_n_s_aI, z_q_aI_s_aI, z_q_aJ_s_aI, z_q_aR_s_aI, z_q_L_s_aJ, z_q_K_s_aJ, z_q_I_s_aJ, z_q_J_s_aJ, z_q_R_s_aJ, z_q_n_s_aJ, z_q_aI_s_aJ, z_q_aJ_s_aJ, z_q_aR_s_aJ, z_q_L_s_aR, z_q_K_s_aR, z_q_I_s_aR, z_q_J_s_aR, z_q_R_s_aR, z_q_n_s_aR, z_q_aI_s_aR, z_q_aJ_s_aR, z_q_aR_s_aR, z_q_L_s_new, z_q_K_s_new, z_q_I_s_new, z_q_J_s_new, z_q_R_s_new, z_q_n_s_new, z_q_aI_s_new, z_q_aJ_s_new, z_q_aR_s_new, z_q_L_s_arr, z_q_K_s_arr, z_q_I_s_arr, z_q_J_s_arr, z_q_R_s_arr, z_q_n_s_arr, z_q_aI_s_arr, z_q_aJ_s_arr, z_q_aR_s_arr] using hB3.1.2.2.2.2.2.2.1, hB3.1.2.2.2.2.2.2.2⟩, hB3.2.1, hB3.2.2⟩
      generalize hS4 : s_I S3 8 1 a 0 = S4 at *
      refine ⟨by simp, hL1.1.1, hL1.1.2.1, by simp [Value.category], 7, 1, 10 + 2 * acts.length, by omega, by omega, by omega, ?_⟩
      refine tk_M.out (l_add_2 (k := 1) (f := f) (Nat.le_refl 7) hL1.1 (by omega) (by decide) ⟨sq4.1, sq4.2.1.trans q2.2.1⟩ (Nat.le_refl 1) (Nat.le_refl _) (fun e5 S5 hg hZ5 => ?_))
      obtain ⟨hA, g5, f5⟩ := hL1.add hZ4 hg sq4.1 rq
      have g4 : gr S S4 := fun b hb => by rw [← hS4]; exact g13 b hb
      have rA : rx ρ (rnew ρ1 S4 11) S := fun b hb => by rw [rx_new _ S4 11 b (g4 b hb), r1 b hb]
      have r45 : rx ρ1 (rnew ρ1 S4 11) S4 := rx_new ρ1 S4 11
      have sX : ∀ b, b ∈ q_L S → ρ b ∉ [2, 18, 5, 11] → sameAt S S5 b := fun b hb hn => (s1 b hb (fun z => hn (by
        simp only [List.mem_cons, List.not_mem_nil, or_false] at z ⊢
        omega))).trans (f5 b (g4 b hb) (by
        rw [r1 b hb]
        intro z
        apply hn
        simp only [List.mem_cons, List.not_mem_nil, or_false] at z ⊢
        omega))
      have sx := sX x hx (by rw [hρ]; simp)
      have sq5 := f5 q sq4.1 (by rw [rq]; simp)
      have sa5 := f5 a hB4.1.1 (by rw [r1 a k2, k4]; simp)
      have st5 := f5 qt hB4.1.2.2.2.1 (by rw [r1 qt k6, k9]; simp)
      have ss5 := f5 qs hB4.2.1.2.1 (by rw [r1 qs k11, k14]; simp)
      simp -implicitDefEqProofs [i_aload, i_iload, i_lload, i_istore, i_lstore, i_astore, i_iinc, i_push, i_getI, i_getJ, i_getR, i_putI, i_putJ, i_putR, i_iadd, i_isub, i_imul, i_iand, i_ior, i_ixor, i_ishl, i_ishr, i_iushr, i_idiv, i_irem, i_ladd, i_lsub, i_lmul, i_land, i_lor, i_lxor, i_ldiv, i_lrem, i_lshl, i_lshr, i_lcmp, i_ineg, i_lneg, i_i2l, i_l2i, i_i2b, i_i2c, i_dup, i_pop, i_dup_x1, i_dup2, i_icmp_eq, i_icmp_lt, i_icmp_ge, i_icmp_gt, i_icmp_le, i_if_eq, i_if_lt, i_if_ge, i_if_gt, i_if_le, i_goto, i_ifnull, i_iald, i_bald, i_zald, i_lald, i_aald, i_iast, i_bast, i_zast, i_last, i_alen, i_iret, i_lret, i_aret, i_vret, i_oinit, i_cast, i_tsw, i_cases, i_mmin, i_mmax, i_lmin, i_throw, nb0, nb1, nint, nby0, rf_s, rf_n, of_r, of_n, tk_orf_rf, tk_c2, tk_ls, Value.category, tk_isR_ref, tk_isR_rf, tk_isR_null, sx.1, sx.2.1.trans hk, (sx.2.2.2.2.1 12 3).trans h1]
      refine ⟨by simp, hA.1.1, hA.1.2.1, by simp [Value.category], 0, 0, 0, by omega, by omega, by omega, ?_⟩
      refine l_size hA.1 ?_
      simp -implicitDefEqProofs [i_aload, i_iload, i_lload, i_istore, i_lstore, i_astore, i_iinc, i_push, i_getI, i_getJ, i_getR, i_putI, i_putJ, i_putR, i_iadd, i_isub, i_imul, i_iand, i_ior, i_ixor, i_ishl, i_ishr, i_iushr, i_idiv, i_irem, i_ladd, i_lsub, i_lmul, i_land, i_lor, i_lxor, i_ldiv, i_lrem, i_lshl, i_lshr, i_lcmp, i_ineg, i_lneg, i_i2l, i_l2i, i_i2b, i_i2c, i_dup, i_pop, i_dup_x1, i_dup2, i_icmp_eq, i_icmp_lt, i_icmp_ge, i_icmp_gt, i_icmp_le, i_if_eq, i_if_lt, i_if_ge, i_if_gt, i_if_le, i_goto, i_ifnull, i_iald, i_bald, i_zald, i_lald, i_aald, i_iast, i_bast, i_zast, i_last, i_alen, i_iret, i_lret, i_aret, i_vret, i_oinit, i_cast, i_tsw, i_cases, i_mmin, i_mmax, i_lmin, i_throw, nb0, nb1, nint, nby0, rf_s, rf_n, of_r, of_n, tk_orf_rf, tk_c2, tk_ls, Value.category, tk_isR_ref, tk_isR_rf, tk_isR_null]
      refine ⟨by omega, by omega, ?_⟩
      rw [nI_pred]
      refine H0 S5 _ (fS, fG, fV, p, p2, fF, fL, bl) (FO.of (g4.trans g5) rA sX (by simp)) ?_
      have hB5 := hB4.same sa5 st5 ss5
      have cT1 : cT (rnew ρ1 S4 11) S5 x 0 tg (-1) := by
        refine ⟨a, qt, qs, (sx.2.2.2.2.1 12 0).trans k1, ⟨hB5.1.1, hB5.1.2.1, by rw [rA a k2]; exact k4⟩, ⟨hB5.1.2.2.1, hB5.1.2.2.2.1, hB5.1.2.2.2.2.1, hB5.1.2.2.2.2.2.1, by rw [rA qt k6]; exact k9⟩, ⟨hB5.2.1.1, hB5.2.1.2.1, hB5.2.1.2.2.1, hB5.2.1.2.2.2, by rw [rA qs k11]; exact k14⟩, (sa5.2.2.1 8 1).trans a4, by omega, (sa5.2.2.1 8 3).trans a5, hB5.2.2⟩
      have hL5 := hL4.same (R := [31, 32, 33]) hZ4 (sm.no f5 (by simp)) r45 (by simp) (by simp) (by simp)
      have cAn : cA1 Z (rnew ρ1 S4 11) S5 q (day, ps) := by
        refine ⟨lc0, e3, f3, st3, (sq5.2.2.1 1 0).trans ((sq4.2.2.1 1 0).trans q2.2.2.2), (sq5.2.2.2.2.1 1 1).trans ((sq4.2.2.2.2.1 1 1).trans q2.2.2.1), hL5, (show ps.length ≤ 40 by omega), fun i p' hi => ?_⟩
        obtain ⟨c1, c2, c3⟩ := hcl3 i p' hi
        have hrf : ρ1 (f3 i) = 33 := hL4.2.2.2 i (List.getElem?_eq_some_iff.mp hi).1
        have hrs : ρ1 (st3 i) = 34 := by rw [rnw _ c3, if_neg (by rw [c1.2.2.2.2.2.1]; decide), if_neg (by rw [c1.2.2.2.2.2.1]; decide)]
        have c4 : isCl S4 (f3 i) (st3 i) p' := c1.same (sl4 _ c1.1 (fun z => by have := c1.2.1; rw [z, hB3.1.2.1] at this; cases this)) (sl4 _ c1.2.2.2.2.1 (fun z => by have := c1.2.2.2.2.2.1; rw [z, hB3.1.2.1] at this; cases this))
        refine ⟨c4.same (f5 _ c4.1 (by rw [hrf]; simp)) (f5 _ c4.2.2.2.2.1 (by rw [hrs]; simp)), by rw [r45 _ c4.2.2.2.2.1]; exact hrs, gp p' (List.mem_of_getElem? hi)⟩
      have cA2 : cA Z (rnew ρ1 S4 11) S5 x (acts ++ [(day, ps)]) := by
        refine ⟨l, e5, va_up f acts.length q, (sx.2.2.2.2.1 12 3).trans h1, by simpa using hA, by simp; omega, fun i A hi => ?_⟩
        by_cases hil : i < acts.length
        · rw [List.getElem?_append_left hil] at hi
          rw [va_up_ne _ _ (by omega)]
          have hiL := (hl.2.2.2.2.2.2.1 i hil).1
          exact (h4 i A hi).same hZ (sX _ hiL (by rw [h2.2.2.2 i hil]; simp)) (sm.no sX (by simp)) rA
        · have hi2 : i = acts.length := by
            have := (List.getElem?_eq_some_iff.mp hi).1
            simp at this
            omega
          subst hi2
          have eA : A = (day, ps) := by simpa using hi.symm
          rw [eA, va_up_self]
          exact cAn
      exact ⟨cD.same ⟨hx, hk, hρ, htd, ht, hdry, hlc⟩ sx (rA x hx), cT1, cK0.same (xr.of sx) (sm.no sX (by simp)) rA, cA2, cS0.same hZ (xr.of sx) (sm.no sX (by simp)) rA, cG0.same hZ (xr.of sx) (sm.no sX (by simp)) rA, cV0.same hZ (xr.of sx) (sm.no sX (by simp)) rA, cF0.same hZ (xr.of sx) (sm.no sX (by simp)) rA, cL0.same hZ (xr.of sx) (sm.no sX (by simp)) rA, cJ0.same (xr.of sx) (sm.no sX (by simp)) rA⟩
    · intro S3 F3 g3 hB3 hk2 hk3 hZ3
      have s13 : ∀ b, b ∈ q_L S → ρ b ∉ [2, 18] → sameAt S S3 b := fun b hb hn => (hs2 b hb).trans (F3 b (hs2 b hb).1 (nb2 b (ρ b) hb rfl (fun z => hn (by rw [z]; simp)) (fun z => hn (by rw [z]; simp))))
      have g13 : gr S S3 := fun b hb => g3 b (hs2 b hb).1
      have sx3 := s13 x hx (by rw [hρ]; simp)
      simp -implicitDefEqProofs [i_aload, i_iload, i_lload, i_istore, i_lstore, i_astore, i_iinc, i_push, i_getI, i_getJ, i_getR, i_putI, i_putJ, i_putR, i_iadd, i_isub, i_imul, i_iand, i_ior, i_ixor, i_ishl, i_ishr, i_iushr, i_idiv, i_irem, i_ladd, i_lsub, i_lmul, i_land, i_lor, i_lxor, i_ldiv, i_lrem, i_lshl, i_lshr, i_lcmp, i_ineg, i_lneg, i_i2l, i_l2i, i_i2b, i_i2c, i_dup, i_pop, i_dup_x1, i_dup2, i_icmp_eq, i_icmp_lt, i_icmp_ge, i_icmp_gt, i_icmp_le, i_if_eq, i_if_lt, i_if_ge, i_if_gt, i_if_le, i_goto, i_ifnull, i_iald, i_bald, i_zald, i_lald, i_aald, i_iast, i_bast, i_zast, i_last, i_alen, i_iret, i_lret, i_aret, i_vret, i_oinit, i_cast, i_tsw, i_cases, i_mmin, i_mmax, i_lmin, i_throw, nb0, nb1, nint, nby0, rf_s, rf_n, of_r, of_n, tk_orf_rf, tk_c2, tk_ls, Value.category, tk_isR_ref, tk_isR_rf, tk_isR_null, z_q_L_s_I, z_q_K_s_I, z_q_I_s_I, z_q_J_s_I, z_q_R_s_I, z_q_n_s_I, z_q_aI_s_I, z_q_aJ_s_I, z_q_aR_s_I, z_q_L_s_J, z_q_K_s_J, z_q_I_s_J, z_q_J_s_J, z_q_R_s_J, z_q_n_s_J, z_q_aI_s_J, z_q_aJ_s_J, z_q_aR_s_J, z_q_L_s_R, z_q_K_s_R, z_q_I_s_R, z_q_J_s_R, z_q_R_s_R, z_q_n_s_R, z_q_aI_s_R, z_q_aJ_s_R, z_q_aR_s_R, z_q_L_s_aI, z_q_K_s_aI, z_q_I_s_aI, z_q_J_s_aI, z_q_R_s_aI, z_q_n_s_aI, z_q_aI_s_aI, z_q_aJ_s_aI, z_q_aR_s_aI, z_q_L_s_aJ, z_q_K_s_aJ, z_q_I_s_aJ, z_q_J_s_aJ, z_q_R_s_aJ, z_q_n_s_aJ, z_q_aI_s_aJ, z_q_aJ_s_aJ, z_q_aR_s_aJ, z_q_L_s_aR, z_q_K_s_aR, z_q_I_s_aR, z_q_J_s_aR, z_q_R_s_aR, z_q_n_s_aR, z_q_aI_s_aR, z_q_aJ_s_aR, z_q_aR_s_aR, z_q_L_s_new, z_q_K_s_new, z_q_I_s_new, z_q_J_s_new, z_q_R_s_new, z_q_n_s_new, z_q_aI_s_new, z_q_aJ_s_new, z_q_aR_s_new, z_q_L_s_arr, z_q_K_s_arr, z_q_I_s_arr, z_q_J_s_arr, z_q_R_s_arr, z_q_n_s_arr, z_q_aI_s_arr, z_q_aJ_s_arr, z_q_aR_s_arr, sx3.1, sx3.2.1.trans hk, (sx3.2.2.2.2.1 12 0).trans k1, hB3.1.1, hB3.1.2.1, hk2]
      refine ⟨by omega, by omega, ?_⟩
      have r3 := rx_new ρ S 99
      have s1 : ∀ b, b ∈ q_L S → ρ b ∉ [2, 18] → sameAt S (s_I S3 8 1 a 0) b := fun b hb hn => (s13 b hb hn).trans (s_I_same (g13 b hb) (fun z => hn (by rw [z, k4]; simp)))
      have sx := s1 x hx (by rw [hρ]; simp)
      refine H0 (s_I S3 8 1 a 0) (rnew ρ S 99) (fS, fG, fV, p, p2, fF, fL, bl) (FO.of g13 r3 s1 (by simp)) ?_
      have cT1 : cT (rnew ρ S 99) (s_I S3 8 1 a 0) x 0 tg (nI pl) := by
        refine ⟨a, qt, qs, (sx.2.2.2.2.1 12 0).trans k1, ⟨hB3.1.1, hB3.1.2.1, by rw [r3 a k2]; exact k4⟩, ⟨hB3.1.2.2.1, hB3.1.2.2.2.1, hB3.1.2.2.2.2.1, hB3.1.2.2.2.2.2.1, by rw [r3 qt k6]; exact k9⟩, ⟨hB3.2.1.1, hB3.2.1.2.1, hB3.2.1.2.2.1, hB3.2.1.2.2.2, by rw [r3 qs k11]; exact k14⟩, by simp -implicitDefEqProofs [z_q_L_s_I, z_q_K_s_I, z_q_I_s_I, z_q_J_s_I, z_q_R_s_I, z_q_n_s_I, z_q_aI_s_I, z_q_aJ_s_I, z_q_aR_s_I, z_q_L_s_J, z_q_K_s_J, z_q_I_s_J, z_q_J_s_J, z_q_R_s_J, z_q_n_s_J, z_q_aI_s_J, z_q_aJ_s_J, z_q_aR_s_J, z_q_L_s_R, z_q_K_s_R, z_q_I_s_R, z_q_J_s_R, z_q_R_s_R, z_q_n_s_R, z_q_aI_s_R, z_q_aJ_s_R, z_q_aR_s_R, z_q_L_s_aI, z_q_K_s_aI, z_q_I_s_aI, z_q_J_s_aI, z_q_R_s_aI, z_q_n_s_aI, z_q_aI_s_aI, z_q_aJ_s_aI, z_q_aR_s_aI, z_q_L_s_aJ, z_q_K_s_aJ, z_q_I_s_aJ, z_q_J_s_aJ, z_q_R_s_aJ, z_q_n_s_aJ, z_q_aI_s_aJ, z_q_aJ_s_aJ, z_q_aR_s_aJ, z_q_L_s_aR, z_q_K_s_aR, z_q_I_s_aR, z_q_J_s_aR, z_q_R_s_aR, z_q_n_s_aR, z_q_aI_s_aR, z_q_aJ_s_aR, z_q_aR_s_aR, z_q_L_s_new, z_q_K_s_new, z_q_I_s_new, z_q_J_s_new, z_q_R_s_new, z_q_n_s_new, z_q_aI_s_new, z_q_aJ_s_new, z_q_aR_s_new, z_q_L_s_arr, z_q_K_s_arr, z_q_I_s_arr, z_q_J_s_arr, z_q_R_s_arr, z_q_n_s_arr, z_q_aI_s_arr, z_q_aJ_s_arr, z_q_aR_s_arr]; rfl, by omega, by simp -implicitDefEqProofs [z_q_L_s_I, z_q_K_s_I, z_q_I_s_I, z_q_J_s_I, z_q_R_s_I, z_q_n_s_I, z_q_aI_s_I, z_q_aJ_s_I, z_q_aR_s_I, z_q_L_s_J, z_q_K_s_J, z_q_I_s_J, z_q_J_s_J, z_q_R_s_J, z_q_n_s_J, z_q_aI_s_J, z_q_aJ_s_J, z_q_aR_s_J, z_q_L_s_R, z_q_K_s_R, z_q_I_s_R, z_q_J_s_R, z_q_R_s_R, z_q_n_s_R, z_q_aI_s_R, z_q_aJ_s_R, z_q_aR_s_R, z_q_L_s_aI, z_q_K_s_aI, z_q_I_s_aI, z_q_J_s_aI, z_q_R_s_aI, z_q_n_s_aI, z_q_aI_s_aI, z_q_aJ_s_aI, z_q_aR_s_aI, z_q_L_s_aJ, z_q_K_s_aJ, z_q_I_s_aJ, z_q_J_s_aJ, z_q_R_s_aJ, z_q_n_s_aJ, z_q_aI_s_aJ, z_q_aJ_s_aJ, z_q_aR_s_aJ, z_q_L_s_aR, z_q_K_s_aR, z_q_I_s_aR, z_q_J_s_aR, z_q_R_s_aR, z_q_n_s_aR, z_q_aI_s_aR, z_q_aJ_s_aR, z_q_aR_s_aR, z_q_L_s_new, z_q_K_s_new, z_q_I_s_new, z_q_J_s_new, z_q_R_s_new, z_q_n_s_new, z_q_aI_s_new, z_q_aJ_s_new, z_q_aR_s_new, z_q_L_s_arr, z_q_K_s_arr, z_q_I_s_arr, z_q_J_s_arr, z_q_R_s_arr, z_q_n_s_arr, z_q_aI_s_arr, z_q_aJ_s_arr, z_q_aR_s_arr]; exact hk3, hB3.2.2⟩
      exact ⟨cD.same ⟨hx, hk, hρ, htd, ht, hdry, hlc⟩ sx (r3 x hx), cT1, cK0.same (xr.of sx) (sm.no s1 (by simp)) r3, cA0.same hZ (xr.of sx) (sm.no s1 (by simp)) r3, cS0.same hZ (xr.of sx) (sm.no s1 (by simp)) r3, cG0.same hZ (xr.of sx) (sm.no s1 (by simp)) r3, cV0.same hZ (xr.of sx) (sm.no s1 (by simp)) r3, cF0.same hZ (xr.of sx) (sm.no s1 (by simp)) r3, cL0.same hZ (xr.of sx) (sm.no s1 (by simp)) r3, cJ0.same (xr.of sx) (sm.no s1 (by simp)) r3⟩
  · have hn12 : 12 ≤ acts.length := Nat.le_of_not_lt (fun z => absurd (zn.mpr z) (Int32.not_lt.mpr w2))
    exact ⟨by omega, by omega, H2 hn12⟩
end PUBA

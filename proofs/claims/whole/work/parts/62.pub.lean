/-! THE CLASS'S CALLS: what is made -/
section PUB2
variable {Z : tk_Z} {d mc ms : Nat} {S : tk_S} {QR : tk_R} {QX : String → tk_S → Prop} {ρ : Nat → Nat} {x : Nat} {gh : gH} {M : Mt}
/-- an added list keeps its roles -/
theorem isLr.add {k l n e e2 rl re rf y : Nat} {f : Nat → Nat} {S' : tk_S} (h : isLr Z ρ k S l n f e rl re rf) (hZ : Z.2.2.2.2.2.1 ∉ q_L S) (ha : added2 Z k S S' l n f y e e2) (hy : y ∈ q_L S) (hy2 : ρ y = rf) : isLr Z (rnew ρ S re) k S' l (n + 1) (va_up f n y) e2 rl re rf ∧ gr S S' ∧ (∀ b, b ∈ q_L S → ρ b ∉ [rl, re] → sameAt S S' b) := by
  obtain ⟨hl, hr, he, hf⟩ := h
  obtain ⟨al, ae, as, am⟩ := ha
  have her : e ∈ q_L S → ρ e = re := fun z => by
    rcases he with ⟨-, w⟩ | ⟨-, -, w⟩
    · exact absurd (w ▸ z) hZ
    · exact w
  refine ⟨⟨al, by rw [rx_new ρ S re _ hl.1]; exact hr, Or.inr ?_, fun i hi => ?_⟩, fun b hb => (am b).mpr (Or.inl hb), fun b hb hn => ?_⟩
  · rcases al.2.2.2.2.2.2.2 with ⟨z, -⟩ | ⟨z1, z2, -⟩
    · omega
    · refine ⟨z1, z2, ?_⟩
      rcases ae with ⟨w1, w2, w3⟩ | w
      · rw [w1, rx_new ρ S re _ w2]
        exact her w2
      · exact rnew_n w
  · by_cases hin : i = n
    · rw [hin, va_up_self, rx_new ρ S re _ hy]
      exact hy2
    · rw [va_up_ne _ _ hin, rx_new ρ S re _ (hl.2.2.2.2.2.2.1 i (by omega)).1]
      exact hf i (by omega)
  · refine as b hb (fun z => hn (by rw [z, hr]; simp)) (fun w z => hn ?_)
    have hb2 := hb
    rw [z] at hb2
    rw [z, her hb2]
    simp
theorem inj_add {f : Nat → Nat} {n y : Nat} (h : inj f n) (hy : ∀ i, i < n → f i ≠ y) : inj (va_up f n y) (n + 1) := by
  intro i j hi hj e
  by_cases hin : i = n
  · by_cases hjn : j = n
    · omega
    · rw [hin, va_up_self, va_up_ne _ _ hjn] at e
      exact absurd e.symm (hy j (by omega))
  · by_cases hjn : j = n
    · rw [hjn, va_up_self, va_up_ne _ _ hin] at e
      exact absurd e (hy i (by omega))
    · rw [va_up_ne _ _ hin, va_up_ne _ _ hjn] at e
      exact h i j (by omega) (by omega) e
theorem isLr.mv {k l n e rl re rf : Nat} {f : Nat → Nat} {S' : tk_S} {ρ' : Nat → Nat} (h : isLr Z ρ k S l n f e rl re rf) (hs : ∀ b, b ∈ q_L S → sameAt S S' b) (hρ : rx ρ ρ' S) : isLr Z ρ' k S' l n f e rl re rf := by
  obtain ⟨hl, hr, he, hf⟩ := h
  refine ⟨hl.same (hs l hl.1) (fun z _ => hs e z) (fun i hi => hs (f i) (hl.2.2.2.2.2.2.1 i hi).1), by rw [hρ l hl.1]; exact hr, ?_, fun i hi => by rw [hρ _ (hl.2.2.2.2.2.2.1 i hi).1]; exact hf i hi⟩
  rcases he with he | ⟨y1, y2, y3⟩
  · exact Or.inl he
  · exact Or.inr ⟨(hs e y1).1, (hs e y1).2.1.trans y2, by rw [hρ e y1]; exact y3⟩
theorem cG.ext {nS nS' nF nF' n : Nat} {fG fS fS' fF fF' bl os du le nb bf : Nat → Nat} {ps re su br bs : Nat → Int32} {ls : Nat → Option Nat} (h : cG Z ρ S x fG fS fF bl nS nF n os ps ls re su du le nb bf br bs) (h1 : ∀ i, i < nS → fS' i = fS i) (h2 : nS ≤ nS') (h3 : ∀ i, i < nF → fF' i = fF i) (h4 : nF ≤ nF') : cG Z ρ S x fG fS' fF' bl nS' nF' n os ps ls re su du le nb bf br bs := by
  obtain ⟨l, e, g1, g2, g3, g31, g4, g5⟩ := h
  refine ⟨l, e, g1, g2, g3, g31, g4, fun i hi => ?_⟩
  obtain ⟨⟨u1, ⟨u2, u2'⟩, u3, u4, u5⟩, ⟨eB, fB, b1, b2, b3⟩⟩ := g5 i hi
  refine ⟨⟨u1, ⟨by rw [h1 _ u2']; exact u2, by omega⟩, u3, u4, ?_⟩, eB, fB, b1, b2, fun k hk => ?_⟩
  · rcases u5 with u5 | ⟨f, v1, v2, v3, v4⟩
    · exact Or.inl u5
    · exact Or.inr ⟨f, v1, by omega, by rw [h3 _ v2]; exact v3, v4⟩
  · obtain ⟨c1, c2, c3⟩ := b3 k hk
    exact ⟨by rw [h3 _ c2]; exact c1, by omega, c3⟩
set_option maxHeartbeats 4000000 in
theorem c_stretch {i : Int32} (hst : Z.1.stackTraces = false) (hd : 8 ≤ d) (hZ : Z.2.2.2.2.2.1 ∉ q_L S) (hC : CI Z ρ S x gh M) (hw0 : M.2.2.1.2.2 M.2.2.1.1 = 0) (hmc : 2 ≤ mc) (hms : 50 ≤ ms)
    (H1 : ¬ (1 ≤ i ∧ i ≤ 10000) → QX "java/lang/IllegalArgumentException" S) (H2 : (1 ≤ i ∧ i ≤ 10000) → 12 ≤ M.2.2.1.1 → QX "java/lang/IllegalStateException" S)
    (H0 : (1 ≤ i ∧ i ≤ 10000) → M.2.2.1.1 < 12 → okC Z ρ S x QR (.int (nI M.2.2.1.1)) (M.1, M.2.1, (M.2.2.1.1 + 1, upd M.2.2.1.2.1 M.2.2.1.1 i, M.2.2.1.2.2), M.2.2.2)) : tk_M Z mX11_stretch d mc ms [.ref x, .int i] S QR QX := by
  have hC0 := hC
  obtain ⟨fS, fG, fV, p, p2, fF, fL, bl⟩ := gh
  obtain ⟨⟨tn, tg, tp⟩, acts, ⟨nS, pr, wo⟩, ⟨nG, os, ps, ls, re, su, du, le, nb, bf, br, bs⟩, ⟨nV, kd, wh, be, bi, pa, pd, la⟩, ⟨nF, mo⟩, ⟨nL, lsu, lra, lrk, ldu⟩, J, ⟨td, dry, lc⟩⟩ := M
  obtain ⟨cD0, cT0, cK0, cA0, cS0, cG0, cV0, cF0, cL0, cJ0⟩ := hC
  obtain ⟨hx, hk, hρ, htd, ht, hdry, hlc⟩ := cD0
  refine M_X11_stretch hst hd (Nat.le_of_ble_eq_true rfl) (fun E hE => hE _ _ _ _ _ ?_)
  show t_X11_stretch_0 Z d mc ms QR QX E [some (.ref x), some (.int i)] [] S 0 0
  obtain ⟨l, e, h1, h2, h3, h4, h5⟩ := cS0
  have hl := h2.1
  dsimp only at H1 H2 H0 hw0
  simp -implicitDefEqProofs [t_X11_stretch_0, i_aload, i_iload, i_lload, i_istore, i_lstore, i_astore, i_iinc, i_push, i_getI, i_getJ, i_getR, i_putI, i_putJ, i_putR, i_iadd, i_isub, i_imul, i_iand, i_ior, i_ixor, i_ishl, i_ishr, i_iushr, i_idiv, i_irem, i_ladd, i_lsub, i_lmul, i_land, i_lor, i_lxor, i_ldiv, i_lrem, i_lshl, i_lshr, i_lcmp, i_ineg, i_lneg, i_i2l, i_l2i, i_i2b, i_i2c, i_dup, i_pop, i_dup_x1, i_dup2, i_icmp_eq, i_icmp_lt, i_icmp_ge, i_icmp_gt, i_icmp_le, i_if_eq, i_if_lt, i_if_ge, i_if_gt, i_if_le, i_goto, i_ifnull, i_iald, i_bald, i_zald, i_lald, i_aald, i_iast, i_bast, i_zast, i_last, i_alen, i_iret, i_lret, i_aret, i_vret, i_oinit, i_cast, i_tsw, i_cases, i_mmin, i_mmax, i_lmin, i_throw, nb0, nb1, nint, nby0, rf_s, rf_n, of_r, of_n, tk_orf_rf, tk_c2, tk_ls, Value.category, tk_isR_ref, tk_isR_rf, tk_isR_null]
  refine ⟨by simp, by simp [Value.category], 0, 0, 0, by omega, by omega, by omega, ?_⟩
  refine m_isWithin ?_
  by_cases w : 1 ≤ i ∧ i ≤ 10000
  · rw [if_pos w]
    have H2 := H2 w
    have H0 := H0 w
    simp -implicitDefEqProofs [i_aload, i_iload, i_lload, i_istore, i_lstore, i_astore, i_iinc, i_push, i_getI, i_getJ, i_getR, i_putI, i_putJ, i_putR, i_iadd, i_isub, i_imul, i_iand, i_ior, i_ixor, i_ishl, i_ishr, i_iushr, i_idiv, i_irem, i_ladd, i_lsub, i_lmul, i_land, i_lor, i_lxor, i_ldiv, i_lrem, i_lshl, i_lshr, i_lcmp, i_ineg, i_lneg, i_i2l, i_l2i, i_i2b, i_i2c, i_dup, i_pop, i_dup_x1, i_dup2, i_icmp_eq, i_icmp_lt, i_icmp_ge, i_icmp_gt, i_icmp_le, i_if_eq, i_if_lt, i_if_ge, i_if_gt, i_if_le, i_goto, i_ifnull, i_iald, i_bald, i_zald, i_lald, i_aald, i_iast, i_bast, i_zast, i_last, i_alen, i_iret, i_lret, i_aret, i_vret, i_oinit, i_cast, i_tsw, i_cases, i_mmin, i_mmax, i_lmin, i_throw, nb0, nb1, nint, nby0, rf_s, rf_n, of_r, of_n, tk_orf_rf, tk_c2, tk_ls, Value.category, tk_isR_ref, tk_isR_rf, tk_isR_null, hx, hk, h1]
    refine ⟨by simp, hl.1, hl.2.1, by simp [Value.category], 0, 0, 0, by omega, by omega, by omega, ?_⟩
    refine l_size hl ?_
    have zn : (nI nS < 12 ↔ nS < 12) := nI_ltI (b := 12) (by omega) (by omega)
    simp -implicitDefEqProofs [i_aload, i_iload, i_lload, i_istore, i_lstore, i_astore, i_iinc, i_push, i_getI, i_getJ, i_getR, i_putI, i_putJ, i_putR, i_iadd, i_isub, i_imul, i_iand, i_ior, i_ixor, i_ishl, i_ishr, i_iushr, i_idiv, i_irem, i_ladd, i_lsub, i_lmul, i_land, i_lor, i_lxor, i_ldiv, i_lrem, i_lshl, i_lshr, i_lcmp, i_ineg, i_lneg, i_i2l, i_l2i, i_i2b, i_i2c, i_dup, i_pop, i_dup_x1, i_dup2, i_icmp_eq, i_icmp_lt, i_icmp_ge, i_icmp_gt, i_icmp_le, i_if_eq, i_if_lt, i_if_ge, i_if_gt, i_if_le, i_goto, i_ifnull, i_iald, i_bald, i_zald, i_lald, i_aald, i_iast, i_bast, i_zast, i_last, i_alen, i_iret, i_lret, i_aret, i_vret, i_oinit, i_cast, i_tsw, i_cases, i_mmin, i_mmax, i_lmin, i_throw, nb0, nb1, nint, nby0, rf_s, rf_n, of_r, of_n, tk_orf_rf, tk_c2, tk_ls, Value.category, tk_isR_ref, tk_isR_rf, tk_isR_null, i_new, hx, hk, h1]
    refine ⟨fun w2 => ?_, fun w2 => ?_⟩
    · have hn := zn.mp w2
      have H0 := H0 hn
      refine ⟨by omega, by omega, fun q hq => ?_⟩
      have hxq : x ≠ q := fun z => hq (z ▸ hx)
      simp -implicitDefEqProofs [i_aload, i_iload, i_lload, i_istore, i_lstore, i_astore, i_iinc, i_push, i_getI, i_getJ, i_getR, i_putI, i_putJ, i_putR, i_iadd, i_isub, i_imul, i_iand, i_ior, i_ixor, i_ishl, i_ishr, i_iushr, i_idiv, i_irem, i_ladd, i_lsub, i_lmul, i_land, i_lor, i_lxor, i_ldiv, i_lrem, i_lshl, i_lshr, i_lcmp, i_ineg, i_lneg, i_i2l, i_l2i, i_i2b, i_i2c, i_dup, i_pop, i_dup_x1, i_dup2, i_icmp_eq, i_icmp_lt, i_icmp_ge, i_icmp_gt, i_icmp_le, i_if_eq, i_if_lt, i_if_ge, i_if_gt, i_if_le, i_goto, i_ifnull, i_iald, i_bald, i_zald, i_lald, i_aald, i_iast, i_bast, i_zast, i_last, i_alen, i_iret, i_lret, i_aret, i_vret, i_oinit, i_cast, i_tsw, i_cases, i_mmin, i_mmax, i_lmin, i_throw, nb0, nb1, nint, nby0, rf_s, rf_n, of_r, of_n, tk_orf_rf, tk_c2, tk_ls, Value.category, tk_isR_ref, tk_isR_rf, tk_isR_null, z_q_L_s_I, z_q_K_s_I, z_q_I_s_I, z_q_J_s_I, z_q_R_s_I, z_q_n_s_I, z_q_aI_s_I, z_q_aJ_s_I, z_q_aR_s_I, z_q_L_s_J, z_q_K_s_J, z_q_I_s_J, z_q_J_s_J, z_q_R_s_J, z_q_n_s_J, z_q_aI_s_J, z_q_aJ_s_J, z_q_aR_s_J, z_q_L_s_R, z_q_K_s_R, z_q_I_s_R, z_q_J_s_R, z_q_R_s_R, z_q_n_s_R, z_q_aI_s_R, z_q_aJ_s_R, z_q_aR_s_R, z_q_L_s_aI, z_q_K_s_aI, z_q_I_s_aI, z_q_J_s_aI, z_q_R_s_aI, z_q_n_s_aI, z_q_aI_s_aI, z_q_aJ_s_aI, z_q_aR_s_aI, z_q_L_s_aJ, z_q_K_s_aJ, z_q_I_s_aJ, z_q_J_s_aJ, z_q_R_s_aJ, z_q_n_s_aJ, z_q_aI_s_aJ, z_q_aJ_s_aJ, z_q_aR_s_aJ, z_q_L_s_aR, z_q_K_s_aR, z_q_I_s_aR, z_q_J_s_aR, z_q_R_s_aR, z_q_n_s_aR, z_q_aI_s_aR, z_q_aJ_s_aR, z_q_aR_s_aR, z_q_L_s_new, z_q_K_s_new, z_q_I_s_new, z_q_J_s_new, z_q_R_s_new, z_q_n_s_new, z_q_aI_s_new, z_q_aJ_s_new, z_q_aR_s_new, z_q_L_s_arr, z_q_K_s_arr, z_q_I_s_arr, z_q_J_s_arr, z_q_R_s_arr, z_q_n_s_arr, z_q_aI_s_arr, z_q_aJ_s_arr, z_q_aR_s_arr, hx, hk, h1, hxq]
      have hs1 : ∀ b, b ∈ q_L S → sameAt S (s_new S 10 q) b := fun b hb => new_same hb hq
      have hl1 := hl.same (hs1 l hl.1) (fun z _ => hs1 e z) (fun i hi => hs1 _ (hl.2.2.2.2.2.2.1 i hi).1)
      refine ⟨by simp, hl1.1, hl1.2.1, by simp [Value.category], 0, 0, 0, by omega, by omega, by omega, ?_⟩
      refine l_size hl1 ?_
      simp -implicitDefEqProofs [i_aload, i_iload, i_lload, i_istore, i_lstore, i_astore, i_iinc, i_push, i_getI, i_getJ, i_getR, i_putI, i_putJ, i_putR, i_iadd, i_isub, i_imul, i_iand, i_ior, i_ixor, i_ishl, i_ishr, i_iushr, i_idiv, i_irem, i_ladd, i_lsub, i_lmul, i_land, i_lor, i_lxor, i_ldiv, i_lrem, i_lshl, i_lshr, i_lcmp, i_ineg, i_lneg, i_i2l, i_l2i, i_i2b, i_i2c, i_dup, i_pop, i_dup_x1, i_dup2, i_icmp_eq, i_icmp_lt, i_icmp_ge, i_icmp_gt, i_icmp_le, i_if_eq, i_if_lt, i_if_ge, i_if_gt, i_if_le, i_goto, i_ifnull, i_iald, i_bald, i_zald, i_lald, i_aald, i_iast, i_bast, i_zast, i_last, i_alen, i_iret, i_lret, i_aret, i_vret, i_oinit, i_cast, i_tsw, i_cases, i_mmin, i_mmax, i_lmin, i_throw, nb0, nb1, nint, nby0, rf_s, rf_n, of_r, of_n, tk_orf_rf, tk_c2, tk_ls, Value.category, tk_isR_ref, tk_isR_rf, tk_isR_null]
      refine ⟨by simp, by simp [Value.category], 1, 0, 0, by omega, by omega, by omega, ?_⟩
      refine tk_M.out (m_Stretch (Nat.le_refl 1) (by simp -implicitDefEqProofs [z_q_L_s_I, z_q_K_s_I, z_q_I_s_I, z_q_J_s_I, z_q_R_s_I, z_q_n_s_I, z_q_aI_s_I, z_q_aJ_s_I, z_q_aR_s_I, z_q_L_s_J, z_q_K_s_J, z_q_I_s_J, z_q_J_s_J, z_q_R_s_J, z_q_n_s_J, z_q_aI_s_J, z_q_aJ_s_J, z_q_aR_s_J, z_q_L_s_R, z_q_K_s_R, z_q_I_s_R, z_q_J_s_R, z_q_R_s_R, z_q_n_s_R, z_q_aI_s_R, z_q_aJ_s_R, z_q_aR_s_R, z_q_L_s_aI, z_q_K_s_aI, z_q_I_s_aI, z_q_J_s_aI, z_q_R_s_aI, z_q_n_s_aI, z_q_aI_s_aI, z_q_aJ_s_aI, z_q_aR_s_aI, z_q_L_s_aJ, z_q_K_s_aJ, z_q_I_s_aJ, z_q_J_s_aJ, z_q_R_s_aJ, z_q_n_s_aJ, z_q_aI_s_aJ, z_q_aJ_s_aJ, z_q_aR_s_aJ, z_q_L_s_aR, z_q_K_s_aR, z_q_I_s_aR, z_q_J_s_aR, z_q_R_s_aR, z_q_n_s_aR, z_q_aI_s_aR, z_q_aJ_s_aR, z_q_aR_s_aR, z_q_L_s_new, z_q_K_s_new, z_q_I_s_new, z_q_J_s_new, z_q_R_s_new, z_q_n_s_new, z_q_aI_s_new, z_q_aJ_s_new, z_q_aR_s_new, z_q_L_s_arr, z_q_K_s_arr, z_q_I_s_arr, z_q_J_s_arr, z_q_R_s_arr, z_q_n_s_arr, z_q_aI_s_arr, z_q_aJ_s_arr, z_q_aR_s_arr]) (by simp -implicitDefEqProofs [z_q_L_s_I, z_q_K_s_I, z_q_I_s_I, z_q_J_s_I, z_q_R_s_I, z_q_n_s_I, z_q_aI_s_I, z_q_aJ_s_I, z_q_aR_s_I, z_q_L_s_J, z_q_K_s_J, z_q_I_s_J, z_q_J_s_J, z_q_R_s_J, z_q_n_s_J, z_q_aI_s_J, z_q_aJ_s_J, z_q_aR_s_J, z_q_L_s_R, z_q_K_s_R, z_q_I_s_R, z_q_J_s_R, z_q_R_s_R, z_q_n_s_R, z_q_aI_s_R, z_q_aJ_s_R, z_q_aR_s_R, z_q_L_s_aI, z_q_K_s_aI, z_q_I_s_aI, z_q_J_s_aI, z_q_R_s_aI, z_q_n_s_aI, z_q_aI_s_aI, z_q_aJ_s_aI, z_q_aR_s_aI, z_q_L_s_aJ, z_q_K_s_aJ, z_q_I_s_aJ, z_q_J_s_aJ, z_q_R_s_aJ, z_q_n_s_aJ, z_q_aI_s_aJ, z_q_aJ_s_aJ, z_q_aR_s_aJ, z_q_L_s_aR, z_q_K_s_aR, z_q_I_s_aR, z_q_J_s_aR, z_q_R_s_aR, z_q_n_s_aR, z_q_aI_s_aR, z_q_aJ_s_aR, z_q_aR_s_aR, z_q_L_s_new, z_q_K_s_new, z_q_I_s_new, z_q_J_s_new, z_q_R_s_new, z_q_n_s_new, z_q_aI_s_new, z_q_aJ_s_new, z_q_aR_s_new, z_q_L_s_arr, z_q_K_s_arr, z_q_I_s_arr, z_q_J_s_arr, z_q_R_s_arr, z_q_n_s_arr, z_q_aI_s_arr, z_q_aJ_s_arr, z_q_aR_s_arr]) (fun hZ2 => ?_))
      simp -implicitDefEqProofs [i_aload, i_iload, i_lload, i_istore, i_lstore, i_astore, i_iinc, i_push, i_getI, i_getJ, i_getR, i_putI, i_putJ, i_putR, i_iadd, i_isub, i_imul, i_iand, i_ior, i_ixor, i_ishl, i_ishr, i_iushr, i_idiv, i_irem, i_ladd, i_lsub, i_lmul, i_land, i_lor, i_lxor, i_ldiv, i_lrem, i_lshl, i_lshr, i_lcmp, i_ineg, i_lneg, i_i2l, i_l2i, i_i2b, i_i2c, i_dup, i_pop, i_dup_x1, i_dup2, i_icmp_eq, i_icmp_lt, i_icmp_ge, i_icmp_gt, i_icmp_le, i_if_eq, i_if_lt, i_if_ge, i_if_gt, i_if_le, i_goto, i_ifnull, i_iald, i_bald, i_zald, i_lald, i_aald, i_iast, i_bast, i_zast, i_last, i_alen, i_iret, i_lret, i_aret, i_vret, i_oinit, i_cast, i_tsw, i_cases, i_mmin, i_mmax, i_lmin, i_throw, nb0, nb1, nint, nby0, rf_s, rf_n, of_r, of_n, tk_orf_rf, tk_c2, tk_ls, Value.category, tk_isR_ref, tk_isR_rf, tk_isR_null]
      have hZ2' : Z.2.2.2.2.2.1 ∉ q_L (s_I (s_I (s_J (s_new S 10 q) 10 2 q 0) 10 0 q (nI nS)) 10 1 q i) := hZ2
      generalize hS2 : s_I (s_I (s_J (s_new S 10 q) 10 2 q 0) 10 0 q (nI nS)) 10 1 q i = S2 at *
      have hs2 : ∀ b, b ∈ q_L S → sameAt S S2 b := fun b hb => by
        have hbq : b ≠ q := fun z => hq (z ▸ hb)
        rw [← hS2]
        simp -implicitDefEqProofs [sameAt, z_q_L_s_I, z_q_K_s_I, z_q_I_s_I, z_q_J_s_I, z_q_R_s_I, z_q_n_s_I, z_q_aI_s_I, z_q_aJ_s_I, z_q_aR_s_I, z_q_L_s_J, z_q_K_s_J, z_q_I_s_J, z_q_J_s_J, z_q_R_s_J, z_q_n_s_J, z_q_aI_s_J, z_q_aJ_s_J, z_q_aR_s_J, z_q_L_s_R, z_q_K_s_R, z_q_I_s_R, z_q_J_s_R, z_q_R_s_R, z_q_n_s_R, z_q_aI_s_R, z_q_aJ_s_R, z_q_aR_s_R, z_q_L_s_aI, z_q_K_s_aI, z_q_I_s_aI, z_q_J_s_aI, z_q_R_s_aI, z_q_n_s_aI, z_q_aI_s_aI, z_q_aJ_s_aI, z_q_aR_s_aI, z_q_L_s_aJ, z_q_K_s_aJ, z_q_I_s_aJ, z_q_J_s_aJ, z_q_R_s_aJ, z_q_n_s_aJ, z_q_aI_s_aJ, z_q_aJ_s_aJ, z_q_aR_s_aJ, z_q_L_s_aR, z_q_K_s_aR, z_q_I_s_aR, z_q_J_s_aR, z_q_R_s_aR, z_q_n_s_aR, z_q_aI_s_aR, z_q_aJ_s_aR, z_q_aR_s_aR, z_q_L_s_new, z_q_K_s_new, z_q_I_s_new, z_q_J_s_new, z_q_R_s_new, z_q_n_s_new, z_q_aI_s_new, z_q_aJ_s_new, z_q_aR_s_new, z_q_L_s_arr, z_q_K_s_arr, z_q_I_s_arr, z_q_J_s_arr, z_q_R_s_arr, z_q_n_s_arr, z_q_aI_s_arr, z_q_aJ_s_arr, z_q_aR_s_arr, hb, hbq]
      have hq2 : q ∈ q_L S2 ∧ q_K S2 q = 10 ∧ q_I S2 10 0 q = nI nS ∧ q_I S2 10 1 q = i ∧ q_J S2 10 2 q = 0 := by
        rw [← hS2]
        exact ⟨by simp -implicitDefEqProofs [z_q_L_s_I, z_q_K_s_I, z_q_I_s_I, z_q_J_s_I, z_q_R_s_I, z_q_n_s_I, z_q_aI_s_I, z_q_aJ_s_I, z_q_aR_s_I, z_q_L_s_J, z_q_K_s_J, z_q_I_s_J, z_q_J_s_J, z_q_R_s_J, z_q_n_s_J, z_q_aI_s_J, z_q_aJ_s_J, z_q_aR_s_J, z_q_L_s_R, z_q_K_s_R, z_q_I_s_R, z_q_J_s_R, z_q_R_s_R, z_q_n_s_R, z_q_aI_s_R, z_q_aJ_s_R, z_q_aR_s_R, z_q_L_s_aI, z_q_K_s_aI, z_q_I_s_aI, z_q_J_s_aI, z_q_R_s_aI, z_q_n_s_aI, z_q_aI_s_aI, z_q_aJ_s_aI, z_q_aR_s_aI, z_q_L_s_aJ, z_q_K_s_aJ, z_q_I_s_aJ, z_q_J_s_aJ, z_q_R_s_aJ, z_q_n_s_aJ, z_q_aI_s_aJ, z_q_aJ_s_aJ, z_q_aR_s_aJ, z_q_L_s_aR, z_q_K_s_aR, z_q_I_s_aR, z_q_J_s_aR, z_q_R_s_aR, z_q_n_s_aR, z_q_aI_s_aR, z_q_aJ_s_aR, z_q_aR_s_aR, z_q_L_s_new, z_q_K_s_new, z_q_I_s_new, z_q_J_s_new, z_q_R_s_new, z_q_n_s_new, z_q_aI_s_new, z_q_aJ_s_new, z_q_aR_s_new, z_q_L_s_arr, z_q_K_s_arr, z_q_I_s_arr, z_q_J_s_arr, z_q_R_s_arr, z_q_n_s_arr, z_q_aI_s_arr, z_q_aJ_s_arr, z_q_aR_s_arr], by simp -implicitDefEqProofs [z_q_L_s_I, z_q_K_s_I, z_q_I_s_I, z_q_J_s_I, z_q_R_s_I, z_q_n_s_I, z_q_aI_s_I, z_q_aJ_s_I, z_q_aR_s_I, z_q_L_s_J, z_q_K_s_J, z_q_I_s_J, z_q_J_s_J, z_q_R_s_J, z_q_n_s_J, z_q_aI_s_J, z_q_aJ_s_J, z_q_aR_s_J, z_q_L_s_R, z_q_K_s_R, z_q_I_s_R, z_q_J_s_R, z_q_R_s_R, z_q_n_s_R, z_q_aI_s_R, z_q_aJ_s_R, z_q_aR_s_R, z_q_L_s_aI, z_q_K_s_aI, z_q_I_s_aI, z_q_J_s_aI, z_q_R_s_aI, z_q_n_s_aI, z_q_aI_s_aI, z_q_aJ_s_aI, z_q_aR_s_aI, z_q_L_s_aJ, z_q_K_s_aJ, z_q_I_s_aJ, z_q_J_s_aJ, z_q_R_s_aJ, z_q_n_s_aJ, z_q_aI_s_aJ, z_q_aJ_s_aJ, z_q_aR_s_aJ, z_q_L_s_aR, z_q_K_s_aR, z_q_I_s_aR, z_q_J_s_aR, z_q_R_s_aR, z_q_n_s_aR, z_q_aI_s_aR, z_q_aJ_s_aR, z_q_aR_s_aR, z_q_L_s_new, z_q_K_s_new, z_q_I_s_new, z_q_J_s_new, z_q_R_s_new, z_q_n_s_new, z_q_aI_s_new, z_q_aJ_s_new, z_q_aR_s_new, z_q_L_s_arr, z_q_K_s_arr, z_q_I_s_arr, z_q_J_s_arr, z_q_R_s_arr, z_q_n_s_arr, z_q_aI_s_arr, z_q_aJ_s_arr, z_q_aR_s_arr], by simp -implicitDefEqProofs [z_q_L_s_I, z_q_K_s_I, z_q_I_s_I, z_q_J_s_I, z_q_R_s_I, z_q_n_s_I, z_q_aI_s_I, z_q_aJ_s_I, z_q_aR_s_I, z_q_L_s_J, z_q_K_s_J, z_q_I_s_J, z_q_J_s_J, z_q_R_s_J, z_q_n_s_J, z_q_aI_s_J, z_q_aJ_s_J, z_q_aR_s_J, z_q_L_s_R, z_q_K_s_R, z_q_I_s_R, z_q_J_s_R, z_q_R_s_R, z_q_n_s_R, z_q_aI_s_R, z_q_aJ_s_R, z_q_aR_s_R, z_q_L_s_aI, z_q_K_s_aI, z_q_I_s_aI, z_q_J_s_aI, z_q_R_s_aI, z_q_n_s_aI, z_q_aI_s_aI, z_q_aJ_s_aI, z_q_aR_s_aI, z_q_L_s_aJ, z_q_K_s_aJ, z_q_I_s_aJ, z_q_J_s_aJ, z_q_R_s_aJ, z_q_n_s_aJ, z_q_aI_s_aJ, z_q_aJ_s_aJ, z_q_aR_s_aJ, z_q_L_s_aR, z_q_K_s_aR, z_q_I_s_aR, z_q_J_s_aR, z_q_R_s_aR, z_q_n_s_aR, z_q_aI_s_aR, z_q_aJ_s_aR, z_q_aR_s_aR, z_q_L_s_new, z_q_K_s_new, z_q_I_s_new, z_q_J_s_new, z_q_R_s_new, z_q_n_s_new, z_q_aI_s_new, z_q_aJ_s_new, z_q_aR_s_new, z_q_L_s_arr, z_q_K_s_arr, z_q_I_s_arr, z_q_J_s_arr, z_q_R_s_arr, z_q_n_s_arr, z_q_aI_s_arr, z_q_aJ_s_arr, z_q_aR_s_arr], by simp -implicitDefEqProofs [z_q_L_s_I, z_q_K_s_I, z_q_I_s_I, z_q_J_s_I, z_q_R_s_I, z_q_n_s_I, z_q_aI_s_I, z_q_aJ_s_I, z_q_aR_s_I, z_q_L_s_J, z_q_K_s_J, z_q_I_s_J, z_q_J_s_J, z_q_R_s_J, z_q_n_s_J, z_q_aI_s_J, z_q_aJ_s_J, z_q_aR_s_J, z_q_L_s_R, z_q_K_s_R, z_q_I_s_R, z_q_J_s_R, z_q_R_s_R, z_q_n_s_R, z_q_aI_s_R, z_q_aJ_s_R, z_q_aR_s_R, z_q_L_s_aI, z_q_K_s_aI, z_q_I_s_aI, z_q_J_s_aI, z_q_R_s_aI, z_q_n_s_aI, z_q_aI_s_aI, z_q_aJ_s_aI, z_q_aR_s_aI, z_q_L_s_aJ, z_q_K_s_aJ, z_q_I_s_aJ, z_q_J_s_aJ, z_q_R_s_aJ, z_q_n_s_aJ, z_q_aI_s_aJ, z_q_aJ_s_aJ, z_q_aR_s_aJ, z_q_L_s_aR, z_q_K_s_aR, z_q_I_s_aR, z_q_J_s_aR, z_q_R_s_aR, z_q_n_s_aR, z_q_aI_s_aR, z_q_aJ_s_aR, z_q_aR_s_aR, z_q_L_s_new, z_q_K_s_new, z_q_I_s_new, z_q_J_s_new, z_q_R_s_new, z_q_n_s_new, z_q_aI_s_new, z_q_aJ_s_new, z_q_aR_s_new, z_q_L_s_arr, z_q_K_s_arr, z_q_I_s_arr, z_q_J_s_arr, z_q_R_s_arr, z_q_n_s_arr, z_q_aI_s_arr, z_q_aJ_s_arr, z_q_aR_s_arr], by simp -implicitDefEqProofs [z_q_L_s_I, z_q_K_s_I, z_q_I_s_I, z_q_J_s_I, z_q_R_s_I, z_q_n_s_I, z_q_aI_s_I, z_q_aJ_s_I, z_q_aR_s_I, z_q_L_s_J, z_q_K_s_J, z_q_I_s_J, z_q_J_s_J, z_q_R_s_J, z_q_n_s_J, z_q_aI_s_J, z_q_aJ_s_J, z_q_aR_s_J, z_q_L_s_R, z_q_K_s_R, z_q_I_s_R, z_q_J_s_R, z_q_R_s_R, z_q_n_s_R, z_q_aI_s_R, z_q_aJ_s_R, z_q_aR_s_R, z_q_L_s_aI, z_q_K_s_aI, z_q_I_s_aI, z_q_J_s_aI, z_q_R_s_aI, z_q_n_s_aI, z_q_aI_s_aI, z_q_aJ_s_aI, z_q_aR_s_aI, z_q_L_s_aJ, z_q_K_s_aJ, z_q_I_s_aJ, z_q_J_s_aJ, z_q_R_s_aJ, z_q_n_s_aJ, z_q_aI_s_aJ, z_q_aJ_s_aJ, z_q_aR_s_aJ, z_q_L_s_aR, z_q_K_s_aR, z_q_I_s_aR, z_q_J_s_aR, z_q_R_s_aR, z_q_n_s_aR, z_q_aI_s_aR, z_q_aJ_s_aR, z_q_aR_s_aR, z_q_L_s_new, z_q_K_s_new, z_q_I_s_new, z_q_J_s_new, z_q_R_s_new, z_q_n_s_new, z_q_aI_s_new, z_q_aJ_s_new, z_q_aR_s_new, z_q_L_s_arr, z_q_K_s_arr, z_q_I_s_arr, z_q_J_s_arr, z_q_R_s_arr, z_q_n_s_arr, z_q_aI_s_arr, z_q_aJ_s_arr, z_q_aR_s_arr]⟩
      clear hS2
      have hr1 : rx ρ (rnew ρ S 40) S := rx_new ρ S 40
      have hL1 := h2.mv hs2 hr1
      refine ⟨by simp, hL1.1.1, hL1.1.2.1, by simp [Value.category], 7, 1, 10 + 2 * nS, by omega, by omega, by omega, ?_⟩
      refine tk_M.out (l_add_2 (k := 10) (f := fS) (Nat.le_refl 7) hL1.1 (by omega) (by decide) ⟨hq2.1, hq2.2.1⟩ (Nat.le_refl 1) (Nat.le_refl _) (fun e2 S3 hg hZ3 => ?_))
      obtain ⟨hA, g3, f3⟩ := hL1.add hZ2' hg hq2.1 (rnew_n hq)
      have gA : gr S S3 := fun b hb => g3 b (hs2 b hb).1
      have rA : rx ρ (rnew (rnew ρ S 40) S2 12) S := fun b hb => by rw [rx_new _ S2 12 b (hs2 b hb).1, hr1 b hb]
      have s1 : ∀ b, b ∈ q_L S → ρ b ∉ [6, 12] → sameAt S S3 b := fun b hb hn => (hs2 b hb).trans (f3 b (hs2 b hb).1 (by rw [hr1 b hb]; exact hn))
      have sx := s1 x hx (by rw [hρ]; simp)
      have sq := f3 q hq2.1 (by rw [rnew_n hq]; simp)
      simp -implicitDefEqProofs [i_aload, i_iload, i_lload, i_istore, i_lstore, i_astore, i_iinc, i_push, i_getI, i_getJ, i_getR, i_putI, i_putJ, i_putR, i_iadd, i_isub, i_imul, i_iand, i_ior, i_ixor, i_ishl, i_ishr, i_iushr, i_idiv, i_irem, i_ladd, i_lsub, i_lmul, i_land, i_lor, i_lxor, i_ldiv, i_lrem, i_lshl, i_lshr, i_lcmp, i_ineg, i_lneg, i_i2l, i_l2i, i_i2b, i_i2c, i_dup, i_pop, i_dup_x1, i_dup2, i_icmp_eq, i_icmp_lt, i_icmp_ge, i_icmp_gt, i_icmp_le, i_if_eq, i_if_lt, i_if_ge, i_if_gt, i_if_le, i_goto, i_ifnull, i_iald, i_bald, i_zald, i_lald, i_aald, i_iast, i_bast, i_zast, i_last, i_alen, i_iret, i_lret, i_aret, i_vret, i_oinit, i_cast, i_tsw, i_cases, i_mmin, i_mmax, i_lmin, i_throw, nb0, nb1, nint, nby0, rf_s, rf_n, of_r, of_n, tk_orf_rf, tk_c2, tk_ls, Value.category, tk_isR_ref, tk_isR_rf, tk_isR_null, sx.1, sx.2.1.trans hk, (sx.2.2.2.2.1 12 4).trans h1]
      refine ⟨by simp, hA.1.1, hA.1.2.1, by simp [Value.category], 0, 0, 0, by omega, by omega, by omega, ?_⟩
      refine l_size hA.1 ?_
      simp -implicitDefEqProofs [i_aload, i_iload, i_lload, i_istore, i_lstore, i_astore, i_iinc, i_push, i_getI, i_getJ, i_getR, i_putI, i_putJ, i_putR, i_iadd, i_isub, i_imul, i_iand, i_ior, i_ixor, i_ishl, i_ishr, i_iushr, i_idiv, i_irem, i_ladd, i_lsub, i_lmul, i_land, i_lor, i_lxor, i_ldiv, i_lrem, i_lshl, i_lshr, i_lcmp, i_ineg, i_lneg, i_i2l, i_l2i, i_i2b, i_i2c, i_dup, i_pop, i_dup_x1, i_dup2, i_icmp_eq, i_icmp_lt, i_icmp_ge, i_icmp_gt, i_icmp_le, i_if_eq, i_if_lt, i_if_ge, i_if_gt, i_if_le, i_goto, i_ifnull, i_iald, i_bald, i_zald, i_lald, i_aald, i_iast, i_bast, i_zast, i_last, i_alen, i_iret, i_lret, i_aret, i_vret, i_oinit, i_cast, i_tsw, i_cases, i_mmin, i_mmax, i_lmin, i_throw, nb0, nb1, nint, nby0, rf_s, rf_n, of_r, of_n, tk_orf_rf, tk_c2, tk_ls, Value.category, tk_isR_ref, tk_isR_rf, tk_isR_null]
      refine ⟨by omega, by omega, ?_⟩
      rw [nI_pred]
      refine H0 S3 _ (va_up fS nS q, fG, fV, p, p2, fF, fL, bl) (FO.of gA rA s1 (by simp)) ?_
      have cS1 : cS Z (rnew (rnew ρ S 40) S2 12) S3 x (va_up fS nS q) (nS + 1) (upd pr nS i) wo := by
        refine ⟨l, e2, (sx.2.2.2.2.1 12 4).trans h1, hA, inj_add h3 (fun j hj z => hq (by rw [← z]; exact (hl.2.2.2.2.2.2.1 j hj).1)), by omega, fun j hj => ?_⟩
        by_cases hjn : j = nS
        · rw [hjn, va_up_self, pk_us, hw0]
          exact ⟨(sq.2.2.1 _ _).trans hq2.2.2.1, (sq.2.2.1 _ _).trans hq2.2.2.2.1, (sq.2.2.2.1 _ _).trans hq2.2.2.2.2⟩
        · have hj2 : j < nS := by omega
          rw [va_up_ne _ _ hjn, pk_un hjn]
          have hjL := (hl.2.2.2.2.2.2.1 j hj2).1
          have sj := s1 _ hjL (by rw [h2.2.2.2 j hj2]; simp)
          obtain ⟨y1, y2, y3⟩ := h5 j hj2
          exact ⟨(sj.2.2.1 _ _).trans y1, (sj.2.2.1 _ _).trans y2, (sj.2.2.2.1 _ _).trans y3⟩
      have cG1 := (cG0.same hZ (xr.of sx) (sm.no s1 (by simp)) rA).ext (fS' := va_up fS nS q) (fF' := fF) (fun j hj => va_up_ne _ _ (by omega)) (Nat.le_succ nS) (fun _ _ => rfl) (Nat.le_refl nF)
      exact ⟨cD.same ⟨hx, hk, hρ, htd, ht, hdry, hlc⟩ sx (rA x hx), cT0.same (xr.of sx) (sm.no s1 (by simp)) rA, cK0.same (xr.of sx) (sm.no s1 (by simp)) rA, cA0.same hZ (xr.of sx) (sm.no s1 (by simp)) rA, cS1, cG1, cV0.same hZ (xr.of sx) (sm.no s1 (by simp)) rA, cF0.same hZ (xr.of sx) (sm.no s1 (by simp)) rA, cL0.same hZ (xr.of sx) (sm.no s1 (by simp)) rA, cJ0.same (xr.of sx) (sm.no s1 (by simp)) rA⟩
    · have hn : 12 ≤ nS := Nat.le_of_not_lt (fun z => absurd (zn.mpr z) (Int32.not_lt.mpr w2))
      exact ⟨by omega, by omega, H2 hn⟩
  · rw [if_neg w]
    simp -implicitDefEqProofs [i_aload, i_iload, i_lload, i_istore, i_lstore, i_astore, i_iinc, i_push, i_getI, i_getJ, i_getR, i_putI, i_putJ, i_putR, i_iadd, i_isub, i_imul, i_iand, i_ior, i_ixor, i_ishl, i_ishr, i_iushr, i_idiv, i_irem, i_ladd, i_lsub, i_lmul, i_land, i_lor, i_lxor, i_ldiv, i_lrem, i_lshl, i_lshr, i_lcmp, i_ineg, i_lneg, i_i2l, i_l2i, i_i2b, i_i2c, i_dup, i_pop, i_dup_x1, i_dup2, i_icmp_eq, i_icmp_lt, i_icmp_ge, i_icmp_gt, i_icmp_le, i_if_eq, i_if_lt, i_if_ge, i_if_gt, i_if_le, i_goto, i_ifnull, i_iald, i_bald, i_zald, i_lald, i_aald, i_iast, i_bast, i_zast, i_last, i_alen, i_iret, i_lret, i_aret, i_vret, i_oinit, i_cast, i_tsw, i_cases, i_mmin, i_mmax, i_lmin, i_throw, nb0, nb1, nint, nby0, rf_s, rf_n, of_r, of_n, tk_orf_rf, tk_c2, tk_ls, Value.category, tk_isR_ref, tk_isR_rf, tk_isR_null, i_throw]
    exact ⟨by omega, by omega, H1 w⟩
set_option maxHeartbeats 4000000 in
theorem c_farmer {i : Int32} (hst : Z.1.stackTraces = false) (hd : 8 ≤ d) (hZ : Z.2.2.2.2.2.1 ∉ q_L S) (hC : CI Z ρ S x gh M) (hmc : 2 ≤ mc) (hms : 50 ≤ ms)
    (H1 : ¬ (0 ≤ i ∧ i ≤ 1000000000) → QX "java/lang/IllegalArgumentException" S) (H2 : (0 ≤ i ∧ i ≤ 1000000000) → 8 ≤ M.2.2.2.2.2.1.1 → QX "java/lang/IllegalStateException" S)
    (H0 : (0 ≤ i ∧ i ≤ 1000000000) → M.2.2.2.2.2.1.1 < 8 → okC Z ρ S x QR (.int (nI M.2.2.2.2.2.1.1)) (M.1, M.2.1, M.2.2.1, M.2.2.2.1, M.2.2.2.2.1, (M.2.2.2.2.2.1.1 + 1, vp_updL M.2.2.2.2.2.1.2 M.2.2.2.2.2.1.1 i.toInt64), M.2.2.2.2.2.2)) : tk_M Z mX11_farmer d mc ms [.ref x, .int i] S QR QX := by
  have hC0 := hC
  obtain ⟨fS, fG, fV, p, p2, fF, fL, bl⟩ := gh
  obtain ⟨⟨tn, tg, tp⟩, acts, ⟨nS, pr, wo⟩, ⟨nG, os, ps, ls, re, su, du, le, nb, bf, br, bs⟩, ⟨nV, kd, wh, be, bi, pa, pd, la⟩, ⟨nF, mo⟩, ⟨nL, lsu, lra, lrk, ldu⟩, J, ⟨td, dry, lc⟩⟩ := M
  obtain ⟨cD0, cT0, cK0, cA0, cS0, cG0, cV0, cF0, cL0, cJ0⟩ := hC
  obtain ⟨hx, hk, hρ, htd, ht, hdry, hlc⟩ := cD0
  refine M_X11_farmer hst hd (Nat.le_of_ble_eq_true rfl) (fun E hE => hE _ _ _ _ _ ?_)
  show t_X11_farmer_0 Z d mc ms QR QX E [some (.ref x), some (.int i)] [] S 0 0
  obtain ⟨l, e, h1, h2, h3, h4, h5⟩ := cF0
  have hl := h2.1
  dsimp only at H1 H2 H0
  simp -implicitDefEqProofs [t_X11_farmer_0, i_aload, i_iload, i_lload, i_istore, i_lstore, i_astore, i_iinc, i_push, i_getI, i_getJ, i_getR, i_putI, i_putJ, i_putR, i_iadd, i_isub, i_imul, i_iand, i_ior, i_ixor, i_ishl, i_ishr, i_iushr, i_idiv, i_irem, i_ladd, i_lsub, i_lmul, i_land, i_lor, i_lxor, i_ldiv, i_lrem, i_lshl, i_lshr, i_lcmp, i_ineg, i_lneg, i_i2l, i_l2i, i_i2b, i_i2c, i_dup, i_pop, i_dup_x1, i_dup2, i_icmp_eq, i_icmp_lt, i_icmp_ge, i_icmp_gt, i_icmp_le, i_if_eq, i_if_lt, i_if_ge, i_if_gt, i_if_le, i_goto, i_ifnull, i_iald, i_bald, i_zald, i_lald, i_aald, i_iast, i_bast, i_zast, i_last, i_alen, i_iret, i_lret, i_aret, i_vret, i_oinit, i_cast, i_tsw, i_cases, i_mmin, i_mmax, i_lmin, i_throw, nb0, nb1, nint, nby0, rf_s, rf_n, of_r, of_n, tk_orf_rf, tk_c2, tk_ls, Value.category, tk_isR_ref, tk_isR_rf, tk_isR_null]
  refine ⟨by simp, by simp [Value.category], 0, 0, 0, by omega, by omega, by omega, ?_⟩
  refine m_isWithin ?_
  by_cases w : 0 ≤ i ∧ i ≤ 1000000000
  · rw [if_pos w]
    have H2 := H2 w
    have H0 := H0 w
    simp -implicitDefEqProofs [i_aload, i_iload, i_lload, i_istore, i_lstore, i_astore, i_iinc, i_push, i_getI, i_getJ, i_getR, i_putI, i_putJ, i_putR, i_iadd, i_isub, i_imul, i_iand, i_ior, i_ixor, i_ishl, i_ishr, i_iushr, i_idiv, i_irem, i_ladd, i_lsub, i_lmul, i_land, i_lor, i_lxor, i_ldiv, i_lrem, i_lshl, i_lshr, i_lcmp, i_ineg, i_lneg, i_i2l, i_l2i, i_i2b, i_i2c, i_dup, i_pop, i_dup_x1, i_dup2, i_icmp_eq, i_icmp_lt, i_icmp_ge, i_icmp_gt, i_icmp_le, i_if_eq, i_if_lt, i_if_ge, i_if_gt, i_if_le, i_goto, i_ifnull, i_iald, i_bald, i_zald, i_lald, i_aald, i_iast, i_bast, i_zast, i_last, i_alen, i_iret, i_lret, i_aret, i_vret, i_oinit, i_cast, i_tsw, i_cases, i_mmin, i_mmax, i_lmin, i_throw, nb0, nb1, nint, nby0, rf_s, rf_n, of_r, of_n, tk_orf_rf, tk_c2, tk_ls, Value.category, tk_isR_ref, tk_isR_rf, tk_isR_null, hx, hk, h1]
    refine ⟨by simp, hl.1, hl.2.1, by simp [Value.category], 0, 0, 0, by omega, by omega, by omega, ?_⟩
    refine l_size hl ?_
    have zn : (nI nF < 8 ↔ nF < 8) := nI_ltI (b := 8) (by omega) (by omega)
    simp -implicitDefEqProofs [i_aload, i_iload, i_lload, i_istore, i_lstore, i_astore, i_iinc, i_push, i_getI, i_getJ, i_getR, i_putI, i_putJ, i_putR, i_iadd, i_isub, i_imul, i_iand, i_ior, i_ixor, i_ishl, i_ishr, i_iushr, i_idiv, i_irem, i_ladd, i_lsub, i_lmul, i_land, i_lor, i_lxor, i_ldiv, i_lrem, i_lshl, i_lshr, i_lcmp, i_ineg, i_lneg, i_i2l, i_l2i, i_i2b, i_i2c, i_dup, i_pop, i_dup_x1, i_dup2, i_icmp_eq, i_icmp_lt, i_icmp_ge, i_icmp_gt, i_icmp_le, i_if_eq, i_if_lt, i_if_ge, i_if_gt, i_if_le, i_goto, i_ifnull, i_iald, i_bald, i_zald, i_lald, i_aald, i_iast, i_bast, i_zast, i_last, i_alen, i_iret, i_lret, i_aret, i_vret, i_oinit, i_cast, i_tsw, i_cases, i_mmin, i_mmax, i_lmin, i_throw, nb0, nb1, nint, nby0, rf_s, rf_n, of_r, of_n, tk_orf_rf, tk_c2, tk_ls, Value.category, tk_isR_ref, tk_isR_rf, tk_isR_null, i_new, hx, hk, h1]
    refine ⟨fun w2 => ?_, fun w2 => ?_⟩
    · have hn := zn.mp w2
      have H0 := H0 hn
      refine ⟨by omega, by omega, fun q hq => ?_⟩
      have hxq : x ≠ q := fun z => hq (z ▸ hx)
      simp -implicitDefEqProofs [i_aload, i_iload, i_lload, i_istore, i_lstore, i_astore, i_iinc, i_push, i_getI, i_getJ, i_getR, i_putI, i_putJ, i_putR, i_iadd, i_isub, i_imul, i_iand, i_ior, i_ixor, i_ishl, i_ishr, i_iushr, i_idiv, i_irem, i_ladd, i_lsub, i_lmul, i_land, i_lor, i_lxor, i_ldiv, i_lrem, i_lshl, i_lshr, i_lcmp, i_ineg, i_lneg, i_i2l, i_l2i, i_i2b, i_i2c, i_dup, i_pop, i_dup_x1, i_dup2, i_icmp_eq, i_icmp_lt, i_icmp_ge, i_icmp_gt, i_icmp_le, i_if_eq, i_if_lt, i_if_ge, i_if_gt, i_if_le, i_goto, i_ifnull, i_iald, i_bald, i_zald, i_lald, i_aald, i_iast, i_bast, i_zast, i_last, i_alen, i_iret, i_lret, i_aret, i_vret, i_oinit, i_cast, i_tsw, i_cases, i_mmin, i_mmax, i_lmin, i_throw, nb0, nb1, nint, nby0, rf_s, rf_n, of_r, of_n, tk_orf_rf, tk_c2, tk_ls, Value.category, tk_isR_ref, tk_isR_rf, tk_isR_null, z_q_L_s_I, z_q_K_s_I, z_q_I_s_I, z_q_J_s_I, z_q_R_s_I, z_q_n_s_I, z_q_aI_s_I, z_q_aJ_s_I, z_q_aR_s_I, z_q_L_s_J, z_q_K_s_J, z_q_I_s_J, z_q_J_s_J, z_q_R_s_J, z_q_n_s_J, z_q_aI_s_J, z_q_aJ_s_J, z_q_aR_s_J, z_q_L_s_R, z_q_K_s_R, z_q_I_s_R, z_q_J_s_R, z_q_R_s_R, z_q_n_s_R, z_q_aI_s_R, z_q_aJ_s_R, z_q_aR_s_R, z_q_L_s_aI, z_q_K_s_aI, z_q_I_s_aI, z_q_J_s_aI, z_q_R_s_aI, z_q_n_s_aI, z_q_aI_s_aI, z_q_aJ_s_aI, z_q_aR_s_aI, z_q_L_s_aJ, z_q_K_s_aJ, z_q_I_s_aJ, z_q_J_s_aJ, z_q_R_s_aJ, z_q_n_s_aJ, z_q_aI_s_aJ, z_q_aJ_s_aJ, z_q_aR_s_aJ, z_q_L_s_aR, z_q_K_s_aR, z_q_I_s_aR, z_q_J_s_aR, z_q_R_s_aR, z_q_n_s_aR, z_q_aI_s_aR, z_q_aJ_s_aR, z_q_aR_s_aR, z_q_L_s_new, z_q_K_s_new, z_q_I_s_new, z_q_J_s_new, z_q_R_s_new, z_q_n_s_new, z_q_aI_s_new, z_q_aJ_s_new, z_q_aR_s_new, z_q_L_s_arr, z_q_K_s_arr, z_q_I_s_arr, z_q_J_s_arr, z_q_R_s_arr, z_q_n_s_arr, z_q_aI_s_arr, z_q_aJ_s_arr, z_q_aR_s_arr, hx, hk, h1, hxq]
      have hs1 : ∀ b, b ∈ q_L S → sameAt S (s_new S 5 q) b := fun b hb => new_same hb hq
      have hl1 := hl.same (hs1 l hl.1) (fun z _ => hs1 e z) (fun i hi => hs1 _ (hl.2.2.2.2.2.2.1 i hi).1)
      refine ⟨by simp, hl1.1, hl1.2.1, by simp [Value.category], 0, 0, 0, by omega, by omega, by omega, ?_⟩
      refine l_size hl1 ?_
      simp -implicitDefEqProofs [i_aload, i_iload, i_lload, i_istore, i_lstore, i_astore, i_iinc, i_push, i_getI, i_getJ, i_getR, i_putI, i_putJ, i_putR, i_iadd, i_isub, i_imul, i_iand, i_ior, i_ixor, i_ishl, i_ishr, i_iushr, i_idiv, i_irem, i_ladd, i_lsub, i_lmul, i_land, i_lor, i_lxor, i_ldiv, i_lrem, i_lshl, i_lshr, i_lcmp, i_ineg, i_lneg, i_i2l, i_l2i, i_i2b, i_i2c, i_dup, i_pop, i_dup_x1, i_dup2, i_icmp_eq, i_icmp_lt, i_icmp_ge, i_icmp_gt, i_icmp_le, i_if_eq, i_if_lt, i_if_ge, i_if_gt, i_if_le, i_goto, i_ifnull, i_iald, i_bald, i_zald, i_lald, i_aald, i_iast, i_bast, i_zast, i_last, i_alen, i_iret, i_lret, i_aret, i_vret, i_oinit, i_cast, i_tsw, i_cases, i_mmin, i_mmax, i_lmin, i_throw, nb0, nb1, nint, nby0, rf_s, rf_n, of_r, of_n, tk_orf_rf, tk_c2, tk_ls, Value.category, tk_isR_ref, tk_isR_rf, tk_isR_null]
      refine ⟨by simp, by simp [Value.category], 1, 0, 0, by omega, by omega, by omega, ?_⟩
      refine tk_M.out (m_Farmer (Nat.le_refl 1) (by simp -implicitDefEqProofs [z_q_L_s_I, z_q_K_s_I, z_q_I_s_I, z_q_J_s_I, z_q_R_s_I, z_q_n_s_I, z_q_aI_s_I, z_q_aJ_s_I, z_q_aR_s_I, z_q_L_s_J, z_q_K_s_J, z_q_I_s_J, z_q_J_s_J, z_q_R_s_J, z_q_n_s_J, z_q_aI_s_J, z_q_aJ_s_J, z_q_aR_s_J, z_q_L_s_R, z_q_K_s_R, z_q_I_s_R, z_q_J_s_R, z_q_R_s_R, z_q_n_s_R, z_q_aI_s_R, z_q_aJ_s_R, z_q_aR_s_R, z_q_L_s_aI, z_q_K_s_aI, z_q_I_s_aI, z_q_J_s_aI, z_q_R_s_aI, z_q_n_s_aI, z_q_aI_s_aI, z_q_aJ_s_aI, z_q_aR_s_aI, z_q_L_s_aJ, z_q_K_s_aJ, z_q_I_s_aJ, z_q_J_s_aJ, z_q_R_s_aJ, z_q_n_s_aJ, z_q_aI_s_aJ, z_q_aJ_s_aJ, z_q_aR_s_aJ, z_q_L_s_aR, z_q_K_s_aR, z_q_I_s_aR, z_q_J_s_aR, z_q_R_s_aR, z_q_n_s_aR, z_q_aI_s_aR, z_q_aJ_s_aR, z_q_aR_s_aR, z_q_L_s_new, z_q_K_s_new, z_q_I_s_new, z_q_J_s_new, z_q_R_s_new, z_q_n_s_new, z_q_aI_s_new, z_q_aJ_s_new, z_q_aR_s_new, z_q_L_s_arr, z_q_K_s_arr, z_q_I_s_arr, z_q_J_s_arr, z_q_R_s_arr, z_q_n_s_arr, z_q_aI_s_arr, z_q_aJ_s_arr, z_q_aR_s_arr]) (by simp -implicitDefEqProofs [z_q_L_s_I, z_q_K_s_I, z_q_I_s_I, z_q_J_s_I, z_q_R_s_I, z_q_n_s_I, z_q_aI_s_I, z_q_aJ_s_I, z_q_aR_s_I, z_q_L_s_J, z_q_K_s_J, z_q_I_s_J, z_q_J_s_J, z_q_R_s_J, z_q_n_s_J, z_q_aI_s_J, z_q_aJ_s_J, z_q_aR_s_J, z_q_L_s_R, z_q_K_s_R, z_q_I_s_R, z_q_J_s_R, z_q_R_s_R, z_q_n_s_R, z_q_aI_s_R, z_q_aJ_s_R, z_q_aR_s_R, z_q_L_s_aI, z_q_K_s_aI, z_q_I_s_aI, z_q_J_s_aI, z_q_R_s_aI, z_q_n_s_aI, z_q_aI_s_aI, z_q_aJ_s_aI, z_q_aR_s_aI, z_q_L_s_aJ, z_q_K_s_aJ, z_q_I_s_aJ, z_q_J_s_aJ, z_q_R_s_aJ, z_q_n_s_aJ, z_q_aI_s_aJ, z_q_aJ_s_aJ, z_q_aR_s_aJ, z_q_L_s_aR, z_q_K_s_aR, z_q_I_s_aR, z_q_J_s_aR, z_q_R_s_aR, z_q_n_s_aR, z_q_aI_s_aR, z_q_aJ_s_aR, z_q_aR_s_aR, z_q_L_s_new, z_q_K_s_new, z_q_I_s_new, z_q_J_s_new, z_q_R_s_new, z_q_n_s_new, z_q_aI_s_new, z_q_aJ_s_new, z_q_aR_s_new, z_q_L_s_arr, z_q_K_s_arr, z_q_I_s_arr, z_q_J_s_arr, z_q_R_s_arr, z_q_n_s_arr, z_q_aI_s_arr, z_q_aJ_s_arr, z_q_aR_s_arr]) (fun hZ2 => ?_))
      simp -implicitDefEqProofs [i_aload, i_iload, i_lload, i_istore, i_lstore, i_astore, i_iinc, i_push, i_getI, i_getJ, i_getR, i_putI, i_putJ, i_putR, i_iadd, i_isub, i_imul, i_iand, i_ior, i_ixor, i_ishl, i_ishr, i_iushr, i_idiv, i_irem, i_ladd, i_lsub, i_lmul, i_land, i_lor, i_lxor, i_ldiv, i_lrem, i_lshl, i_lshr, i_lcmp, i_ineg, i_lneg, i_i2l, i_l2i, i_i2b, i_i2c, i_dup, i_pop, i_dup_x1, i_dup2, i_icmp_eq, i_icmp_lt, i_icmp_ge, i_icmp_gt, i_icmp_le, i_if_eq, i_if_lt, i_if_ge, i_if_gt, i_if_le, i_goto, i_ifnull, i_iald, i_bald, i_zald, i_lald, i_aald, i_iast, i_bast, i_zast, i_last, i_alen, i_iret, i_lret, i_aret, i_vret, i_oinit, i_cast, i_tsw, i_cases, i_mmin, i_mmax, i_lmin, i_throw, nb0, nb1, nint, nby0, rf_s, rf_n, of_r, of_n, tk_orf_rf, tk_c2, tk_ls, Value.category, tk_isR_ref, tk_isR_rf, tk_isR_null]
      have hZ2' : Z.2.2.2.2.2.1 ∉ q_L (s_J (s_I (s_new S 5 q) 5 0 q (nI nF)) 5 1 q i.toInt64) := hZ2
      generalize hS2 : s_J (s_I (s_new S 5 q) 5 0 q (nI nF)) 5 1 q i.toInt64 = S2 at *
      have hs2 : ∀ b, b ∈ q_L S → sameAt S S2 b := fun b hb => by
        have hbq : b ≠ q := fun z => hq (z ▸ hb)
        rw [← hS2]
        simp -implicitDefEqProofs [sameAt, z_q_L_s_I, z_q_K_s_I, z_q_I_s_I, z_q_J_s_I, z_q_R_s_I, z_q_n_s_I, z_q_aI_s_I, z_q_aJ_s_I, z_q_aR_s_I, z_q_L_s_J, z_q_K_s_J, z_q_I_s_J, z_q_J_s_J, z_q_R_s_J, z_q_n_s_J, z_q_aI_s_J, z_q_aJ_s_J, z_q_aR_s_J, z_q_L_s_R, z_q_K_s_R, z_q_I_s_R, z_q_J_s_R, z_q_R_s_R, z_q_n_s_R, z_q_aI_s_R, z_q_aJ_s_R, z_q_aR_s_R, z_q_L_s_aI, z_q_K_s_aI, z_q_I_s_aI, z_q_J_s_aI, z_q_R_s_aI, z_q_n_s_aI, z_q_aI_s_aI, z_q_aJ_s_aI, z_q_aR_s_aI, z_q_L_s_aJ, z_q_K_s_aJ, z_q_I_s_aJ, z_q_J_s_aJ, z_q_R_s_aJ, z_q_n_s_aJ, z_q_aI_s_aJ, z_q_aJ_s_aJ, z_q_aR_s_aJ, z_q_L_s_aR, z_q_K_s_aR, z_q_I_s_aR, z_q_J_s_aR, z_q_R_s_aR, z_q_n_s_aR, z_q_aI_s_aR, z_q_aJ_s_aR, z_q_aR_s_aR, z_q_L_s_new, z_q_K_s_new, z_q_I_s_new, z_q_J_s_new, z_q_R_s_new, z_q_n_s_new, z_q_aI_s_new, z_q_aJ_s_new, z_q_aR_s_new, z_q_L_s_arr, z_q_K_s_arr, z_q_I_s_arr, z_q_J_s_arr, z_q_R_s_arr, z_q_n_s_arr, z_q_aI_s_arr, z_q_aJ_s_arr, z_q_aR_s_arr, hb, hbq]
      have hq2 : q ∈ q_L S2 ∧ q_K S2 q = 5 ∧ q_I S2 5 0 q = nI nF ∧ q_J S2 5 1 q = i.toInt64 := by
        rw [← hS2]
        exact ⟨by simp -implicitDefEqProofs [z_q_L_s_I, z_q_K_s_I, z_q_I_s_I, z_q_J_s_I, z_q_R_s_I, z_q_n_s_I, z_q_aI_s_I, z_q_aJ_s_I, z_q_aR_s_I, z_q_L_s_J, z_q_K_s_J, z_q_I_s_J, z_q_J_s_J, z_q_R_s_J, z_q_n_s_J, z_q_aI_s_J, z_q_aJ_s_J, z_q_aR_s_J, z_q_L_s_R, z_q_K_s_R, z_q_I_s_R, z_q_J_s_R, z_q_R_s_R, z_q_n_s_R, z_q_aI_s_R, z_q_aJ_s_R, z_q_aR_s_R, z_q_L_s_aI, z_q_K_s_aI, z_q_I_s_aI, z_q_J_s_aI, z_q_R_s_aI, z_q_n_s_aI, z_q_aI_s_aI, z_q_aJ_s_aI, z_q_aR_s_aI, z_q_L_s_aJ, z_q_K_s_aJ, z_q_I_s_aJ, z_q_J_s_aJ, z_q_R_s_aJ, z_q_n_s_aJ, z_q_aI_s_aJ, z_q_aJ_s_aJ, z_q_aR_s_aJ, z_q_L_s_aR, z_q_K_s_aR, z_q_I_s_aR, z_q_J_s_aR, z_q_R_s_aR, z_q_n_s_aR, z_q_aI_s_aR, z_q_aJ_s_aR, z_q_aR_s_aR, z_q_L_s_new, z_q_K_s_new, z_q_I_s_new, z_q_J_s_new, z_q_R_s_new, z_q_n_s_new, z_q_aI_s_new, z_q_aJ_s_new, z_q_aR_s_new, z_q_L_s_arr, z_q_K_s_arr, z_q_I_s_arr, z_q_J_s_arr, z_q_R_s_arr, z_q_n_s_arr, z_q_aI_s_arr, z_q_aJ_s_arr, z_q_aR_s_arr], by simp -implicitDefEqProofs [z_q_L_s_I, z_q_K_s_I, z_q_I_s_I, z_q_J_s_I, z_q_R_s_I, z_q_n_s_I, z_q_aI_s_I, z_q_aJ_s_I, z_q_aR_s_I, z_q_L_s_J, z_q_K_s_J, z_q_I_s_J, z_q_J_s_J, z_q_R_s_J, z_q_n_s_J, z_q_aI_s_J, z_q_aJ_s_J, z_q_aR_s_J, z_q_L_s_R, z_q_K_s_R, z_q_I_s_R, z_q_J_s_R, z_q_R_s_R, z_q_n_s_R, z_q_aI_s_R, z_q_aJ_s_R, z_q_aR_s_R, z_q_L_s_aI, z_q_K_s_aI, z_q_I_s_aI, z_q_J_s_aI, z_q_R_s_aI, z_q_n_s_aI, z_q_aI_s_aI, z_q_aJ_s_aI, z_q_aR_s_aI, z_q_L_s_aJ, z_q_K_s_aJ, z_q_I_s_aJ, z_q_J_s_aJ, z_q_R_s_aJ, z_q_n_s_aJ, z_q_aI_s_aJ, z_q_aJ_s_aJ, z_q_aR_s_aJ, z_q_L_s_aR, z_q_K_s_aR, z_q_I_s_aR, z_q_J_s_aR, z_q_R_s_aR, z_q_n_s_aR, z_q_aI_s_aR, z_q_aJ_s_aR, z_q_aR_s_aR, z_q_L_s_new, z_q_K_s_new, z_q_I_s_new, z_q_J_s_new, z_q_R_s_new, z_q_n_s_new, z_q_aI_s_new, z_q_aJ_s_new, z_q_aR_s_new, z_q_L_s_arr, z_q_K_s_arr, z_q_I_s_arr, z_q_J_s_arr, z_q_R_s_arr, z_q_n_s_arr, z_q_aI_s_arr, z_q_aJ_s_arr, z_q_aR_s_arr], by simp -implicitDefEqProofs [z_q_L_s_I, z_q_K_s_I, z_q_I_s_I, z_q_J_s_I, z_q_R_s_I, z_q_n_s_I, z_q_aI_s_I, z_q_aJ_s_I, z_q_aR_s_I, z_q_L_s_J, z_q_K_s_J, z_q_I_s_J, z_q_J_s_J, z_q_R_s_J, z_q_n_s_J, z_q_aI_s_J, z_q_aJ_s_J, z_q_aR_s_J, z_q_L_s_R, z_q_K_s_R, z_q_I_s_R, z_q_J_s_R, z_q_R_s_R, z_q_n_s_R, z_q_aI_s_R, z_q_aJ_s_R, z_q_aR_s_R, z_q_L_s_aI, z_q_K_s_aI, z_q_I_s_aI, z_q_J_s_aI, z_q_R_s_aI, z_q_n_s_aI, z_q_aI_s_aI, z_q_aJ_s_aI, z_q_aR_s_aI, z_q_L_s_aJ, z_q_K_s_aJ, z_q_I_s_aJ, z_q_J_s_aJ, z_q_R_s_aJ, z_q_n_s_aJ, z_q_aI_s_aJ, z_q_aJ_s_aJ, z_q_aR_s_aJ, z_q_L_s_aR, z_q_K_s_aR, z_q_I_s_aR, z_q_J_s_aR, z_q_R_s_aR, z_q_n_s_aR, z_q_aI_s_aR, z_q_aJ_s_aR, z_q_aR_s_aR, z_q_L_s_new, z_q_K_s_new, z_q_I_s_new, z_q_J_s_new, z_q_R_s_new, z_q_n_s_new, z_q_aI_s_new, z_q_aJ_s_new, z_q_aR_s_new, z_q_L_s_arr, z_q_K_s_arr, z_q_I_s_arr, z_q_J_s_arr, z_q_R_s_arr, z_q_n_s_arr, z_q_aI_s_arr, z_q_aJ_s_arr, z_q_aR_s_arr], by simp -implicitDefEqProofs [z_q_L_s_I, z_q_K_s_I, z_q_I_s_I, z_q_J_s_I, z_q_R_s_I, z_q_n_s_I, z_q_aI_s_I, z_q_aJ_s_I, z_q_aR_s_I, z_q_L_s_J, z_q_K_s_J, z_q_I_s_J, z_q_J_s_J, z_q_R_s_J, z_q_n_s_J, z_q_aI_s_J, z_q_aJ_s_J, z_q_aR_s_J, z_q_L_s_R, z_q_K_s_R, z_q_I_s_R, z_q_J_s_R, z_q_R_s_R, z_q_n_s_R, z_q_aI_s_R, z_q_aJ_s_R, z_q_aR_s_R, z_q_L_s_aI, z_q_K_s_aI, z_q_I_s_aI, z_q_J_s_aI, z_q_R_s_aI, z_q_n_s_aI, z_q_aI_s_aI, z_q_aJ_s_aI, z_q_aR_s_aI, z_q_L_s_aJ, z_q_K_s_aJ, z_q_I_s_aJ, z_q_J_s_aJ, z_q_R_s_aJ, z_q_n_s_aJ, z_q_aI_s_aJ, z_q_aJ_s_aJ, z_q_aR_s_aJ, z_q_L_s_aR, z_q_K_s_aR, z_q_I_s_aR, z_q_J_s_aR, z_q_R_s_aR, z_q_n_s_aR, z_q_aI_s_aR, z_q_aJ_s_aR, z_q_aR_s_aR, z_q_L_s_new, z_q_K_s_new, z_q_I_s_new, z_q_J_s_new, z_q_R_s_new, z_q_n_s_new, z_q_aI_s_new, z_q_aJ_s_new, z_q_aR_s_new, z_q_L_s_arr, z_q_K_s_arr, z_q_I_s_arr, z_q_J_s_arr, z_q_R_s_arr, z_q_n_s_arr, z_q_aI_s_arr, z_q_aJ_s_arr, z_q_aR_s_arr]⟩
      clear hS2
      have hr1 : rx ρ (rnew ρ S 48) S := rx_new ρ S 48
      have hL1 := h2.mv hs2 hr1
      refine ⟨by simp, hL1.1.1, hL1.1.2.1, by simp [Value.category], 7, 1, 10 + 2 * nF, by omega, by omega, by omega, ?_⟩
      refine tk_M.out (l_add_2 (k := 5) (f := fF) (Nat.le_refl 7) hL1.1 (by omega) (by decide) ⟨hq2.1, hq2.2.1⟩ (Nat.le_refl 1) (Nat.le_refl _) (fun e2 S3 hg hZ3 => ?_))
      obtain ⟨hA, g3, f3⟩ := hL1.add hZ2' hg hq2.1 (rnew_n hq)
      have gA : gr S S3 := fun b hb => g3 b (hs2 b hb).1
      have rA : rx ρ (rnew (rnew ρ S 48) S2 15) S := fun b hb => by rw [rx_new _ S2 15 b (hs2 b hb).1, hr1 b hb]
      have s1 : ∀ b, b ∈ q_L S → ρ b ∉ [9, 15] → sameAt S S3 b := fun b hb hn => (hs2 b hb).trans (f3 b (hs2 b hb).1 (by rw [hr1 b hb]; exact hn))
      have sx := s1 x hx (by rw [hρ]; simp)
      have sq := f3 q hq2.1 (by rw [rnew_n hq]; simp)
      simp -implicitDefEqProofs [i_aload, i_iload, i_lload, i_istore, i_lstore, i_astore, i_iinc, i_push, i_getI, i_getJ, i_getR, i_putI, i_putJ, i_putR, i_iadd, i_isub, i_imul, i_iand, i_ior, i_ixor, i_ishl, i_ishr, i_iushr, i_idiv, i_irem, i_ladd, i_lsub, i_lmul, i_land, i_lor, i_lxor, i_ldiv, i_lrem, i_lshl, i_lshr, i_lcmp, i_ineg, i_lneg, i_i2l, i_l2i, i_i2b, i_i2c, i_dup, i_pop, i_dup_x1, i_dup2, i_icmp_eq, i_icmp_lt, i_icmp_ge, i_icmp_gt, i_icmp_le, i_if_eq, i_if_lt, i_if_ge, i_if_gt, i_if_le, i_goto, i_ifnull, i_iald, i_bald, i_zald, i_lald, i_aald, i_iast, i_bast, i_zast, i_last, i_alen, i_iret, i_lret, i_aret, i_vret, i_oinit, i_cast, i_tsw, i_cases, i_mmin, i_mmax, i_lmin, i_throw, nb0, nb1, nint, nby0, rf_s, rf_n, of_r, of_n, tk_orf_rf, tk_c2, tk_ls, Value.category, tk_isR_ref, tk_isR_rf, tk_isR_null, sx.1, sx.2.1.trans hk, (sx.2.2.2.2.1 12 7).trans h1]
      refine ⟨by simp, hA.1.1, hA.1.2.1, by simp [Value.category], 0, 0, 0, by omega, by omega, by omega, ?_⟩
      refine l_size hA.1 ?_
      simp -implicitDefEqProofs [i_aload, i_iload, i_lload, i_istore, i_lstore, i_astore, i_iinc, i_push, i_getI, i_getJ, i_getR, i_putI, i_putJ, i_putR, i_iadd, i_isub, i_imul, i_iand, i_ior, i_ixor, i_ishl, i_ishr, i_iushr, i_idiv, i_irem, i_ladd, i_lsub, i_lmul, i_land, i_lor, i_lxor, i_ldiv, i_lrem, i_lshl, i_lshr, i_lcmp, i_ineg, i_lneg, i_i2l, i_l2i, i_i2b, i_i2c, i_dup, i_pop, i_dup_x1, i_dup2, i_icmp_eq, i_icmp_lt, i_icmp_ge, i_icmp_gt, i_icmp_le, i_if_eq, i_if_lt, i_if_ge, i_if_gt, i_if_le, i_goto, i_ifnull, i_iald, i_bald, i_zald, i_lald, i_aald, i_iast, i_bast, i_zast, i_last, i_alen, i_iret, i_lret, i_aret, i_vret, i_oinit, i_cast, i_tsw, i_cases, i_mmin, i_mmax, i_lmin, i_throw, nb0, nb1, nint, nby0, rf_s, rf_n, of_r, of_n, tk_orf_rf, tk_c2, tk_ls, Value.category, tk_isR_ref, tk_isR_rf, tk_isR_null]
      refine ⟨by omega, by omega, ?_⟩
      rw [nI_pred]
      refine H0 S3 _ (fS, fG, fV, p, p2, va_up fF nF q, fL, bl) (FO.of gA rA s1 (by simp)) ?_
      have cF1 : cF Z (rnew (rnew ρ S 48) S2 15) S3 x (va_up fF nF q) (nF + 1) (vp_updL mo nF i.toInt64) := by
        refine ⟨l, e2, (sx.2.2.2.2.1 12 7).trans h1, hA, inj_add h3 (fun j hj z => hq (by rw [← z]; exact (hl.2.2.2.2.2.2.1 j hj).1)), by omega, fun j hj => ?_⟩
        by_cases hjn : j = nF
        · rw [hjn, va_up_self, pk_uLs]
          exact ⟨(sq.2.2.1 _ _).trans hq2.2.2.1, (sq.2.2.2.1 _ _).trans hq2.2.2.2⟩
        · have hj2 : j < nF := by omega
          rw [va_up_ne _ _ hjn, pk_uLn hjn]
          have hjL := (hl.2.2.2.2.2.2.1 j hj2).1
          have sj := s1 _ hjL (by rw [h2.2.2.2 j hj2]; simp)
          obtain ⟨y1, y2⟩ := h5 j hj2
          exact ⟨(sj.2.2.1 _ _).trans y1, (sj.2.2.2.1 _ _).trans y2⟩
      have cG1 := (cG0.same hZ (xr.of sx) (sm.no s1 (by simp)) rA).ext (fS' := fS) (fF' := va_up fF nF q) (fun _ _ => rfl) (Nat.le_refl nS) (fun j hj => va_up_ne _ _ (by omega)) (Nat.le_succ nF)
      exact ⟨cD.same ⟨hx, hk, hρ, htd, ht, hdry, hlc⟩ sx (rA x hx), cT0.same (xr.of sx) (sm.no s1 (by simp)) rA, cK0.same (xr.of sx) (sm.no s1 (by simp)) rA, cA0.same hZ (xr.of sx) (sm.no s1 (by simp)) rA, cS0.same hZ (xr.of sx) (sm.no s1 (by simp)) rA, cG1, cV0.same hZ (xr.of sx) (sm.no s1 (by simp)) rA, cF1, cL0.same hZ (xr.of sx) (sm.no s1 (by simp)) rA, cJ0.same (xr.of sx) (sm.no s1 (by simp)) rA⟩
    · have hn : 8 ≤ nF := Nat.le_of_not_lt (fun z => absurd (zn.mpr z) (Int32.not_lt.mpr w2))
      exact ⟨by omega, by omega, H2 hn⟩
  · rw [if_neg w]
    simp -implicitDefEqProofs [i_aload, i_iload, i_lload, i_istore, i_lstore, i_astore, i_iinc, i_push, i_getI, i_getJ, i_getR, i_putI, i_putJ, i_putR, i_iadd, i_isub, i_imul, i_iand, i_ior, i_ixor, i_ishl, i_ishr, i_iushr, i_idiv, i_irem, i_ladd, i_lsub, i_lmul, i_land, i_lor, i_lxor, i_ldiv, i_lrem, i_lshl, i_lshr, i_lcmp, i_ineg, i_lneg, i_i2l, i_l2i, i_i2b, i_i2c, i_dup, i_pop, i_dup_x1, i_dup2, i_icmp_eq, i_icmp_lt, i_icmp_ge, i_icmp_gt, i_icmp_le, i_if_eq, i_if_lt, i_if_ge, i_if_gt, i_if_le, i_goto, i_ifnull, i_iald, i_bald, i_zald, i_lald, i_aald, i_iast, i_bast, i_zast, i_last, i_alen, i_iret, i_lret, i_aret, i_vret, i_oinit, i_cast, i_tsw, i_cases, i_mmin, i_mmax, i_lmin, i_throw, nb0, nb1, nint, nby0, rf_s, rf_n, of_r, of_n, tk_orf_rf, tk_c2, tk_ls, Value.category, tk_isR_ref, tk_isR_rf, tk_isR_null, i_throw]
    exact ⟨by omega, by omega, H1 w⟩
end PUB2

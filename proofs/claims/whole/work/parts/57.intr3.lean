/-! THE TRUST'S OWN METHODS: a day's interest -/
section INTR3
variable {Z : tk_Z} {d mc ms : Nat} {S : tk_S} {QR : tk_R}
theorem cLx.same {ρ ρ' : Nat → Nat} {S' : tk_S} {x n : Nat} {fL : Nat → Nat} {su ra rk : Nat → Int32} {du gr rs : Nat → Int64} (h : cLx Z ρ S x fL n su ra rk du gr rs) (hZ : Z.2.2.2.2.2.1 ∉ q_L S) (hx : xr S S' x) (hs : sm ρ S S' [10, 16, 49]) (hρ : rx ρ ρ' S) : cLx Z ρ' S' x fL n su ra rk du gr rs := by
  refine ⟨h.1.same hZ hx hs hρ, fun i hi => ?_⟩
  obtain ⟨⟨l, e, h1, h2, h3, h4, h5⟩, h6⟩ := h
  have s1 := hs (fL i) (h2.1.2.2.2.2.2.2.1 i hi).1 (by rw [h2.2.2.2 i hi]; simp)
  exact ⟨(s1.2.2.2.1 _ _).trans (h6 i hi).1, (s1.2.2.2.1 _ _).trans (h6 i hi).2⟩
theorem cL.x {ρ : Nat → Nat} {x n : Nat} {fL : Nat → Nat} {su ra rk : Nat → Int32} {du : Nat → Int64} (h : cL Z ρ S x fL n su ra rk du) : cLx Z ρ S x fL n su ra rk du (fun i => q_J S 7 4 (fL i)) (fun i => q_J S 7 5 (fL i)) := ⟨h, fun _ _ => ⟨rfl, rfl⟩⟩
/-- what stays: but for the box and the loans -/
def blF (ρ ρ' : Nat → Nat) (S S' : tk_S) : Prop := gr S S' ∧ rx ρ ρ' S ∧ ∀ b, b ∈ q_L S → ρ b ∉ [4, 21, 49] → sameAt S S' b
theorem blF.rfl' {ρ : Nat → Nat} : blF ρ ρ S S := ⟨fun _ h => h, fun _ _ => rfl, fun b hb _ => sameAt.rfl' hb⟩
theorem blF.trans {ρ ρ1 ρ2 : Nat → Nat} {S1 S2 : tk_S} (h : blF ρ ρ1 S S1) (g : blF ρ1 ρ2 S1 S2) : blF ρ ρ2 S S2 := ⟨h.1.trans g.1, fun b hb => (g.2.1 b (h.1 b hb)).trans (h.2.1 b hb), fun b hb hn => (h.2.2 b hb hn).trans (g.2.2 b (h.1 b hb) (by rw [h.2.1 b hb]; exact hn))⟩
theorem lnF.bl {ρ : Nat → Nat} {S' : tk_S} (h : lnF ρ S S') : blF ρ ρ S S' := ⟨fun b hb => by rw [h.1]; exact hb, fun _ _ => rfl, fun b hb hn => h.2 b hb (fun z => hn (by rw [z]; simp))⟩
set_option maxHeartbeats 4000000 in
theorem m_payGranted {ρ : Nat → Nat} {x n td : Nat} {fL : Nat → Nat} {su ra rk : Nat → Int32} {du gr rs : Nat → Int64} {r : Int32} {J : mJ} (hd : 4 ≤ d) (hZ : Z.2.2.2.2.2.1 ∉ q_L S) (hx : x ∈ q_L S) (hk : q_K S x = 12) (hρ : ρ x = 1) (htd : q_I S 12 9 x = nI td) (hL : cLx Z ρ S x fL n su ra rk du gr rs) (hJ : cJ' ρ S x J) (hJn : (payM td rk r gr n 0 (du, J)).2.1 ≤ 12000)
    (hmc : 5 * (lvl (payM td rk r gr n 0 (du, J)).2.1 - lvl J.1) ≤ mc) (hms : 60000 * (lvl (payM td rk r gr n 0 (du, J)).2.1 - lvl J.1) ≤ ms)
    (H : ∀ S' ρ', blF ρ ρ' S S' → cL Z ρ' S' x fL n su ra rk (payM td rk r gr n 0 (du, J)).1 → cJ' ρ' S' x (payM td rk r gr n 0 (du, J)).2 → QR none S') : tk_M Z mX11_payGranted d mc ms [.ref x, .int r] S QR tk_noX := by
  refine M_X11_payGranted (Nat.le_of_ble_eq_true rfl) (fun E hE => hE.1 _ _ _ _ _ ?_)
  generalize hP : payM td rk r gr n 0 (du, J) = P at *
  have loop : ∀ m i S1 ρ1 du1 (J1 : mJ) x3 cs ss, m + i = n → Z.2.2.2.2.2.1 ∉ q_L S1 → blF ρ ρ1 S S1 → cLx Z ρ1 S1 x fL n su ra rk du1 gr rs → cJ' ρ1 S1 x J1 → payM td rk r gr m i (du1, J1) = P → J.1 ≤ J1.1 → cs ≤ 5 * (lvl J1.1 - lvl J.1) → ss ≤ 60000 * (lvl J1.1 - lvl J.1) → E 2 [some (.ref x), some (.int r), some (.int (nI i)), x3] [] S1 cs ss := by
    intro m
    induction m with
    | zero =>
      intro i S1 ρ1 du1 J1 x3 cs ss hi hZ1 hF hL1 hJ1 hP1 hJJ hcs hss
      refine hE.2 _ _ _ _ _ ?_
      have hi2 : i = n := by omega
      subst hi2
      have sx := hF.2.2 x hx (by rw [hρ]; decide)
      have hL0 := hL1
      obtain ⟨⟨l, e, h1, h2, h3, h4, h5⟩, h6⟩ := hL0
      have hl := h2.1
      have hP1 : (du1, J1) = P := hP1
      subst hP1
      dsimp only at hmc hms hJn H
      simp -implicitDefEqProofs [t_X11_payGranted_2, i_aload, i_iload, i_lload, i_istore, i_lstore, i_astore, i_iinc, i_push, i_getI, i_getJ, i_getR, i_putI, i_putJ, i_putR, i_iadd, i_isub, i_imul, i_iand, i_ior, i_ixor, i_ishl, i_ishr, i_iushr, i_idiv, i_irem, i_ladd, i_lsub, i_lmul, i_land, i_lor, i_lxor, i_ldiv, i_lrem, i_lshl, i_lshr, i_lcmp, i_ineg, i_lneg, i_i2l, i_l2i, i_i2b, i_i2c, i_dup, i_pop, i_dup_x1, i_dup2, i_icmp_eq, i_icmp_lt, i_icmp_ge, i_icmp_gt, i_icmp_le, i_if_eq, i_if_lt, i_if_ge, i_if_gt, i_if_le, i_goto, i_ifnull, i_iald, i_bald, i_zald, i_lald, i_aald, i_iast, i_bast, i_zast, i_last, i_alen, i_iret, i_lret, i_aret, i_vret, i_oinit, i_cast, i_tsw, i_cases, i_mmin, i_mmax, i_lmin, i_throw, nb0, nb1, nint, nby0, rf_s, rf_n, of_r, of_n, tk_orf_rf, tk_c2, tk_ls, Value.category, tk_isR_ref, tk_isR_rf, tk_isR_null, sx.1, sx.2.1.trans hk, h1]
      refine ⟨by simp, hl.1, hl.2.1, by simp [Value.category], 0, 0, 0, by omega, by omega, by omega, ?_⟩
      refine l_size hl ?_
      simp -implicitDefEqProofs [i_aload, i_iload, i_lload, i_istore, i_lstore, i_astore, i_iinc, i_push, i_getI, i_getJ, i_getR, i_putI, i_putJ, i_putR, i_iadd, i_isub, i_imul, i_iand, i_ior, i_ixor, i_ishl, i_ishr, i_iushr, i_idiv, i_irem, i_ladd, i_lsub, i_lmul, i_land, i_lor, i_lxor, i_ldiv, i_lrem, i_lshl, i_lshr, i_lcmp, i_ineg, i_lneg, i_i2l, i_l2i, i_i2b, i_i2c, i_dup, i_pop, i_dup_x1, i_dup2, i_icmp_eq, i_icmp_lt, i_icmp_ge, i_icmp_gt, i_icmp_le, i_if_eq, i_if_lt, i_if_ge, i_if_gt, i_if_le, i_goto, i_ifnull, i_iald, i_bald, i_zald, i_lald, i_aald, i_iast, i_bast, i_zast, i_last, i_alen, i_iret, i_lret, i_aret, i_vret, i_oinit, i_cast, i_tsw, i_cases, i_mmin, i_mmax, i_lmin, i_throw, nb0, nb1, nint, nby0, rf_s, rf_n, of_r, of_n, tk_orf_rf, tk_c2, tk_ls, Value.category, tk_isR_ref, tk_isR_rf, tk_isR_null]
      exact ⟨by omega, by omega, H S1 ρ1 hF hL1.1 hJ1⟩
    | succ m ih =>
      intro i S1 ρ1 du1 J1 x3 cs ss hi hZ1 hF hL1 hJ1 hP1 hJJ hcs hss
      refine hE.2 _ _ _ _ _ ?_
      have sx := hF.2.2 x hx (by rw [hρ]; decide)
      have sx1 := sx.1
      have sx2 := sx.2.1.trans hk
      have sx3 := (sx.2.2.1 12 9).trans htd
      have hρ1 : ρ1 x = 1 := (hF.2.1 x hx).trans hρ
      have hL0 := hL1
      obtain ⟨⟨l, e, h1, h2, h3, h4, h5⟩, h6⟩ := hL0
      have hl := h2.1
      have hil : i < n := by omega
      have z : ¬ nI n ≤ nI i := nI_ge (by omega) (by omega)
      have e1 : nI i + 1 = nI (i + 1) := nI_add i 1
      obtain ⟨y1, y2⟩ := hl.2.2.2.2.2.2.1 i hil
      obtain ⟨w1, w2, w3, w4⟩ := h5 i hil
      obtain ⟨w5, w6⟩ := h6 i hil
      have hi49 := h2.2.2.2 i hil
      have hJ0 := hJ1
      obtain ⟨bx, r2, r3, r4, r5, r6, j1, j2, jB, -⟩ := hJ0
      have jb := jB.1.1
      have jk := jB.1.2.1
      have hxi : x ≠ fL i := ne_of_role hρ1 hi49 (by decide)
      have hbi : bx ≠ fL i := ne_of_role j2 hi49 (by decide)
      have hge := payM_ge (td := td) (rk := rk) (r := r) (g := gr) (m + 1) i (du1, J1)
      have hPle : J1.1 ≤ P.2.1 := by rw [← hP1]; exact hge
      have hlv := lvl_mono hPle
      unfold payM at hP1
      simp -implicitDefEqProofs [t_X11_payGranted_2, i_aload, i_iload, i_lload, i_istore, i_lstore, i_astore, i_iinc, i_push, i_getI, i_getJ, i_getR, i_putI, i_putJ, i_putR, i_iadd, i_isub, i_imul, i_iand, i_ior, i_ixor, i_ishl, i_ishr, i_iushr, i_idiv, i_irem, i_ladd, i_lsub, i_lmul, i_land, i_lor, i_lxor, i_ldiv, i_lrem, i_lshl, i_lshr, i_lcmp, i_ineg, i_lneg, i_i2l, i_l2i, i_i2b, i_i2c, i_dup, i_pop, i_dup_x1, i_dup2, i_icmp_eq, i_icmp_lt, i_icmp_ge, i_icmp_gt, i_icmp_le, i_if_eq, i_if_lt, i_if_ge, i_if_gt, i_if_le, i_goto, i_ifnull, i_iald, i_bald, i_zald, i_lald, i_aald, i_iast, i_bast, i_zast, i_last, i_alen, i_iret, i_lret, i_aret, i_vret, i_oinit, i_cast, i_tsw, i_cases, i_mmin, i_mmax, i_lmin, i_throw, nb0, nb1, nint, nby0, rf_s, rf_n, of_r, of_n, tk_orf_rf, tk_c2, tk_ls, Value.category, tk_isR_ref, tk_isR_rf, tk_isR_null, sx1, sx2, h1]
      refine ⟨by simp, hl.1, hl.2.1, by simp [Value.category], 0, 0, 0, by omega, by omega, by omega, ?_⟩
      refine l_size hl ?_
      simp -implicitDefEqProofs [i_aload, i_iload, i_lload, i_istore, i_lstore, i_astore, i_iinc, i_push, i_getI, i_getJ, i_getR, i_putI, i_putJ, i_putR, i_iadd, i_isub, i_imul, i_iand, i_ior, i_ixor, i_ishl, i_ishr, i_iushr, i_idiv, i_irem, i_ladd, i_lsub, i_lmul, i_land, i_lor, i_lxor, i_ldiv, i_lrem, i_lshl, i_lshr, i_lcmp, i_ineg, i_lneg, i_i2l, i_l2i, i_i2b, i_i2c, i_dup, i_pop, i_dup_x1, i_dup2, i_icmp_eq, i_icmp_lt, i_icmp_ge, i_icmp_gt, i_icmp_le, i_if_eq, i_if_lt, i_if_ge, i_if_gt, i_if_le, i_goto, i_ifnull, i_iald, i_bald, i_zald, i_lald, i_aald, i_iast, i_bast, i_zast, i_last, i_alen, i_iret, i_lret, i_aret, i_vret, i_oinit, i_cast, i_tsw, i_cases, i_mmin, i_mmax, i_lmin, i_throw, nb0, nb1, nint, nby0, rf_s, rf_n, of_r, of_n, tk_orf_rf, tk_c2, tk_ls, Value.category, tk_isR_ref, tk_isR_rf, tk_isR_null, sx1, sx2, h1, z]
      refine ⟨by simp, hl.1, hl.2.1, by simp [Value.category], 3, 0, 0, by omega, by omega, by omega, ?_⟩
      refine l_get (Nat.le_refl 3) hl hil ?_
      simp -implicitDefEqProofs [i_aload, i_iload, i_lload, i_istore, i_lstore, i_astore, i_iinc, i_push, i_getI, i_getJ, i_getR, i_putI, i_putJ, i_putR, i_iadd, i_isub, i_imul, i_iand, i_ior, i_ixor, i_ishl, i_ishr, i_iushr, i_idiv, i_irem, i_ladd, i_lsub, i_lmul, i_land, i_lor, i_lxor, i_ldiv, i_lrem, i_lshl, i_lshr, i_lcmp, i_ineg, i_lneg, i_i2l, i_l2i, i_i2b, i_i2c, i_dup, i_pop, i_dup_x1, i_dup2, i_icmp_eq, i_icmp_lt, i_icmp_ge, i_icmp_gt, i_icmp_le, i_if_eq, i_if_lt, i_if_ge, i_if_gt, i_if_le, i_goto, i_ifnull, i_iald, i_bald, i_zald, i_lald, i_aald, i_iast, i_bast, i_zast, i_last, i_alen, i_iret, i_lret, i_aret, i_vret, i_oinit, i_cast, i_tsw, i_cases, i_mmin, i_mmax, i_lmin, i_throw, nb0, nb1, nint, nby0, rf_s, rf_n, of_r, of_n, tk_orf_rf, tk_c2, tk_ls, Value.category, tk_isR_ref, tk_isR_rf, tk_isR_null, z_q_L_s_I, z_q_K_s_I, z_q_I_s_I, z_q_J_s_I, z_q_R_s_I, z_q_n_s_I, z_q_aI_s_I, z_q_aJ_s_I, z_q_aR_s_I, z_q_L_s_J, z_q_K_s_J, z_q_I_s_J, z_q_J_s_J, z_q_R_s_J, z_q_n_s_J, z_q_aI_s_J, z_q_aJ_s_J, z_q_aR_s_J, z_q_L_s_R, z_q_K_s_R, z_q_I_s_R, z_q_J_s_R, z_q_R_s_R, z_q_n_s_R, z_q_aI_s_R, z_q_aJ_s_R, z_q_aR_s_R, z_q_L_s_aI, z_q_K_s_aI, z_q_I_s_aI, z_q_J_s_aI, z_q_R_s_aI, z_q_n_s_aI, z_q_aI_s_aI, z_q_aJ_s_aI, z_q_aR_s_aI, z_q_L_s_aJ, z_q_K_s_aJ, z_q_I_s_aJ, z_q_J_s_aJ, z_q_R_s_aJ, z_q_n_s_aJ, z_q_aI_s_aJ, z_q_aJ_s_aJ, z_q_aR_s_aJ, z_q_L_s_aR, z_q_K_s_aR, z_q_I_s_aR, z_q_J_s_aR, z_q_R_s_aR, z_q_n_s_aR, z_q_aI_s_aR, z_q_aJ_s_aR, z_q_aR_s_aR, z_q_L_s_new, z_q_K_s_new, z_q_I_s_new, z_q_J_s_new, z_q_R_s_new, z_q_n_s_new, z_q_aI_s_new, z_q_aJ_s_new, z_q_aR_s_new, z_q_L_s_arr, z_q_K_s_arr, z_q_I_s_arr, z_q_J_s_arr, z_q_R_s_arr, z_q_n_s_arr, z_q_aI_s_arr, z_q_aJ_s_arr, z_q_aR_s_arr, y1, y2, w3, w4, w5, e1, sx1, sx2, sx3, j1, lg_cmp_le, lg_cmp_gt]
      refine ⟨fun q1 => ⟨fun q2 => ?_, fun q2 => ?_⟩, fun q1 => ?_⟩
      · rw [if_neg (fun q => absurd q.2 (Int64.not_lt.mpr q2))] at hP1
        exact ih (i + 1) S1 ρ1 du1 J1 _ cs ss (by omega) hZ1 hF hL1 hJ1 hP1 hJJ hcs hss
      · rw [if_pos ⟨q1, q2⟩] at hP1
        have hge2 : J1.1 + 1 ≤ P.2.1 := by
          rw [← hP1]
          exact payM_ge m (i + 1) (vp_updL du1 i (du1 i - gr i), lineM J1 (nI td) 4 (nI i) (-gr i))
        have hlv2 := lvl_mono hge2
        have hlv3 := lvl_mono (show J1.1 ≤ J1.1 + 1 by omega)
        have hlv4 := lvl_mono hJJ
        have xr2 : xr S1 (s_J S1 7 3 (fL i) (du1 i - gr i)) x := ⟨sx1, rfl, fun _ => rfl⟩
        have hF2 : lnF ρ1 S1 (s_J S1 7 3 (fL i) (du1 i - gr i)) := lnF.put hi49
        have hJ2 : cJ' ρ1 (s_J S1 7 3 (fL i) (du1 i - gr i)) x J1 := hJ1.same xr2 (sm_one hi49 (by simp) (fun b hb hn => s_J_same hb hn)) rx.rfl'
        refine ⟨by simp, jb, jk, by simp [Value.category], 3, 5 * (lvl (J1.1 + 1) - lvl J1.1), 60000 * (lvl (J1.1 + 1) - lvl J1.1), by omega, by omega, by omega, ?_⟩
        refine tk_M.out (m_line (Nat.le_refl 3) hJ2 sx1 sx2 hρ1 j1 (by omega) (Nat.le_refl _) (Nat.le_refl _) (fun S2 ρ2 g2 s2 r2' hJ3 hZ2 => ?_))
        simp -implicitDefEqProofs [i_aload, i_iload, i_lload, i_istore, i_lstore, i_astore, i_iinc, i_push, i_getI, i_getJ, i_getR, i_putI, i_putJ, i_putR, i_iadd, i_isub, i_imul, i_iand, i_ior, i_ixor, i_ishl, i_ishr, i_iushr, i_idiv, i_irem, i_ladd, i_lsub, i_lmul, i_land, i_lor, i_lxor, i_ldiv, i_lrem, i_lshl, i_lshr, i_lcmp, i_ineg, i_lneg, i_i2l, i_l2i, i_i2b, i_i2c, i_dup, i_pop, i_dup_x1, i_dup2, i_icmp_eq, i_icmp_lt, i_icmp_ge, i_icmp_gt, i_icmp_le, i_if_eq, i_if_lt, i_if_ge, i_if_gt, i_if_le, i_goto, i_ifnull, i_iald, i_bald, i_zald, i_lald, i_aald, i_iast, i_bast, i_zast, i_last, i_alen, i_iret, i_lret, i_aret, i_vret, i_oinit, i_cast, i_tsw, i_cases, i_mmin, i_mmax, i_lmin, i_throw, nb0, nb1, nint, nby0, rf_s, rf_n, of_r, of_n, tk_orf_rf, tk_c2, tk_ls, Value.category, tk_isR_ref, tk_isR_rf, tk_isR_null, e1]
        have sx4 := s2 x sx1 (by rw [hρ1]; simp)
        have hF3 : blF ρ1 ρ2 (s_J S1 7 3 (fL i) (du1 i - gr i)) S2 := ⟨g2, r2', fun b hb hn => s2 b hb (fun w => hn (by
          simp only [List.mem_cons, List.not_mem_nil, or_false] at w ⊢
          omega))⟩
        refine ih (i + 1) S2 ρ2 (vp_updL du1 i (du1 i - gr i)) (lineM J1 (nI td) 4 (nI i) (-gr i)) _ _ _ (by omega) hZ2 (hF.trans (hF2.bl.trans hF3)) ((hL1.put3 hil).same hZ1 (xr.of sx4) (sm.no s2 (by simp)) r2') hJ3 hP1 ?_ ?_ ?_
        · show J.1 ≤ J1.1 + 1
          omega
        · show _ ≤ 5 * (lvl (J1.1 + 1) - lvl J.1)
          omega
        · show _ ≤ 60000 * (lvl (J1.1 + 1) - lvl J.1)
          omega
      · rw [if_neg (fun q => q1 q.1)] at hP1
        exact ih (i + 1) S1 ρ1 du1 J1 _ cs ss (by omega) hZ1 hF hL1 hJ1 hP1 hJJ hcs hss
  show t_X11_payGranted_0 Z d mc ms QR E [some (.ref x), some (.int r), none, none] [] S 0 0
  simp -implicitDefEqProofs [t_X11_payGranted_0, i_aload, i_iload, i_lload, i_istore, i_lstore, i_astore, i_iinc, i_push, i_getI, i_getJ, i_getR, i_putI, i_putJ, i_putR, i_iadd, i_isub, i_imul, i_iand, i_ior, i_ixor, i_ishl, i_ishr, i_iushr, i_idiv, i_irem, i_ladd, i_lsub, i_lmul, i_land, i_lor, i_lxor, i_ldiv, i_lrem, i_lshl, i_lshr, i_lcmp, i_ineg, i_lneg, i_i2l, i_l2i, i_i2b, i_i2c, i_dup, i_pop, i_dup_x1, i_dup2, i_icmp_eq, i_icmp_lt, i_icmp_ge, i_icmp_gt, i_icmp_le, i_if_eq, i_if_lt, i_if_ge, i_if_gt, i_if_le, i_goto, i_ifnull, i_iald, i_bald, i_zald, i_lald, i_aald, i_iast, i_bast, i_zast, i_last, i_alen, i_iret, i_lret, i_aret, i_vret, i_oinit, i_cast, i_tsw, i_cases, i_mmin, i_mmax, i_lmin, i_throw, nb0, nb1, nint, nby0, rf_s, rf_n, of_r, of_n, tk_orf_rf, tk_c2, tk_ls, Value.category, tk_isR_ref, tk_isR_rf, tk_isR_null]
  exact loop n 0 S ρ du J _ 0 0 rfl hZ blF.rfl' hL hJ hP (Nat.le_refl _) (Nat.zero_le _) (Nat.zero_le _)
end INTR3

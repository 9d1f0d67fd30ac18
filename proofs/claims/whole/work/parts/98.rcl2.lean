/-! THE REFERENCE READS: a clause's end -/
section RCL2
variable {Z : tk_Z} {d mc ms : Nat} {QR : tk_R} {len m : Nat} {g : Nat → Int32} {B : bS} {V V1 V2 : vR} {ρ : Nat → Nat} {S : tk_S} {R : Nat → Nat}
theorem rdR.rows {k : Nat} {r : pR} (h : rdR g len V V1 k r) : pF V V1 k := by
  rcases r with ⟨s', c⟩ | ⟨kd, pl, j⟩
  · exact h.1
  · exact h.1
set_option maxHeartbeats 4000000 in
theorem cl_tail {E : tk_E} {hw cl k w s1 : Nat} {r : pQ} {x1 x3 : Option Value} {wd mn fi se : Int32} (hE : ∀ ls st S cs ss, t_X12_clause_245 Z d mc ms QR E ls st S cs ss → E 245 ls st S cs ss) (hd : 42 ≤ d) (hR : RS B m ρ S (rLk (cp 400 hw) cl) R V1) (hp : preR g len V V1 k w s1 wd mn fi se) (hg : vA V 1 = g) (h3 : vI V 3 = nI len) (hl : len ≤ 2000) (hw4 : w < 480) (hkh : k ≤ hw) (hr : r = pTail g len wd (.inl (s1, mn, fi, se))) (hmax : max hw (k + jc r) < 12800) (hmc : 2 * gS hw (k + jc r) ≤ mc) (hms : 30000 * gS hw (k + jc r) ≤ ms)
    (H : okQ B m g len V hw cl k w QR none r) : E 245 [some (.ref m), x1, some (.int (nI w)), x3] [] S 0 0 := by
  refine hE _ _ _ _ _ ?_
  obtain ⟨p1, p2, p3, ⟨q, p4, p5, p6⟩, p7, p8, p9, p10⟩ := hp
  obtain ⟨y1, y2⟩ := p1.at1
  obtain ⟨u1, u2, u3⟩ := hR.1.1
  obtain ⟨a13, b13, c13, d13, -⟩ := hR.1.2 13 _ _ rfl
  obtain ⟨a14, b14, c14, d14, -⟩ := hR.1.2 14 _ _ rfl
  have x13 := hR.2.1.2.2.1 13 _ _ rfl (by decide)
  have x14 := hR.2.1.2.2.1 14 _ _ rfl (by decide)
  have n14 := hR.1.ne (i := 14) (j := 13) rfl rfl (by decide)
  have hin : vp_in (nI w) 481 := vp_in_nI (by omega) (by omega)
  have hin2 : vp_in (nI w) 480 := vp_in_nI (by omega) (by omega)
  have hI := hR.2.1.1
  have hsl : s1 ≤ len := by rw [← p6]; exact (tkStart_le g p4).2
  have hR2 := (hR.iA (k := 13) rfl (upd (vA V1 13) w (nI k))).iI 7 0
  have hv2 : rdV (wI (wA V1 13 (upd (vA V1 13) w (nI k))) 7 0) len g q := ⟨by simpa [vA_wI, vA_wA] using y1.trans hg, by simpa [vI_wI, vI_wA] using y2.trans h3, hl, by simpa [vI_wI, vI_wA] using p5, p4, by simpa [vI_wI, vI_wA] using p2⟩
  have hF2 : qlF V (wI (wA V1 13 (upd (vA V1 13) w (nI k))) 7 0) k w := p1.trans ((qlF.ofA (V := V1) (i := 13) (by omega) (upd_ne _ _ _)).trans (qlF.of (pF.ofI (k := k) (Or.inr (Or.inr (Or.inr (Or.inl rfl)))))))
  have fin : ∀ ρ4 S4 R4 V4 r', RS B m ρ4 S4 (rLk (cp 400 (max hw (k + jn r'))) cl) R4 V4 → rdR g len (wI (wA V1 13 (upd (vA V1 13) w (nI k))) 7 0) V4 k r' → pIf g len s1 = r' → i_callV Z mX12_need 13 1 d mc ms (i_pop (i_vret mc ms QR)) [some (.ref m), x1, some (.int (nI w)), x3] [.int 59, .ref m] (s_aI S4 (R4 14) (upd (vA V4 14) w (vI V4 17))) (2 * gS hw (k + jn r')) (30000 * gS hw (k + jn r')) := by
    intro ρ4 S4 R4 V4 r' hR4 hr4 hif
    obtain ⟨w1, w2, w3⟩ := hR4.1.1
    have hF4 : qlF V (wA V4 14 (upd (vA V4 14) w (vI V4 17))) k w := hF2.trans ((qlF.of hr4.rows).trans (qlF.ofA (V := V4) (i := 14) (by omega) (upd_ne _ _ _)))
    have hR5 := hR4.iA (k := 14) rfl (upd (vA V4 14) w (vI V4 17))
    rw [pTail, hif] at hr
    rcases r' with ⟨s2, c⟩ | ⟨kd, pl, j⟩
    · obtain ⟨q2, z1, z2⟩ := hr4.next hv2
      have hs2 := hr4.at_le
      obtain ⟨t1, t2, t3, t4, t5, t6, t7⟩ := id hr4
      have hjc : jc r = c.length := by
        rw [hr]
        dsimp only
        split <;> rfl
      have hrow : ∀ i, 10 ≤ i → i ≤ 12 → vA V4 i = vA V1 i := fun i i1 i2 => by
        rw [t1.2.2.1 i (by omega) (by omega)]
        rw [vA_wI, vA_wA, if_neg (by omega)]
      have h13 : vA V4 13 w = nI k := by
        rw [t1.2.2.1 13 (by decide) (by decide)]
        simp [vA_wI, vA_wA, upd]
      rw [hjc] at hmc hms
      refine ⟨by simp, w1, w2, by simp, 3, 0, 0, by omega, by simpa only [jn, Nat.add_zero] using hmc, by simpa only [jn, Nat.add_zero] using hms, ?_⟩
      have hP5 := hR5.rP (len := len) (g := g) rfl (by simpa [vI_wA] using z1.2.1) hl (by simpa [vA_wA] using z1.1)
      refine r_need (g := g) (len := len) (qt := R4 1) (p := q2) (by omega) hP5 (by rw [hR5.2.1.1 5]; simpa [vI_wA] using z1.2.2.2.2.2) (by unfold isSg; simp) (by rw [hR5.2.1.1 4]; simpa [vI_wA] using z1.2.2.2.1) z1.2.2.2.2.1 (fun z => ?_) (fun z => ?_)
      · rw [z2] at z ⊢
        dsimp only at hr
        rw [if_pos z] at hr
        subst hr
        have hen := end_sign (g := g) (len := len) (s := s2) (by unfold isSg; simp) z
        simp -implicitDefEqProofs [i_aload, i_iload, i_lload, i_istore, i_lstore, i_astore, i_iinc, i_push, i_getI, i_getJ, i_getR, i_putI, i_putJ, i_putR, i_iadd, i_isub, i_imul, i_iand, i_ior, i_ixor, i_ishl, i_ishr, i_iushr, i_idiv, i_irem, i_ladd, i_lsub, i_lmul, i_land, i_lor, i_lxor, i_ldiv, i_lrem, i_lshl, i_lshr, i_lcmp, i_ineg, i_lneg, i_i2l, i_l2i, i_i2b, i_i2c, i_dup, i_pop, i_dup_x1, i_dup2, i_icmp_eq, i_icmp_lt, i_icmp_ge, i_icmp_gt, i_icmp_le, i_if_eq, i_if_lt, i_if_ge, i_if_gt, i_if_le, i_goto, i_ifnull, i_iald, i_bald, i_zald, i_lald, i_aald, i_iast, i_bast, i_zast, i_last, i_alen, i_iret, i_lret, i_aret, i_vret, i_oinit, i_cast, i_tsw, i_cases, i_mmin, i_mmax, i_lmin, i_throw, nb0, nb1, nint, nby0, rf_s, rf_n, of_r, of_n, tk_orf_rf, tk_c2, tk_ls, Value.category, tk_isR_ref, tk_isR_rf, tk_isR_null]
        refine ⟨hmc, hms, H _ ?_ _ _ _ (hR5.iI 4 _)⟩
        refine ⟨hF4.trans (qlF.of (pF.ofI (k := k) (Or.inl rfl))), ?_, ?_, ⟨tkEnd g len s2, by omega, by simp [vI_wI], rfl⟩, ?_, ?_, ?_, ?_, ?_, ?_, ?_⟩
        · simpa [vI_wI, vI_wA] using t2
        · have e := t3
          simp only [vI_wI, vI_wA] at e ⊢
          exact e.trans p3
        · simpa [vI_wI, vI_wA] using t6
        · simp [vA_wI, vA_wA]; rw [hrow 10 (by omega) (by omega)]; exact p8
        · intro hh
          simp [vA_wI, vA_wA]; rw [hrow 11 (by omega) (by omega)]; exact p9 hh
        · intro hh
          simp [vA_wI, vA_wA]; rw [hrow 12 (by omega) (by omega)]; exact p10 hh
        · simp [vA_wI, vA_wA]; exact h13
        · simp [vA_wI, vA_wA, upd]; exact t6
        · intro j x hx
          have := t7 j x hx
          simpa [vA_wI, vA_wA] using this
      · rw [z2] at z ⊢
        dsimp only at hr
        rw [if_neg z] at hr
        subst hr
        simp -implicitDefEqProofs [i_aload, i_iload, i_lload, i_istore, i_lstore, i_astore, i_iinc, i_push, i_getI, i_getJ, i_getR, i_putI, i_putJ, i_putR, i_iadd, i_isub, i_imul, i_iand, i_ior, i_ixor, i_ishl, i_ishr, i_iushr, i_idiv, i_irem, i_ladd, i_lsub, i_lmul, i_land, i_lor, i_lxor, i_ldiv, i_lrem, i_lshl, i_lshr, i_lcmp, i_ineg, i_lneg, i_i2l, i_l2i, i_i2b, i_i2c, i_dup, i_pop, i_dup_x1, i_dup2, i_icmp_eq, i_icmp_lt, i_icmp_ge, i_icmp_gt, i_icmp_le, i_if_eq, i_if_lt, i_if_ge, i_if_gt, i_if_le, i_goto, i_ifnull, i_iald, i_bald, i_zald, i_lald, i_aald, i_iast, i_bast, i_zast, i_last, i_alen, i_iret, i_lret, i_aret, i_vret, i_oinit, i_cast, i_tsw, i_cases, i_mmin, i_mmax, i_lmin, i_throw, nb0, nb1, nint, nby0, rf_s, rf_n, of_r, of_n, tk_orf_rf, tk_c2, tk_ls, Value.category, tk_isR_ref, tk_isR_rf, tk_isR_null]
        refine ⟨hmc, hms, H _ ?_ _ _ _ (((hR5.iI 4 _).iI 5 _).iI 6 _)⟩
        refine ⟨hF4.trans (qlF.of ((pF.ofI (k := k) (Or.inl rfl)).trans ((pF.ofI (k := k) (Or.inr (Or.inl rfl))).trans (pF.ofI (k := k) (Or.inr (Or.inr (Or.inl rfl)))) (Nat.le_refl _)) (Nat.le_refl _))), by simp [vI_wI], Or.inl rfl, by simp [vI_wI], ?_, s2, hs2, by simp [vI_wI]⟩
        simpa [vI_wI, vI_wA] using t6
    · obtain ⟨t1, t2, t3, t4, t5, q3, t6, t7⟩ := id hr4
      have hpos : 0 < vI V4 5 := by
        rw [t2]
        rcases t3 with e | e | e <;> rw [e] <;> decide
      dsimp only at hr
      subst hr
      refine ⟨by simp, w1, w2, by simp, 3, 0, 0, by omega, by simpa only [jn, jc, Nat.add_zero] using hmc, by simpa only [jn, jc, Nat.add_zero] using hms, ?_⟩
      refine r_needF w1 w2 (by rw [hR5.2.1.1 5]; simpa [vI_wA] using hpos) ?_
      simp -implicitDefEqProofs [i_aload, i_iload, i_lload, i_istore, i_lstore, i_astore, i_iinc, i_push, i_getI, i_getJ, i_getR, i_putI, i_putJ, i_putR, i_iadd, i_isub, i_imul, i_iand, i_ior, i_ixor, i_ishl, i_ishr, i_iushr, i_idiv, i_irem, i_ladd, i_lsub, i_lmul, i_land, i_lor, i_lxor, i_ldiv, i_lrem, i_lshl, i_lshr, i_lcmp, i_ineg, i_lneg, i_i2l, i_l2i, i_i2b, i_i2c, i_dup, i_pop, i_dup_x1, i_dup2, i_icmp_eq, i_icmp_lt, i_icmp_ge, i_icmp_gt, i_icmp_le, i_if_eq, i_if_lt, i_if_ge, i_if_gt, i_if_le, i_goto, i_ifnull, i_iald, i_bald, i_zald, i_lald, i_aald, i_iast, i_bast, i_zast, i_last, i_alen, i_iret, i_lret, i_aret, i_vret, i_oinit, i_cast, i_tsw, i_cases, i_mmin, i_mmax, i_lmin, i_throw, nb0, nb1, nint, nby0, rf_s, rf_n, of_r, of_n, tk_orf_rf, tk_c2, tk_ls, Value.category, tk_isR_ref, tk_isR_rf, tk_isR_null]
      refine ⟨hmc, hms, H _ ?_ _ _ _ hR5⟩
      refine ⟨hF4, ?_, t3, ?_, ?_, q3, t6, ?_⟩
      · simpa [vI_wI, vI_wA] using t2
      · simpa [vI_wI, vI_wA] using t4
      · simpa [vI_wI, vI_wA] using t5
      · simpa [vI_wI, vI_wA] using t7
  simp -implicitDefEqProofs [t_X12_clause_245, i_aload, i_iload, i_lload, i_istore, i_lstore, i_astore, i_iinc, i_push, i_getI, i_getJ, i_getR, i_putI, i_putJ, i_putR, i_iadd, i_isub, i_imul, i_iand, i_ior, i_ixor, i_ishl, i_ishr, i_iushr, i_idiv, i_irem, i_ladd, i_lsub, i_lmul, i_land, i_lor, i_lxor, i_ldiv, i_lrem, i_lshl, i_lshr, i_lcmp, i_ineg, i_lneg, i_i2l, i_l2i, i_i2b, i_i2c, i_dup, i_pop, i_dup_x1, i_dup2, i_icmp_eq, i_icmp_lt, i_icmp_ge, i_icmp_gt, i_icmp_le, i_if_eq, i_if_lt, i_if_ge, i_if_gt, i_if_le, i_goto, i_ifnull, i_iald, i_bald, i_zald, i_lald, i_aald, i_iast, i_bast, i_zast, i_last, i_alen, i_iret, i_lret, i_aret, i_vret, i_oinit, i_cast, i_tsw, i_cases, i_mmin, i_mmax, i_lmin, i_throw, nb0, nb1, nint, nby0, rf_s, rf_n, of_r, of_n, tk_orf_rf, tk_c2, tk_ls, Value.category, tk_isR_ref, tk_isR_rf, tk_isR_null, z_q_L_s_I, z_q_K_s_I, z_q_I_s_I, z_q_J_s_I, z_q_R_s_I, z_q_n_s_I, z_q_aI_s_I, z_q_aJ_s_I, z_q_aR_s_I, z_q_L_s_J, z_q_K_s_J, z_q_I_s_J, z_q_J_s_J, z_q_R_s_J, z_q_n_s_J, z_q_aI_s_J, z_q_aJ_s_J, z_q_aR_s_J, z_q_L_s_R, z_q_K_s_R, z_q_I_s_R, z_q_J_s_R, z_q_R_s_R, z_q_n_s_R, z_q_aI_s_R, z_q_aJ_s_R, z_q_aR_s_R, z_q_L_s_aI, z_q_K_s_aI, z_q_I_s_aI, z_q_J_s_aI, z_q_R_s_aI, z_q_n_s_aI, z_q_aI_s_aI, z_q_aJ_s_aI, z_q_aR_s_aI, z_q_L_s_aJ, z_q_K_s_aJ, z_q_I_s_aJ, z_q_J_s_aJ, z_q_R_s_aJ, z_q_n_s_aJ, z_q_aI_s_aJ, z_q_aJ_s_aJ, z_q_aR_s_aJ, z_q_L_s_aR, z_q_K_s_aR, z_q_I_s_aR, z_q_J_s_aR, z_q_R_s_aR, z_q_n_s_aR, z_q_aI_s_aR, z_q_aJ_s_aR, z_q_aR_s_aR, z_q_L_s_new, z_q_K_s_new, z_q_I_s_new, z_q_J_s_new, z_q_R_s_new, z_q_n_s_new, z_q_aI_s_new, z_q_aJ_s_new, z_q_aR_s_new, z_q_L_s_arr, z_q_K_s_arr, z_q_I_s_arr, z_q_J_s_arr, z_q_R_s_arr, z_q_n_s_arr, z_q_aI_s_arr, z_q_aJ_s_arr, z_q_aR_s_arr, u1, u2, a13, b13, c13, d13, x13, hI, p7, hin, nI_clamp (show w < 2 ^ 31 by omega)]
  refine ⟨by simp, u1, u2, by simp, 5, 0, 0, by omega, by omega, by omega, ?_⟩
  refine r_eat (g := g) (len := len) (qt := R 1) (p := q) (by omega) (hR2.rP rfl hv2.2.1 hl hv2.1) (by rw [hR2.2.1.1 5]; exact hv2.2.2.2.2.2) isWd_if (by rw [hR2.2.1.1 4]; exact hv2.2.2.2.1) p4 (fun z => ?_) (fun z => ?_)
  · rw [p6] at z ⊢
    have z2 : tkTok g len s1 = 260 := z
    have hen := tkEnd_w (g := g) (len := len) (s := s1) (w := 4) (by decide) z
    have hnx : tkStart g len (tkEnd g len s1) = tkNext g len s1 := rfl
    have hR3 := hR2.iI 4 (nI (tkEnd g len s1))
    have hif : pIf g len s1 = pAny g len (pOne g len 10) (tkNext g len s1) := by unfold pIf; rw [if_pos z2]
    have hjr : jn (pAny g len (pOne g len 10) (tkNext g len s1)) = jc r := by
      rw [hr, pTail, hif]
      split
      · rename_i e he
        rw [he]
        rfl
      · rename_i s2 c he
        rw [he]
        split <;> rfl
    simp -implicitDefEqProofs [i_aload, i_iload, i_lload, i_istore, i_lstore, i_astore, i_iinc, i_push, i_getI, i_getJ, i_getR, i_putI, i_putJ, i_putR, i_iadd, i_isub, i_imul, i_iand, i_ior, i_ixor, i_ishl, i_ishr, i_iushr, i_idiv, i_irem, i_ladd, i_lsub, i_lmul, i_land, i_lor, i_lxor, i_ldiv, i_lrem, i_lshl, i_lshr, i_lcmp, i_ineg, i_lneg, i_i2l, i_l2i, i_i2b, i_i2c, i_dup, i_pop, i_dup_x1, i_dup2, i_icmp_eq, i_icmp_lt, i_icmp_ge, i_icmp_gt, i_icmp_le, i_if_eq, i_if_lt, i_if_ge, i_if_gt, i_if_le, i_goto, i_ifnull, i_iald, i_bald, i_zald, i_lald, i_aald, i_iast, i_bast, i_zast, i_last, i_alen, i_iret, i_lret, i_aret, i_vret, i_oinit, i_cast, i_tsw, i_cases, i_mmin, i_mmax, i_lmin, i_throw, nb0, nb1, nint, nby0, rf_s, rf_n, of_r, of_n, tk_orf_rf, tk_c2, tk_ls, Value.category, tk_isR_ref, tk_isR_rf, tk_isR_null, z_q_L_s_I, z_q_K_s_I, z_q_I_s_I, z_q_J_s_I, z_q_R_s_I, z_q_n_s_I, z_q_aI_s_I, z_q_aJ_s_I, z_q_aR_s_I, z_q_L_s_J, z_q_K_s_J, z_q_I_s_J, z_q_J_s_J, z_q_R_s_J, z_q_n_s_J, z_q_aI_s_J, z_q_aJ_s_J, z_q_aR_s_J, z_q_L_s_R, z_q_K_s_R, z_q_I_s_R, z_q_J_s_R, z_q_R_s_R, z_q_n_s_R, z_q_aI_s_R, z_q_aJ_s_R, z_q_aR_s_R, z_q_L_s_aI, z_q_K_s_aI, z_q_I_s_aI, z_q_J_s_aI, z_q_R_s_aI, z_q_n_s_aI, z_q_aI_s_aI, z_q_aJ_s_aI, z_q_aR_s_aI, z_q_L_s_aJ, z_q_K_s_aJ, z_q_I_s_aJ, z_q_J_s_aJ, z_q_R_s_aJ, z_q_n_s_aJ, z_q_aI_s_aJ, z_q_aJ_s_aJ, z_q_aR_s_aJ, z_q_L_s_aR, z_q_K_s_aR, z_q_I_s_aR, z_q_J_s_aR, z_q_R_s_aR, z_q_n_s_aR, z_q_aI_s_aR, z_q_aJ_s_aR, z_q_aR_s_aR, z_q_L_s_new, z_q_K_s_new, z_q_I_s_new, z_q_J_s_new, z_q_R_s_new, z_q_n_s_new, z_q_aI_s_new, z_q_aJ_s_new, z_q_aR_s_new, z_q_L_s_arr, z_q_K_s_arr, z_q_I_s_arr, z_q_J_s_arr, z_q_R_s_arr, z_q_n_s_arr, z_q_aI_s_arr, z_q_aJ_s_arr, z_q_aR_s_arr, u1, u2]
    refine ⟨by simp, u1, u2, by simp, 41, 2 * gS hw (k + jn (pAny g len (pOne g len 10) (tkNext g len s1))), 30000 * gS hw (k + jn (pAny g len (pOne g len 10) (tkNext g len s1))), by omega, by rw [hjr]; omega, by rw [hjr]; omega, ?_⟩
    refine (r_ones (Z := Z) (g := g) (len := len) 10 (by omega)).2 B m ρ _ cl R _ hw k (tkEnd g len s1) _ _ _ _ (Nat.le_refl _) hR3 (hv2.at4 hen.1) (by simpa [vI_wI, vI_wA] using p7) (by simp [vI_wI]; rfl) hkh (by rw [hnx, hjr]; exact hmax) (by rw [hnx]; exact Nat.le_refl _) (by rw [hnx]; exact Nat.le_refl _) (fun V4 hr4 S4 ρ4 R4 hR4 => ?_)
    rw [hnx] at hr4 hR4
    obtain ⟨w1, w2, w3⟩ := hR4.1.1
    obtain ⟨a4, b4, c4, d4, -⟩ := hR4.1.2 14 _ _ rfl
    have x4 := hR4.2.1.2.2.1 14 _ _ rfl (by decide)
    have hI4 := hR4.2.1.1
    simp -implicitDefEqProofs [i_aload, i_iload, i_lload, i_istore, i_lstore, i_astore, i_iinc, i_push, i_getI, i_getJ, i_getR, i_putI, i_putJ, i_putR, i_iadd, i_isub, i_imul, i_iand, i_ior, i_ixor, i_ishl, i_ishr, i_iushr, i_idiv, i_irem, i_ladd, i_lsub, i_lmul, i_land, i_lor, i_lxor, i_ldiv, i_lrem, i_lshl, i_lshr, i_lcmp, i_ineg, i_lneg, i_i2l, i_l2i, i_i2b, i_i2c, i_dup, i_pop, i_dup_x1, i_dup2, i_icmp_eq, i_icmp_lt, i_icmp_ge, i_icmp_gt, i_icmp_le, i_if_eq, i_if_lt, i_if_ge, i_if_gt, i_if_le, i_goto, i_ifnull, i_iald, i_bald, i_zald, i_lald, i_aald, i_iast, i_bast, i_zast, i_last, i_alen, i_iret, i_lret, i_aret, i_vret, i_oinit, i_cast, i_tsw, i_cases, i_mmin, i_mmax, i_lmin, i_throw, nb0, nb1, nint, nby0, rf_s, rf_n, of_r, of_n, tk_orf_rf, tk_c2, tk_ls, Value.category, tk_isR_ref, tk_isR_rf, tk_isR_null, z_q_L_s_I, z_q_K_s_I, z_q_I_s_I, z_q_J_s_I, z_q_R_s_I, z_q_n_s_I, z_q_aI_s_I, z_q_aJ_s_I, z_q_aR_s_I, z_q_L_s_J, z_q_K_s_J, z_q_I_s_J, z_q_J_s_J, z_q_R_s_J, z_q_n_s_J, z_q_aI_s_J, z_q_aJ_s_J, z_q_aR_s_J, z_q_L_s_R, z_q_K_s_R, z_q_I_s_R, z_q_J_s_R, z_q_R_s_R, z_q_n_s_R, z_q_aI_s_R, z_q_aJ_s_R, z_q_aR_s_R, z_q_L_s_aI, z_q_K_s_aI, z_q_I_s_aI, z_q_J_s_aI, z_q_R_s_aI, z_q_n_s_aI, z_q_aI_s_aI, z_q_aJ_s_aI, z_q_aR_s_aI, z_q_L_s_aJ, z_q_K_s_aJ, z_q_I_s_aJ, z_q_J_s_aJ, z_q_R_s_aJ, z_q_n_s_aJ, z_q_aI_s_aJ, z_q_aJ_s_aJ, z_q_aR_s_aJ, z_q_L_s_aR, z_q_K_s_aR, z_q_I_s_aR, z_q_J_s_aR, z_q_R_s_aR, z_q_n_s_aR, z_q_aI_s_aR, z_q_aJ_s_aR, z_q_aR_s_aR, z_q_L_s_new, z_q_K_s_new, z_q_I_s_new, z_q_J_s_new, z_q_R_s_new, z_q_n_s_new, z_q_aI_s_new, z_q_aJ_s_new, z_q_aR_s_new, z_q_L_s_arr, z_q_K_s_arr, z_q_I_s_arr, z_q_J_s_arr, z_q_R_s_arr, z_q_n_s_arr, z_q_aI_s_arr, z_q_aJ_s_arr, z_q_aR_s_arr, w1, w2, a4, b4, c4, d4, x4, hI4, hin2, nI_clamp (show w < 2 ^ 31 by omega)]
    exact fin ρ4 S4 R4 V4 _ hR4 hr4.pre4 hif
  · rw [p6] at z ⊢
    have z2 : ¬ tkTok g len s1 = 260 := z
    have hif : pIf g len s1 = .inl (s1, []) := by unfold pIf; rw [if_neg z2]
    have hR3 := hR2.iI 4 (nI s1)
    have e0 : max hw (k + jn (.inl (s1, []))) = hw := by show max hw (k + 0) = hw; omega
    have g0 : gS hw (k + jn (.inl (s1, []))) = 0 := by unfold gS; rw [e0]; omega
    have hr4 : rdR g len (wI (wA V1 13 (upd (vA V1 13) w (nI k))) 7 0) (wI (wI (wA V1 13 (upd (vA V1 13) w (nI k))) 7 0) 4 (nI s1)) k (.inl (s1, [])) := by
      have := rdR.nil (g := g) (len := len) (V := wI (wA V1 13 (upd (vA V1 13) w (nI k))) 7 0) (k := k) (p := s1) hsl hv2.2.2.2.2.2 (by simpa [vI_wI, vI_wA] using p7)
      rw [← p6, tkStart_idem p4, p6] at this
      exact this
    have f := fin ρ _ R _ _ (by rw [e0]; exact hR3) hr4 hif
    rw [g0] at f
    have e17 : vI (wI (wI (wA V1 13 (upd (vA V1 13) w (nI k))) 7 0) 4 (nI s1)) 17 = nI k := by simpa [vI_wI, vI_wA] using p7
    have e14 : vA (wI (wI (wA V1 13 (upd (vA V1 13) w (nI k))) 7 0) 4 (nI s1)) 14 = vA V1 14 := by simp [vA_wI, vA_wA]
    rw [e17, e14] at f
    simp -implicitDefEqProofs [i_aload, i_iload, i_lload, i_istore, i_lstore, i_astore, i_iinc, i_push, i_getI, i_getJ, i_getR, i_putI, i_putJ, i_putR, i_iadd, i_isub, i_imul, i_iand, i_ior, i_ixor, i_ishl, i_ishr, i_iushr, i_idiv, i_irem, i_ladd, i_lsub, i_lmul, i_land, i_lor, i_lxor, i_ldiv, i_lrem, i_lshl, i_lshr, i_lcmp, i_ineg, i_lneg, i_i2l, i_l2i, i_i2b, i_i2c, i_dup, i_pop, i_dup_x1, i_dup2, i_icmp_eq, i_icmp_lt, i_icmp_ge, i_icmp_gt, i_icmp_le, i_if_eq, i_if_lt, i_if_ge, i_if_gt, i_if_le, i_goto, i_ifnull, i_iald, i_bald, i_zald, i_lald, i_aald, i_iast, i_bast, i_zast, i_last, i_alen, i_iret, i_lret, i_aret, i_vret, i_oinit, i_cast, i_tsw, i_cases, i_mmin, i_mmax, i_lmin, i_throw, nb0, nb1, nint, nby0, rf_s, rf_n, of_r, of_n, tk_orf_rf, tk_c2, tk_ls, Value.category, tk_isR_ref, tk_isR_rf, tk_isR_null, z_q_L_s_I, z_q_K_s_I, z_q_I_s_I, z_q_J_s_I, z_q_R_s_I, z_q_n_s_I, z_q_aI_s_I, z_q_aJ_s_I, z_q_aR_s_I, z_q_L_s_J, z_q_K_s_J, z_q_I_s_J, z_q_J_s_J, z_q_R_s_J, z_q_n_s_J, z_q_aI_s_J, z_q_aJ_s_J, z_q_aR_s_J, z_q_L_s_R, z_q_K_s_R, z_q_I_s_R, z_q_J_s_R, z_q_R_s_R, z_q_n_s_R, z_q_aI_s_R, z_q_aJ_s_R, z_q_aR_s_R, z_q_L_s_aI, z_q_K_s_aI, z_q_I_s_aI, z_q_J_s_aI, z_q_R_s_aI, z_q_n_s_aI, z_q_aI_s_aI, z_q_aJ_s_aI, z_q_aR_s_aI, z_q_L_s_aJ, z_q_K_s_aJ, z_q_I_s_aJ, z_q_J_s_aJ, z_q_R_s_aJ, z_q_n_s_aJ, z_q_aI_s_aJ, z_q_aJ_s_aJ, z_q_aR_s_aJ, z_q_L_s_aR, z_q_K_s_aR, z_q_I_s_aR, z_q_J_s_aR, z_q_R_s_aR, z_q_n_s_aR, z_q_aI_s_aR, z_q_aJ_s_aR, z_q_aR_s_aR, z_q_L_s_new, z_q_K_s_new, z_q_I_s_new, z_q_J_s_new, z_q_R_s_new, z_q_n_s_new, z_q_aI_s_new, z_q_aJ_s_new, z_q_aR_s_new, z_q_L_s_arr, z_q_K_s_arr, z_q_I_s_arr, z_q_J_s_arr, z_q_R_s_arr, z_q_n_s_arr, z_q_aI_s_arr, z_q_aJ_s_arr, z_q_aR_s_arr, u1, u2, a14, b14, c14, d14, x14, n14, hI, p7, hin2, nI_clamp (show w < 2 ^ 31 by omega)]
    exact f
end RCL2

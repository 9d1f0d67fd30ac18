/-! THE BOX, with the room that it takes -/
section BOX3
variable {Z : tk_Z} {d mc ms : Nat} {S : tk_S} {QR : tk_R}
set_option maxHeartbeats 4000000 in
theorem m_makeRoom_2 {bx n cap r2 r3 r4 r5 r6 : Nat} (hd : 2 ≤ d) (hr : isRows S bx cap r2 r3 r4 r5 r6) (hn : q_I S 3 1 bx = nI n) (hnc : n ≤ cap) (hn12 : n < 12000) (hmc : n = cap → 5 ≤ mc) (hms : n = cap → 60000 ≤ ms)
    (h : ∀ S' cap' p2 p3 p4 p5 p6, roomed S S' bx n cap r2 r3 r4 r5 r6 cap' p2 p3 p4 p5 p6 → cap' = (if n < cap then cap else min (2 * n) 12000) → QR none S') : tk_M Z mX2_makeRoom d mc ms [.ref bx] S QR tk_noX := by
  have hr0 := hr
  obtain ⟨b1, b2, ⟨a1, a2, a3, a4⟩, ⟨c1, c2, c3, c4⟩, ⟨d1, d2, d3, d4⟩, ⟨e1, e2, e3, e4⟩, ⟨f1, f2, f3, f4⟩, n1, n2, n3, n4, g1, g2⟩ := hr0
  refine M_X2_makeRoom (Nat.le_of_ble_eq_true rfl) (fun E hE => hE _ _ _ _ _ ?_)
  show t_X2_makeRoom_0 Z d mc ms QR E [some (.ref bx), none] [] S 0 0
  simp [t_X2_makeRoom_0, i_aload, i_iload, i_lload, i_istore, i_lstore, i_astore, i_iinc, i_push, i_getI, i_getJ, i_getR, i_putI, i_putJ, i_putR, i_iadd, i_isub, i_imul, i_iand, i_ior, i_ixor, i_ishl, i_ishr, i_iushr, i_idiv, i_irem, i_ladd, i_lsub, i_lmul, i_land, i_lor, i_lxor, i_ldiv, i_lrem, i_lshl, i_lshr, i_lcmp, i_ineg, i_lneg, i_i2l, i_l2i, i_i2b, i_i2c, i_dup, i_pop, i_dup_x1, i_dup2, i_icmp_eq, i_icmp_lt, i_icmp_ge, i_icmp_gt, i_icmp_le, i_if_eq, i_if_lt, i_if_ge, i_if_gt, i_if_le, i_goto, i_ifnull, i_iald, i_bald, i_zald, i_lald, i_aald, i_iast, i_bast, i_zast, i_last, i_alen, i_iret, i_lret, i_aret, i_vret, i_oinit, i_cast, i_tsw, i_cases, i_mmin, i_mmax, i_lmin, i_throw, nb0, nb1, nint, nby0, rf_s, rf_n, of_r, of_n, tk_orf_rf, tk_c2, tk_ls, Value.category, tk_isR_ref, tk_isR_rf, tk_isR_null, b1, b2, a1, a2, a3, a4, hn]
  refine ⟨fun z => ?_, fun z => ⟨fun z2 => ?_, fun z2 => ?_⟩⟩
  · have z3 : n < cap := Nat.lt_of_not_le (fun w => absurd z (Int32.not_lt.mpr (nI_le w (by omega))))
    exact h S cap r2 r3 r4 r5 r6 ⟨hr, rfl, rfl, z3, fun i hi => ⟨rfl, rfl, rfl, rfl, rfl⟩, fun b hb _ => ⟨hb, rfl, fun _ _ => rfl, fun _ _ => rfl, fun _ _ => rfl, rfl, rfl, rfl, rfl⟩, fun b hb => hb, fun b hb => Or.inl hb, Or.inl ⟨rfl, rfl, rfl, rfl, rfl⟩⟩ (by rw [if_pos z3])
  · have z3 : n = cap := by
      have : ¬ n < cap := fun (w : n < cap) => nI_ge w (by omega) z
      omega
    have hmc := hmc z3
    have hms := hms z3
    have em : (2 : Int32) * nI n = nI (2 * n) := pk_mul 2 n
    have emin : (if (12000 : Int32) < nI (2 * n) then (12000 : Int32) else nI (2 * n)) = nI (min (2 * n) 12000) := by
      rw [show (12000 : Int32) = nI 12000 from rfl]
      by_cases c : 12000 < 2 * n
      · rw [if_pos (nI_lt c (by omega)), Nat.min_eq_right (by omega)]
      · rw [if_neg (nI_nlt (by omega) (by omega)), Nat.min_eq_left (by omega)]
    generalize hN : min (2 * n) 12000 = N at emin
    have hNc : cap < N := by omega
    have hN12 : N ≤ 12000 := by omega
    have q2 : 0 + 12000 ≤ ms := by omega
    have q3 : 0 + 12000 + 12000 ≤ ms := by omega
    have q4 : 0 + 12000 + 12000 + 12000 ≤ ms := by omega
    have q5 : 0 + 12000 + 12000 + 12000 + 12000 ≤ ms := by omega
    have q6 : 0 + 12000 + 12000 + 12000 + 12000 + 12000 ≤ ms := by omega
    have o2 : 0 + 1 ≤ mc := by omega
    have o3 : 0 + 1 + 1 ≤ mc := by omega
    have o4 : 0 + 1 + 1 + 1 ≤ mc := by omega
    have o5 : 0 + 1 + 1 + 1 + 1 ≤ mc := by omega
    have o6 : 0 + 1 + 1 + 1 + 1 + 1 ≤ mc := by omega
    have d0 : 1 ≤ d := by omega
    have fin : ∀ S1 S2 S3 S4 S5 q2 q3 q4 q5 q6, stp S S1 bx 2 q2 r2 N 15 cap → stp S1 S2 bx 3 q3 r3 N 15 cap → stp S2 S3 bx 4 q4 r4 N 15 cap → stp S3 S4 bx 5 q5 r5 N 16 cap → stp S4 S5 bx 6 q6 r6 N 16 cap → QR none S5 := fun S1 S2 S3 S4 S5 q2 q3 q4 q5 q6 s1 s2 s3 s4 s5 => h _ _ _ _ _ _ _ (roomed5 hr z3 hNc hN12 s1 s2 s3 s4 s5) (by rw [if_neg (by omega)]; exact hN.symm)
    clear h hms hmc
    simp [i_aload, i_iload, i_lload, i_istore, i_lstore, i_astore, i_iinc, i_push, i_getI, i_getJ, i_getR, i_putI, i_putJ, i_putR, i_iadd, i_isub, i_imul, i_iand, i_ior, i_ixor, i_ishl, i_ishr, i_iushr, i_idiv, i_irem, i_ladd, i_lsub, i_lmul, i_land, i_lor, i_lxor, i_ldiv, i_lrem, i_lshl, i_lshr, i_lcmp, i_ineg, i_lneg, i_i2l, i_l2i, i_i2b, i_i2c, i_dup, i_pop, i_dup_x1, i_dup2, i_icmp_eq, i_icmp_lt, i_icmp_ge, i_icmp_gt, i_icmp_le, i_if_eq, i_if_lt, i_if_ge, i_if_gt, i_if_le, i_goto, i_ifnull, i_iald, i_bald, i_zald, i_lald, i_aald, i_iast, i_bast, i_zast, i_last, i_alen, i_iret, i_lret, i_aret, i_vret, i_oinit, i_cast, i_tsw, i_cases, i_mmin, i_mmax, i_lmin, i_throw, nb0, nb1, nint, nby0, rf_s, rf_n, of_r, of_n, tk_orf_rf, tk_c2, tk_ls, Value.category, tk_isR_ref, tk_isR_rf, tk_isR_null, b1, b2, a1, a2, a3, a4, hn, em, emin]
    refine ⟨d0, ?_⟩
    have mb : ∀ (T : tk_S) r c, q_K T bx = 3 → q_K T r = c → c ≠ 3 → r ≠ bx := fun T r c hb hc h3 w => h3 (by rw [← hc, w, hb])
    have x3 := mb S r3 15 b2 c3 (by decide)
    have x4 := mb S r4 15 b2 d3 (by decide)
    have x5 := mb S r5 16 b2 e3 (by decide)
    have x6 := mb S r6 16 b2 f3 (by decide)
    refine grow1I (cap := cap) hd b1 b2 a2 a3 a4 hNc hN12 o2 q2 (fun a2 S1 s1 => ?_)
    have B1 := s1.box b1 b2
    have R3 := s1.row (j := 3) (by decide) ⟨c1, c2, c3, c4⟩ x3
    have R4 := s1.row (j := 4) (by decide) ⟨d1, d2, d3, d4⟩ x4
    have R5 := s1.row (j := 5) (by decide) ⟨e1, e2, e3, e4⟩ x5
    have R6 := s1.row (j := 6) (by decide) ⟨f1, f2, f3, f4⟩ x6
    simp only [i_aload, i_getR, i_iload, List.getD_cons_zero, List.getD_cons_succ, rf_s, tk_isR_ref, true_and, B1.1, B1.2, R3.1]
    refine grow1I (cap := cap) hd B1.1 B1.2 R3.2.1 R3.2.2.1 R3.2.2.2 hNc hN12 o3 q3 (fun a3 S2 s2 => ?_)
    have B2 := s2.box B1.1 B1.2
    have R4 := s2.row (j := 4) (by decide) R4 x4
    have R5 := s2.row (j := 5) (by decide) R5 x5
    have R6 := s2.row (j := 6) (by decide) R6 x6
    simp only [i_aload, i_getR, i_iload, List.getD_cons_zero, List.getD_cons_succ, rf_s, tk_isR_ref, true_and, B2.1, B2.2, R4.1]
    refine grow1I (cap := cap) hd B2.1 B2.2 R4.2.1 R4.2.2.1 R4.2.2.2 hNc hN12 o4 q4 (fun a4 S3 s3 => ?_)
    have B3 := s3.box B2.1 B2.2
    have R5 := s3.row (j := 5) (by decide) R5 x5
    have R6 := s3.row (j := 6) (by decide) R6 x6
    simp only [i_aload, i_getR, i_iload, List.getD_cons_zero, List.getD_cons_succ, rf_s, tk_isR_ref, true_and, B3.1, B3.2, R5.1]
    refine grow1J (cap := cap) hd B3.1 B3.2 R5.2.1 R5.2.2.1 R5.2.2.2 hNc hN12 o5 q5 (fun a5 S4 s4 => ?_)
    have B4 := s4.box B3.1 B3.2
    have R6 := s4.row (j := 6) (by decide) R6 x6
    simp only [i_aload, i_getR, i_iload, List.getD_cons_zero, List.getD_cons_succ, rf_s, tk_isR_ref, true_and, B4.1, B4.2, R6.1]
    refine grow1J (cap := cap) hd B4.1 B4.2 R6.2.1 R6.2.2.1 R6.2.2.2 hNc hN12 o6 q6 (fun a6 S5 s5 => ?_)
    have fin := fin S1 S2 S3 S4 S5 _ _ _ _ _ s1 s2 s3 s4 s5
    exact ⟨o6, q6, fin⟩
  · exact absurd z2 (nI_ge (b := 12000) hn12 (by omega))
set_option maxHeartbeats 4000000 in
theorem m_change_2 {bx n cap r2 r3 r4 r5 r6 : Nat} {m amt : Int64} {v2 v3 v4 : Nat → Int32} {v5 v6 : Nat → Int64} {a b c : Int32} (hd : 3 ≤ d) (hb : isBox S bx n m v2 v3 v4 v5 v6 cap r2 r3 r4 r5 r6) (hn12 : n < 12000) (hmc : n = cap → 5 ≤ mc) (hms : n = cap → 60000 ≤ ms)
    (h : ∀ S2 cap' p2 p3 p4 p5 p6, isBox S2 bx (n + 1) (m + amt) (upd v2 n a) (upd v3 n b) (upd v4 n c) (vp_updL v5 n amt) (vp_updL v6 n (m + amt)) cap' p2 p3 p4 p5 p6 → boxFr S S2 bx r2 r3 r4 r5 r6 p2 p3 p4 p5 p6 → cap' = (if n < cap then cap else min (2 * n) 12000) → QR none S2) : tk_M Z mX2_change d mc ms [.ref bx, .int a, .int b, .int c, .long amt] S QR tk_noX := by
  obtain ⟨hr, hn, hm, hnc, hv⟩ := hb
  refine M_X2_change (Nat.le_of_ble_eq_true rfl) (fun E hE => hE _ _ _ _ _ ?_)
  show t_X2_change_0 Z d mc ms QR E [some (.ref bx), some (.int a), some (.int b), some (.int c), some (.long amt), none] [] S 0 0
  have hr0 : isRows (s_J S 3 0 bx (m + amt)) bx cap r2 r3 r4 r5 r6 := hr
  have b1 := hr.1
  have b2 := hr.2.1
  simp [t_X2_change_0, i_aload, i_iload, i_lload, i_istore, i_lstore, i_astore, i_iinc, i_push, i_getI, i_getJ, i_getR, i_putI, i_putJ, i_putR, i_iadd, i_isub, i_imul, i_iand, i_ior, i_ixor, i_ishl, i_ishr, i_iushr, i_idiv, i_irem, i_ladd, i_lsub, i_lmul, i_land, i_lor, i_lxor, i_ldiv, i_lrem, i_lshl, i_lshr, i_lcmp, i_ineg, i_lneg, i_i2l, i_l2i, i_i2b, i_i2c, i_dup, i_pop, i_dup_x1, i_dup2, i_icmp_eq, i_icmp_lt, i_icmp_ge, i_icmp_gt, i_icmp_le, i_if_eq, i_if_lt, i_if_ge, i_if_gt, i_if_le, i_goto, i_ifnull, i_iald, i_bald, i_zald, i_lald, i_aald, i_iast, i_bast, i_zast, i_last, i_alen, i_iret, i_lret, i_aret, i_vret, i_oinit, i_cast, i_tsw, i_cases, i_mmin, i_mmax, i_lmin, i_throw, nb0, nb1, nint, nby0, rf_s, rf_n, of_r, of_n, tk_orf_rf, tk_c2, tk_ls, Value.category, tk_isR_ref, tk_isR_rf, tk_isR_null, b1, b2, hm]
  refine ⟨Nat.zero_le _, b1, b2, by simp, 2, mc, ms, by omega, by omega, by omega, ?_⟩
  refine m_makeRoom_2 (Nat.le_refl 2) hr0 hn hnc hn12 hmc hms (fun S' cap' p2 p3 p4 p5 p6 hS hcap => ?_)
  obtain ⟨hr', hn', hm', hc', hv', fr, mem, mem', new⟩ := hS
  obtain ⟨B1, B2, ⟨a1, a2, a3, a4⟩, ⟨c1, c2, c3, c4⟩, ⟨d1, d2, d3, d4⟩, ⟨e1, e2, e3, e4⟩, ⟨f1, f2, f3, f4⟩, n1, n2, n3, n4, g1, g2⟩ := hr'
  have hn' : q_I S' 3 1 bx = nI n := hn'.trans hn
  have hm' : q_J S' 3 0 bx = m + amt := hm'.trans (by simp [z_q_L_s_I, z_q_K_s_I, z_q_I_s_I, z_q_J_s_I, z_q_R_s_I, z_q_n_s_I, z_q_aI_s_I, z_q_aJ_s_I, z_q_aR_s_I, z_q_L_s_J, z_q_K_s_J, z_q_I_s_J, z_q_J_s_J, z_q_R_s_J, z_q_n_s_J, z_q_aI_s_J, z_q_aJ_s_J, z_q_aR_s_J, z_q_L_s_R, z_q_K_s_R, z_q_I_s_R, z_q_J_s_R, z_q_R_s_R, z_q_n_s_R, z_q_aI_s_R, z_q_aJ_s_R, z_q_aR_s_R, z_q_L_s_aI, z_q_K_s_aI, z_q_I_s_aI, z_q_J_s_aI, z_q_R_s_aI, z_q_n_s_aI, z_q_aI_s_aI, z_q_aJ_s_aI, z_q_aR_s_aI, z_q_L_s_aJ, z_q_K_s_aJ, z_q_I_s_aJ, z_q_J_s_aJ, z_q_R_s_aJ, z_q_n_s_aJ, z_q_aI_s_aJ, z_q_aJ_s_aJ, z_q_aR_s_aJ, z_q_L_s_aR, z_q_K_s_aR, z_q_I_s_aR, z_q_J_s_aR, z_q_R_s_aR, z_q_n_s_aR, z_q_aI_s_aR, z_q_aJ_s_aR, z_q_aR_s_aR, z_q_L_s_new, z_q_K_s_new, z_q_I_s_new, z_q_J_s_new, z_q_R_s_new, z_q_n_s_new, z_q_aI_s_new, z_q_aJ_s_new, z_q_aR_s_new, z_q_L_s_arr, z_q_K_s_arr, z_q_I_s_arr, z_q_J_s_arr, z_q_R_s_arr, z_q_n_s_arr, z_q_aI_s_arr, z_q_aJ_s_arr, z_q_aR_s_arr])
  have z0 : ¬ nI n < 0 := nI_nlt (b := 0) (Nat.zero_le n) (by omega)
  have z : ¬ nI cap' ≤ nI n := nI_ge (by omega) (by omega)
  have z1 : nI n < nI cap' := nI_lt (by omega) (by omega)
  have hin : vp_in (nI n) cap' := vp_in_nI (by omega) (by omega)
  have hcl : (nI n).toNatClampNeg = n := nI_clamp (by omega)
  have n1' := Ne.symm n1
  have n2' := Ne.symm n2
  have n3' := Ne.symm n3
  have n4' := Ne.symm n4
  simp [i_aload, i_iload, i_lload, i_istore, i_lstore, i_astore, i_iinc, i_push, i_getI, i_getJ, i_getR, i_putI, i_putJ, i_putR, i_iadd, i_isub, i_imul, i_iand, i_ior, i_ixor, i_ishl, i_ishr, i_iushr, i_idiv, i_irem, i_ladd, i_lsub, i_lmul, i_land, i_lor, i_lxor, i_ldiv, i_lrem, i_lshl, i_lshr, i_lcmp, i_ineg, i_lneg, i_i2l, i_l2i, i_i2b, i_i2c, i_dup, i_pop, i_dup_x1, i_dup2, i_icmp_eq, i_icmp_lt, i_icmp_ge, i_icmp_gt, i_icmp_le, i_if_eq, i_if_lt, i_if_ge, i_if_gt, i_if_le, i_goto, i_ifnull, i_iald, i_bald, i_zald, i_lald, i_aald, i_iast, i_bast, i_zast, i_last, i_alen, i_iret, i_lret, i_aret, i_vret, i_oinit, i_cast, i_tsw, i_cases, i_mmin, i_mmax, i_lmin, i_throw, nb0, nb1, nint, nby0, rf_s, rf_n, of_r, of_n, tk_orf_rf, tk_c2, tk_ls, Value.category, tk_isR_ref, tk_isR_rf, tk_isR_null, z_q_L_s_I, z_q_K_s_I, z_q_I_s_I, z_q_J_s_I, z_q_R_s_I, z_q_n_s_I, z_q_aI_s_I, z_q_aJ_s_I, z_q_aR_s_I, z_q_L_s_J, z_q_K_s_J, z_q_I_s_J, z_q_J_s_J, z_q_R_s_J, z_q_n_s_J, z_q_aI_s_J, z_q_aJ_s_J, z_q_aR_s_J, z_q_L_s_R, z_q_K_s_R, z_q_I_s_R, z_q_J_s_R, z_q_R_s_R, z_q_n_s_R, z_q_aI_s_R, z_q_aJ_s_R, z_q_aR_s_R, z_q_L_s_aI, z_q_K_s_aI, z_q_I_s_aI, z_q_J_s_aI, z_q_R_s_aI, z_q_n_s_aI, z_q_aI_s_aI, z_q_aJ_s_aI, z_q_aR_s_aI, z_q_L_s_aJ, z_q_K_s_aJ, z_q_I_s_aJ, z_q_J_s_aJ, z_q_R_s_aJ, z_q_n_s_aJ, z_q_aI_s_aJ, z_q_aJ_s_aJ, z_q_aR_s_aJ, z_q_L_s_aR, z_q_K_s_aR, z_q_I_s_aR, z_q_J_s_aR, z_q_R_s_aR, z_q_n_s_aR, z_q_aI_s_aR, z_q_aJ_s_aR, z_q_aR_s_aR, z_q_L_s_new, z_q_K_s_new, z_q_I_s_new, z_q_J_s_new, z_q_R_s_new, z_q_n_s_new, z_q_aI_s_new, z_q_aJ_s_new, z_q_aR_s_new, z_q_L_s_arr, z_q_K_s_arr, z_q_I_s_arr, z_q_J_s_arr, z_q_R_s_arr, z_q_n_s_arr, z_q_aI_s_arr, z_q_aJ_s_arr, z_q_aR_s_arr, B1, B2, a1, a2, a3, a4, c1, c2, c3, c4, d1, d2, d3, d4, e1, e2, e3, e4, f1, f2, f3, f4, hn', hm', z0, z, z1, hin, hcl, n1, n2, n3, n4, n1', n2', n3', n4']
  refine (h _ cap' p2 p3 p4 p5 p6 ⟨⟨?_, ?_, ?_, ?_, ?_, ?_, ?_, n1, n2, n3, n4, g1, g2⟩, ?_, ?_, by omega, fun i hi => ?_⟩ ⟨fun q hq q1 q2 q3 q4 q5 q6 => ?_, fun q hq => mem q hq, fun q hq => mem' q hq, new⟩ hcap)
  · simp [z_q_L_s_I, z_q_K_s_I, z_q_I_s_I, z_q_J_s_I, z_q_R_s_I, z_q_n_s_I, z_q_aI_s_I, z_q_aJ_s_I, z_q_aR_s_I, z_q_L_s_J, z_q_K_s_J, z_q_I_s_J, z_q_J_s_J, z_q_R_s_J, z_q_n_s_J, z_q_aI_s_J, z_q_aJ_s_J, z_q_aR_s_J, z_q_L_s_R, z_q_K_s_R, z_q_I_s_R, z_q_J_s_R, z_q_R_s_R, z_q_n_s_R, z_q_aI_s_R, z_q_aJ_s_R, z_q_aR_s_R, z_q_L_s_aI, z_q_K_s_aI, z_q_I_s_aI, z_q_J_s_aI, z_q_R_s_aI, z_q_n_s_aI, z_q_aI_s_aI, z_q_aJ_s_aI, z_q_aR_s_aI, z_q_L_s_aJ, z_q_K_s_aJ, z_q_I_s_aJ, z_q_J_s_aJ, z_q_R_s_aJ, z_q_n_s_aJ, z_q_aI_s_aJ, z_q_aJ_s_aJ, z_q_aR_s_aJ, z_q_L_s_aR, z_q_K_s_aR, z_q_I_s_aR, z_q_J_s_aR, z_q_R_s_aR, z_q_n_s_aR, z_q_aI_s_aR, z_q_aJ_s_aR, z_q_aR_s_aR, z_q_L_s_new, z_q_K_s_new, z_q_I_s_new, z_q_J_s_new, z_q_R_s_new, z_q_n_s_new, z_q_aI_s_new, z_q_aJ_s_new, z_q_aR_s_new, z_q_L_s_arr, z_q_K_s_arr, z_q_I_s_arr, z_q_J_s_arr, z_q_R_s_arr, z_q_n_s_arr, z_q_aI_s_arr, z_q_aJ_s_arr, z_q_aR_s_arr, B1]
  · simp [z_q_L_s_I, z_q_K_s_I, z_q_I_s_I, z_q_J_s_I, z_q_R_s_I, z_q_n_s_I, z_q_aI_s_I, z_q_aJ_s_I, z_q_aR_s_I, z_q_L_s_J, z_q_K_s_J, z_q_I_s_J, z_q_J_s_J, z_q_R_s_J, z_q_n_s_J, z_q_aI_s_J, z_q_aJ_s_J, z_q_aR_s_J, z_q_L_s_R, z_q_K_s_R, z_q_I_s_R, z_q_J_s_R, z_q_R_s_R, z_q_n_s_R, z_q_aI_s_R, z_q_aJ_s_R, z_q_aR_s_R, z_q_L_s_aI, z_q_K_s_aI, z_q_I_s_aI, z_q_J_s_aI, z_q_R_s_aI, z_q_n_s_aI, z_q_aI_s_aI, z_q_aJ_s_aI, z_q_aR_s_aI, z_q_L_s_aJ, z_q_K_s_aJ, z_q_I_s_aJ, z_q_J_s_aJ, z_q_R_s_aJ, z_q_n_s_aJ, z_q_aI_s_aJ, z_q_aJ_s_aJ, z_q_aR_s_aJ, z_q_L_s_aR, z_q_K_s_aR, z_q_I_s_aR, z_q_J_s_aR, z_q_R_s_aR, z_q_n_s_aR, z_q_aI_s_aR, z_q_aJ_s_aR, z_q_aR_s_aR, z_q_L_s_new, z_q_K_s_new, z_q_I_s_new, z_q_J_s_new, z_q_R_s_new, z_q_n_s_new, z_q_aI_s_new, z_q_aJ_s_new, z_q_aR_s_new, z_q_L_s_arr, z_q_K_s_arr, z_q_I_s_arr, z_q_J_s_arr, z_q_R_s_arr, z_q_n_s_arr, z_q_aI_s_arr, z_q_aJ_s_arr, z_q_aR_s_arr, B2]
  · simp [z_q_L_s_I, z_q_K_s_I, z_q_I_s_I, z_q_J_s_I, z_q_R_s_I, z_q_n_s_I, z_q_aI_s_I, z_q_aJ_s_I, z_q_aR_s_I, z_q_L_s_J, z_q_K_s_J, z_q_I_s_J, z_q_J_s_J, z_q_R_s_J, z_q_n_s_J, z_q_aI_s_J, z_q_aJ_s_J, z_q_aR_s_J, z_q_L_s_R, z_q_K_s_R, z_q_I_s_R, z_q_J_s_R, z_q_R_s_R, z_q_n_s_R, z_q_aI_s_R, z_q_aJ_s_R, z_q_aR_s_R, z_q_L_s_aI, z_q_K_s_aI, z_q_I_s_aI, z_q_J_s_aI, z_q_R_s_aI, z_q_n_s_aI, z_q_aI_s_aI, z_q_aJ_s_aI, z_q_aR_s_aI, z_q_L_s_aJ, z_q_K_s_aJ, z_q_I_s_aJ, z_q_J_s_aJ, z_q_R_s_aJ, z_q_n_s_aJ, z_q_aI_s_aJ, z_q_aJ_s_aJ, z_q_aR_s_aJ, z_q_L_s_aR, z_q_K_s_aR, z_q_I_s_aR, z_q_J_s_aR, z_q_R_s_aR, z_q_n_s_aR, z_q_aI_s_aR, z_q_aJ_s_aR, z_q_aR_s_aR, z_q_L_s_new, z_q_K_s_new, z_q_I_s_new, z_q_J_s_new, z_q_R_s_new, z_q_n_s_new, z_q_aI_s_new, z_q_aJ_s_new, z_q_aR_s_new, z_q_L_s_arr, z_q_K_s_arr, z_q_I_s_arr, z_q_J_s_arr, z_q_R_s_arr, z_q_n_s_arr, z_q_aI_s_arr, z_q_aJ_s_arr, z_q_aR_s_arr, a1, a2, a3, a4]
  · simp [z_q_L_s_I, z_q_K_s_I, z_q_I_s_I, z_q_J_s_I, z_q_R_s_I, z_q_n_s_I, z_q_aI_s_I, z_q_aJ_s_I, z_q_aR_s_I, z_q_L_s_J, z_q_K_s_J, z_q_I_s_J, z_q_J_s_J, z_q_R_s_J, z_q_n_s_J, z_q_aI_s_J, z_q_aJ_s_J, z_q_aR_s_J, z_q_L_s_R, z_q_K_s_R, z_q_I_s_R, z_q_J_s_R, z_q_R_s_R, z_q_n_s_R, z_q_aI_s_R, z_q_aJ_s_R, z_q_aR_s_R, z_q_L_s_aI, z_q_K_s_aI, z_q_I_s_aI, z_q_J_s_aI, z_q_R_s_aI, z_q_n_s_aI, z_q_aI_s_aI, z_q_aJ_s_aI, z_q_aR_s_aI, z_q_L_s_aJ, z_q_K_s_aJ, z_q_I_s_aJ, z_q_J_s_aJ, z_q_R_s_aJ, z_q_n_s_aJ, z_q_aI_s_aJ, z_q_aJ_s_aJ, z_q_aR_s_aJ, z_q_L_s_aR, z_q_K_s_aR, z_q_I_s_aR, z_q_J_s_aR, z_q_R_s_aR, z_q_n_s_aR, z_q_aI_s_aR, z_q_aJ_s_aR, z_q_aR_s_aR, z_q_L_s_new, z_q_K_s_new, z_q_I_s_new, z_q_J_s_new, z_q_R_s_new, z_q_n_s_new, z_q_aI_s_new, z_q_aJ_s_new, z_q_aR_s_new, z_q_L_s_arr, z_q_K_s_arr, z_q_I_s_arr, z_q_J_s_arr, z_q_R_s_arr, z_q_n_s_arr, z_q_aI_s_arr, z_q_aJ_s_arr, z_q_aR_s_arr, c1, c2, c3, c4]
  · simp [z_q_L_s_I, z_q_K_s_I, z_q_I_s_I, z_q_J_s_I, z_q_R_s_I, z_q_n_s_I, z_q_aI_s_I, z_q_aJ_s_I, z_q_aR_s_I, z_q_L_s_J, z_q_K_s_J, z_q_I_s_J, z_q_J_s_J, z_q_R_s_J, z_q_n_s_J, z_q_aI_s_J, z_q_aJ_s_J, z_q_aR_s_J, z_q_L_s_R, z_q_K_s_R, z_q_I_s_R, z_q_J_s_R, z_q_R_s_R, z_q_n_s_R, z_q_aI_s_R, z_q_aJ_s_R, z_q_aR_s_R, z_q_L_s_aI, z_q_K_s_aI, z_q_I_s_aI, z_q_J_s_aI, z_q_R_s_aI, z_q_n_s_aI, z_q_aI_s_aI, z_q_aJ_s_aI, z_q_aR_s_aI, z_q_L_s_aJ, z_q_K_s_aJ, z_q_I_s_aJ, z_q_J_s_aJ, z_q_R_s_aJ, z_q_n_s_aJ, z_q_aI_s_aJ, z_q_aJ_s_aJ, z_q_aR_s_aJ, z_q_L_s_aR, z_q_K_s_aR, z_q_I_s_aR, z_q_J_s_aR, z_q_R_s_aR, z_q_n_s_aR, z_q_aI_s_aR, z_q_aJ_s_aR, z_q_aR_s_aR, z_q_L_s_new, z_q_K_s_new, z_q_I_s_new, z_q_J_s_new, z_q_R_s_new, z_q_n_s_new, z_q_aI_s_new, z_q_aJ_s_new, z_q_aR_s_new, z_q_L_s_arr, z_q_K_s_arr, z_q_I_s_arr, z_q_J_s_arr, z_q_R_s_arr, z_q_n_s_arr, z_q_aI_s_arr, z_q_aJ_s_arr, z_q_aR_s_arr, d1, d2, d3, d4]
  · simp [z_q_L_s_I, z_q_K_s_I, z_q_I_s_I, z_q_J_s_I, z_q_R_s_I, z_q_n_s_I, z_q_aI_s_I, z_q_aJ_s_I, z_q_aR_s_I, z_q_L_s_J, z_q_K_s_J, z_q_I_s_J, z_q_J_s_J, z_q_R_s_J, z_q_n_s_J, z_q_aI_s_J, z_q_aJ_s_J, z_q_aR_s_J, z_q_L_s_R, z_q_K_s_R, z_q_I_s_R, z_q_J_s_R, z_q_R_s_R, z_q_n_s_R, z_q_aI_s_R, z_q_aJ_s_R, z_q_aR_s_R, z_q_L_s_aI, z_q_K_s_aI, z_q_I_s_aI, z_q_J_s_aI, z_q_R_s_aI, z_q_n_s_aI, z_q_aI_s_aI, z_q_aJ_s_aI, z_q_aR_s_aI, z_q_L_s_aJ, z_q_K_s_aJ, z_q_I_s_aJ, z_q_J_s_aJ, z_q_R_s_aJ, z_q_n_s_aJ, z_q_aI_s_aJ, z_q_aJ_s_aJ, z_q_aR_s_aJ, z_q_L_s_aR, z_q_K_s_aR, z_q_I_s_aR, z_q_J_s_aR, z_q_R_s_aR, z_q_n_s_aR, z_q_aI_s_aR, z_q_aJ_s_aR, z_q_aR_s_aR, z_q_L_s_new, z_q_K_s_new, z_q_I_s_new, z_q_J_s_new, z_q_R_s_new, z_q_n_s_new, z_q_aI_s_new, z_q_aJ_s_new, z_q_aR_s_new, z_q_L_s_arr, z_q_K_s_arr, z_q_I_s_arr, z_q_J_s_arr, z_q_R_s_arr, z_q_n_s_arr, z_q_aI_s_arr, z_q_aJ_s_arr, z_q_aR_s_arr, e1, e2, e3, e4]
  · simp [z_q_L_s_I, z_q_K_s_I, z_q_I_s_I, z_q_J_s_I, z_q_R_s_I, z_q_n_s_I, z_q_aI_s_I, z_q_aJ_s_I, z_q_aR_s_I, z_q_L_s_J, z_q_K_s_J, z_q_I_s_J, z_q_J_s_J, z_q_R_s_J, z_q_n_s_J, z_q_aI_s_J, z_q_aJ_s_J, z_q_aR_s_J, z_q_L_s_R, z_q_K_s_R, z_q_I_s_R, z_q_J_s_R, z_q_R_s_R, z_q_n_s_R, z_q_aI_s_R, z_q_aJ_s_R, z_q_aR_s_R, z_q_L_s_aI, z_q_K_s_aI, z_q_I_s_aI, z_q_J_s_aI, z_q_R_s_aI, z_q_n_s_aI, z_q_aI_s_aI, z_q_aJ_s_aI, z_q_aR_s_aI, z_q_L_s_aJ, z_q_K_s_aJ, z_q_I_s_aJ, z_q_J_s_aJ, z_q_R_s_aJ, z_q_n_s_aJ, z_q_aI_s_aJ, z_q_aJ_s_aJ, z_q_aR_s_aJ, z_q_L_s_aR, z_q_K_s_aR, z_q_I_s_aR, z_q_J_s_aR, z_q_R_s_aR, z_q_n_s_aR, z_q_aI_s_aR, z_q_aJ_s_aR, z_q_aR_s_aR, z_q_L_s_new, z_q_K_s_new, z_q_I_s_new, z_q_J_s_new, z_q_R_s_new, z_q_n_s_new, z_q_aI_s_new, z_q_aJ_s_new, z_q_aR_s_new, z_q_L_s_arr, z_q_K_s_arr, z_q_I_s_arr, z_q_J_s_arr, z_q_R_s_arr, z_q_n_s_arr, z_q_aI_s_arr, z_q_aJ_s_arr, z_q_aR_s_arr, f1, f2, f3, f4]
  · simp [z_q_L_s_I, z_q_K_s_I, z_q_I_s_I, z_q_J_s_I, z_q_R_s_I, z_q_n_s_I, z_q_aI_s_I, z_q_aJ_s_I, z_q_aR_s_I, z_q_L_s_J, z_q_K_s_J, z_q_I_s_J, z_q_J_s_J, z_q_R_s_J, z_q_n_s_J, z_q_aI_s_J, z_q_aJ_s_J, z_q_aR_s_J, z_q_L_s_R, z_q_K_s_R, z_q_I_s_R, z_q_J_s_R, z_q_R_s_R, z_q_n_s_R, z_q_aI_s_R, z_q_aJ_s_R, z_q_aR_s_R, z_q_L_s_aI, z_q_K_s_aI, z_q_I_s_aI, z_q_J_s_aI, z_q_R_s_aI, z_q_n_s_aI, z_q_aI_s_aI, z_q_aJ_s_aI, z_q_aR_s_aI, z_q_L_s_aJ, z_q_K_s_aJ, z_q_I_s_aJ, z_q_J_s_aJ, z_q_R_s_aJ, z_q_n_s_aJ, z_q_aI_s_aJ, z_q_aJ_s_aJ, z_q_aR_s_aJ, z_q_L_s_aR, z_q_K_s_aR, z_q_I_s_aR, z_q_J_s_aR, z_q_R_s_aR, z_q_n_s_aR, z_q_aI_s_aR, z_q_aJ_s_aR, z_q_aR_s_aR, z_q_L_s_new, z_q_K_s_new, z_q_I_s_new, z_q_J_s_new, z_q_R_s_new, z_q_n_s_new, z_q_aI_s_new, z_q_aJ_s_new, z_q_aR_s_new, z_q_L_s_arr, z_q_K_s_arr, z_q_I_s_arr, z_q_J_s_arr, z_q_R_s_arr, z_q_n_s_arr, z_q_aI_s_arr, z_q_aJ_s_arr, z_q_aR_s_arr]
    exact nI_add n 1
  · simp [z_q_L_s_I, z_q_K_s_I, z_q_I_s_I, z_q_J_s_I, z_q_R_s_I, z_q_n_s_I, z_q_aI_s_I, z_q_aJ_s_I, z_q_aR_s_I, z_q_L_s_J, z_q_K_s_J, z_q_I_s_J, z_q_J_s_J, z_q_R_s_J, z_q_n_s_J, z_q_aI_s_J, z_q_aJ_s_J, z_q_aR_s_J, z_q_L_s_R, z_q_K_s_R, z_q_I_s_R, z_q_J_s_R, z_q_R_s_R, z_q_n_s_R, z_q_aI_s_R, z_q_aJ_s_R, z_q_aR_s_R, z_q_L_s_aI, z_q_K_s_aI, z_q_I_s_aI, z_q_J_s_aI, z_q_R_s_aI, z_q_n_s_aI, z_q_aI_s_aI, z_q_aJ_s_aI, z_q_aR_s_aI, z_q_L_s_aJ, z_q_K_s_aJ, z_q_I_s_aJ, z_q_J_s_aJ, z_q_R_s_aJ, z_q_n_s_aJ, z_q_aI_s_aJ, z_q_aJ_s_aJ, z_q_aR_s_aJ, z_q_L_s_aR, z_q_K_s_aR, z_q_I_s_aR, z_q_J_s_aR, z_q_R_s_aR, z_q_n_s_aR, z_q_aI_s_aR, z_q_aJ_s_aR, z_q_aR_s_aR, z_q_L_s_new, z_q_K_s_new, z_q_I_s_new, z_q_J_s_new, z_q_R_s_new, z_q_n_s_new, z_q_aI_s_new, z_q_aJ_s_new, z_q_aR_s_new, z_q_L_s_arr, z_q_K_s_arr, z_q_I_s_arr, z_q_J_s_arr, z_q_R_s_arr, z_q_n_s_arr, z_q_aI_s_arr, z_q_aJ_s_arr, z_q_aR_s_arr, hm']
  · have hvv := hv i
    have hvw := hv' i
    by_cases hin2 : i = n
    · subst hin2
      simp [z_q_L_s_I, z_q_K_s_I, z_q_I_s_I, z_q_J_s_I, z_q_R_s_I, z_q_n_s_I, z_q_aI_s_I, z_q_aJ_s_I, z_q_aR_s_I, z_q_L_s_J, z_q_K_s_J, z_q_I_s_J, z_q_J_s_J, z_q_R_s_J, z_q_n_s_J, z_q_aI_s_J, z_q_aJ_s_J, z_q_aR_s_J, z_q_L_s_R, z_q_K_s_R, z_q_I_s_R, z_q_J_s_R, z_q_R_s_R, z_q_n_s_R, z_q_aI_s_R, z_q_aJ_s_R, z_q_aR_s_R, z_q_L_s_aI, z_q_K_s_aI, z_q_I_s_aI, z_q_J_s_aI, z_q_R_s_aI, z_q_n_s_aI, z_q_aI_s_aI, z_q_aJ_s_aI, z_q_aR_s_aI, z_q_L_s_aJ, z_q_K_s_aJ, z_q_I_s_aJ, z_q_J_s_aJ, z_q_R_s_aJ, z_q_n_s_aJ, z_q_aI_s_aJ, z_q_aJ_s_aJ, z_q_aR_s_aJ, z_q_L_s_aR, z_q_K_s_aR, z_q_I_s_aR, z_q_J_s_aR, z_q_R_s_aR, z_q_n_s_aR, z_q_aI_s_aR, z_q_aJ_s_aR, z_q_aR_s_aR, z_q_L_s_new, z_q_K_s_new, z_q_I_s_new, z_q_J_s_new, z_q_R_s_new, z_q_n_s_new, z_q_aI_s_new, z_q_aJ_s_new, z_q_aR_s_new, z_q_L_s_arr, z_q_K_s_arr, z_q_I_s_arr, z_q_J_s_arr, z_q_R_s_arr, z_q_n_s_arr, z_q_aI_s_arr, z_q_aJ_s_arr, z_q_aR_s_arr, n1, n2, n3, n4, n1', n2', n3', n4', upd, vp_updL]
    · obtain ⟨k2, k3, k4, k5, k6⟩ := hv i (by omega)
      obtain ⟨l2, l3, l4, l5, l6⟩ := hv' i (by omega)
      simp [z_q_L_s_I, z_q_K_s_I, z_q_I_s_I, z_q_J_s_I, z_q_R_s_I, z_q_n_s_I, z_q_aI_s_I, z_q_aJ_s_I, z_q_aR_s_I, z_q_L_s_J, z_q_K_s_J, z_q_I_s_J, z_q_J_s_J, z_q_R_s_J, z_q_n_s_J, z_q_aI_s_J, z_q_aJ_s_J, z_q_aR_s_J, z_q_L_s_R, z_q_K_s_R, z_q_I_s_R, z_q_J_s_R, z_q_R_s_R, z_q_n_s_R, z_q_aI_s_R, z_q_aJ_s_R, z_q_aR_s_R, z_q_L_s_aI, z_q_K_s_aI, z_q_I_s_aI, z_q_J_s_aI, z_q_R_s_aI, z_q_n_s_aI, z_q_aI_s_aI, z_q_aJ_s_aI, z_q_aR_s_aI, z_q_L_s_aJ, z_q_K_s_aJ, z_q_I_s_aJ, z_q_J_s_aJ, z_q_R_s_aJ, z_q_n_s_aJ, z_q_aI_s_aJ, z_q_aJ_s_aJ, z_q_aR_s_aJ, z_q_L_s_aR, z_q_K_s_aR, z_q_I_s_aR, z_q_J_s_aR, z_q_R_s_aR, z_q_n_s_aR, z_q_aI_s_aR, z_q_aJ_s_aR, z_q_aR_s_aR, z_q_L_s_new, z_q_K_s_new, z_q_I_s_new, z_q_J_s_new, z_q_R_s_new, z_q_n_s_new, z_q_aI_s_new, z_q_aJ_s_new, z_q_aR_s_new, z_q_L_s_arr, z_q_K_s_arr, z_q_I_s_arr, z_q_J_s_arr, z_q_R_s_arr, z_q_n_s_arr, z_q_aI_s_arr, z_q_aJ_s_arr, z_q_aR_s_arr, n1, n2, n3, n4, n1', n2', n3', n4', upd, vp_updL, hin2]
      exact ⟨l2.trans k2, l3.trans k3, l4.trans k4, l5.trans k5, l6.trans k6⟩
  · have x1 : sameAt S (s_J S 3 0 bx (m + amt)) q := by simp [sameAt, z_q_L_s_I, z_q_K_s_I, z_q_I_s_I, z_q_J_s_I, z_q_R_s_I, z_q_n_s_I, z_q_aI_s_I, z_q_aJ_s_I, z_q_aR_s_I, z_q_L_s_J, z_q_K_s_J, z_q_I_s_J, z_q_J_s_J, z_q_R_s_J, z_q_n_s_J, z_q_aI_s_J, z_q_aJ_s_J, z_q_aR_s_J, z_q_L_s_R, z_q_K_s_R, z_q_I_s_R, z_q_J_s_R, z_q_R_s_R, z_q_n_s_R, z_q_aI_s_R, z_q_aJ_s_R, z_q_aR_s_R, z_q_L_s_aI, z_q_K_s_aI, z_q_I_s_aI, z_q_J_s_aI, z_q_R_s_aI, z_q_n_s_aI, z_q_aI_s_aI, z_q_aJ_s_aI, z_q_aR_s_aI, z_q_L_s_aJ, z_q_K_s_aJ, z_q_I_s_aJ, z_q_J_s_aJ, z_q_R_s_aJ, z_q_n_s_aJ, z_q_aI_s_aJ, z_q_aJ_s_aJ, z_q_aR_s_aJ, z_q_L_s_aR, z_q_K_s_aR, z_q_I_s_aR, z_q_J_s_aR, z_q_R_s_aR, z_q_n_s_aR, z_q_aI_s_aR, z_q_aJ_s_aR, z_q_aR_s_aR, z_q_L_s_new, z_q_K_s_new, z_q_I_s_new, z_q_J_s_new, z_q_R_s_new, z_q_n_s_new, z_q_aI_s_new, z_q_aJ_s_new, z_q_aR_s_new, z_q_L_s_arr, z_q_K_s_arr, z_q_I_s_arr, z_q_J_s_arr, z_q_R_s_arr, z_q_n_s_arr, z_q_aI_s_arr, z_q_aJ_s_arr, z_q_aR_s_arr, q1, hq]
    have x2 := fr q hq q1
    have y : q ≠ p2 ∧ q ≠ p3 ∧ q ≠ p4 ∧ q ≠ p5 ∧ q ≠ p6 := by
      rcases new with ⟨w2, w3, w4, w5, w6⟩ | ⟨w2, w3, w4, w5, w6⟩
      · exact ⟨w2 ▸ q2, w3 ▸ q3, w4 ▸ q4, w5 ▸ q5, w6 ▸ q6⟩
      · exact ⟨fun w => w2 (w ▸ hq), fun w => w3 (w ▸ hq), fun w => w4 (w ▸ hq), fun w => w5 (w ▸ hq), fun w => w6 (w ▸ hq)⟩
    obtain ⟨y2, y3, y4, y5, y6⟩ := y
    refine (x1.trans x2).trans ?_
    simp [sameAt, z_q_L_s_I, z_q_K_s_I, z_q_I_s_I, z_q_J_s_I, z_q_R_s_I, z_q_n_s_I, z_q_aI_s_I, z_q_aJ_s_I, z_q_aR_s_I, z_q_L_s_J, z_q_K_s_J, z_q_I_s_J, z_q_J_s_J, z_q_R_s_J, z_q_n_s_J, z_q_aI_s_J, z_q_aJ_s_J, z_q_aR_s_J, z_q_L_s_R, z_q_K_s_R, z_q_I_s_R, z_q_J_s_R, z_q_R_s_R, z_q_n_s_R, z_q_aI_s_R, z_q_aJ_s_R, z_q_aR_s_R, z_q_L_s_aI, z_q_K_s_aI, z_q_I_s_aI, z_q_J_s_aI, z_q_R_s_aI, z_q_n_s_aI, z_q_aI_s_aI, z_q_aJ_s_aI, z_q_aR_s_aI, z_q_L_s_aJ, z_q_K_s_aJ, z_q_I_s_aJ, z_q_J_s_aJ, z_q_R_s_aJ, z_q_n_s_aJ, z_q_aI_s_aJ, z_q_aJ_s_aJ, z_q_aR_s_aJ, z_q_L_s_aR, z_q_K_s_aR, z_q_I_s_aR, z_q_J_s_aR, z_q_R_s_aR, z_q_n_s_aR, z_q_aI_s_aR, z_q_aJ_s_aR, z_q_aR_s_aR, z_q_L_s_new, z_q_K_s_new, z_q_I_s_new, z_q_J_s_new, z_q_R_s_new, z_q_n_s_new, z_q_aI_s_new, z_q_aJ_s_new, z_q_aR_s_new, z_q_L_s_arr, z_q_K_s_arr, z_q_I_s_arr, z_q_J_s_arr, z_q_R_s_arr, z_q_n_s_arr, z_q_aI_s_arr, z_q_aJ_s_arr, z_q_aR_s_arr, y2, y3, y4, y5, y6, q1, x2.1]
theorem m_chg {bx n r2 r3 r4 r5 r6 : Nat} {m amt : Int64} {v2 v3 v4 : Nat → Int32} {v5 v6 : Nat → Int64} {a b c : Int32} (hd : 3 ≤ d) (hb : isBox S bx n m v2 v3 v4 v5 v6 (capC n) r2 r3 r4 r5 r6) (hn12 : n < 12000) (hmc : 5 * (lvl (n + 1) - lvl n) ≤ mc) (hms : 60000 * (lvl (n + 1) - lvl n) ≤ ms)
    (h : ∀ S2 p2 p3 p4 p5 p6, isBox S2 bx (n + 1) (m + amt) (upd v2 n a) (upd v3 n b) (upd v4 n c) (vp_updL v5 n amt) (vp_updL v6 n (m + amt)) (capC (n + 1)) p2 p3 p4 p5 p6 → boxFr S S2 bx r2 r3 r4 r5 r6 p2 p3 p4 p5 p6 → QR none S2) : tk_M Z mX2_change d mc ms [.ref bx, .int a, .int b, .int c, .long amt] S QR tk_noX := by
  have hge := (capC_ge (n := n) (by omega)).1
  refine m_change_2 hd hb hn12 (fun w => ?_) (fun w => ?_) (fun S2 cap' p2 p3 p4 p5 p6 h1 h2 h3 => ?_)
  · have := (capC_full w hn12).2
    omega
  · have := (capC_full w hn12).2
    omega
  · have e : cap' = capC (n + 1) := by
      by_cases w : n < capC n
      · rw [h3, if_pos w]
        exact (capC_in w).1.symm
      · rw [h3, if_neg w]
        exact (capC_full (by omega) hn12).1.symm
    rw [e] at h1
    exact h S2 p2 p3 p4 p5 p6 h1 h2
end BOX3

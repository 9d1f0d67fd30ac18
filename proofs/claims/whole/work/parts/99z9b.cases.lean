/-! THE LAW'S TURNS, by program -/
section CASES
variable {Z : tk_Z} {d mc ms b L c x m r : Nat} {xs : Nat → Int32} {S : tk_S} {cs ss : Nat} {M : Mt} {E : tk_E} {l5 l6 l7 : Option Value}
set_option maxHeartbeats 4000000 in
theorem k_act (hE : T_Law Z d mc ms b L xs E) (hd : d = 2000) (hmc : mc = 601024) (hms : ms = 7293034) (hst : Z.1.stackTraces = false) (hL : 6 * c + 6 ≤ L) (hL2 : L ≤ 3072) (hZ : Z.2.2.2.2.2.1 ∉ q_L S) (h : LC Z c x m r S cs ss M) (next : NX Z b c x m r E) : E 229 [some (.ref b), some (.ref x), some (.ref m), some (.ref r), some (.int (nI (6 * c))), l5, l6, l7] [] S cs ss := by
  refine hE.2.2.2.2.1 _ _ _ _ _ ?_
  obtain ⟨ρ, R, V, gh, hw, k, hC, hR, hI, hO, hIV, hJV, hk, hkw, hhw, hcs, hss⟩ := h
  have hc : c ≤ 511 := by omega
  have hB := hC.bd
  have r1 := lvl_le (jnM M)
  have r2 := lv_le 600 (jnM M)
  have r3 := lv_le 400 hw
  have e1 : nI (6 * c) + 1 = nI (6 * c + 1) := nI_add (6 * c) 1
  have v1 : vp_in (nI (6 * c + 1)) L := vp_in_nI (by omega) (by omega)
  have k1 : (nI (6 * c + 1)).toNatClampNeg = 6 * c + 1 := nI_clamp (by omega)
  have e2 : nI (6 * c) + 2 = nI (6 * c + 2) := nI_add (6 * c) 2
  have v2 : vp_in (nI (6 * c + 2)) L := vp_in_nI (by omega) (by omega)
  have k2 : (nI (6 * c + 2)).toNatClampNeg = 6 * c + 2 := nI_clamp (by omega)
  have W := fun QR' H => w_act (d := 1900) (mc := 170 + 5 * (lvl (jnM (o_act M (xs (6 * c + 1)) (xs (6 * c + 2))).2.2) - lvl (jnM M))) (ms := 6060 + 60000 * (lvl (jnM (o_act M (xs (6 * c + 1)) (xs (6 * c + 2))).2.2) - lvl (jnM M))) (QR := QR') (n0 := xs (6 * c + 1)) (day := xs (6 * c + 2)) hst (by omega) hZ hC hO hIV hJV hc (Nat.le_refl _) (Nat.le_refl _) H
  have N := n_act (n0 := xs (6 * c + 1)) (day := xs (6 * c + 2)) hIV hJV
  have K := actK_ok (n0 := xs (6 * c + 1)) (day := xs (6 * c + 2)) hB hkw hhw hk
  have Q := fun B' ρ' S' R' QR' hR' H => q_act (Z := Z) (m := m) (d := 1900) (mc := 2 * (lv 400 (actK M (xs (6 * c + 1)) (xs (6 * c + 2)) hw k).1 - lv 400 hw)) (ms := 30000 * (lv 400 (actK M (xs (6 * c + 1)) (xs (6 * c + 2)) hw k).1 - lv 400 hw)) (B := B') (ρ := ρ') (S := S') (R := R') (QR := QR') (V := V) (n0 := xs (6 * c + 1)) (day := xs (6 * c + 2)) (by omega) hR' hI hB hkw hhw hk (Nat.le_refl _) (Nat.le_refl _) H
  generalize o_act M (xs (6 * c + 1)) (xs (6 * c + 2)) = o at N W Q K
  generalize actK M (xs (6 * c + 1)) (xs (6 * c + 2)) hw k = kk at Q K
  obtain ⟨hw', k'⟩ := kk
  dsimp only at Q K
  obtain ⟨K1, K2, K3, K4⟩ := K
  obtain ⟨N1, N2, N3⟩ := N
  have l3 := lv_mono (b := 400) K4
  have r4 := lv_le 400 hw'
  have r5 := lvl_le (jnM o.2.2)
  have hcs1 : cs + (170 + 5 * (lvl (jnM o.2.2) - lvl (jnM M))) + 2 * (lv 400 hw' - lv 400 hw) ≤ 100 + 200 * (c + 1) + 5 * lvl (jnM o.2.2) + 4 * lv 600 (jnM o.2.2) + 2 * lv 400 hw' := by rw [N3]; omega
  have hss1 : ss + (6060 + 60000 * (lvl (jnM o.2.2) - lvl (jnM M))) + 30000 * (lv 400 hw' - lv 400 hw) ≤ 20000 + 7000 * (c + 1) + 60000 * lvl (jnM o.2.2) + 80000 * lv 600 (jnM o.2.2) + 30000 * lv 400 hw' := by rw [N3]; omega
  have rm := room_ok hc hmc hms hcs1 hss1
  simp -implicitDefEqProofs [t_Law_229, i_aload, i_iload, i_lload, i_istore, i_lstore, i_astore, i_iinc, i_push, i_getI, i_getJ, i_getR, i_putI, i_putJ, i_putR, i_iadd, i_isub, i_imul, i_iand, i_ior, i_ixor, i_ishl, i_ishr, i_iushr, i_idiv, i_irem, i_ladd, i_lsub, i_lmul, i_land, i_lor, i_lxor, i_ldiv, i_lrem, i_lshl, i_lshr, i_lcmp, i_ineg, i_lneg, i_i2l, i_l2i, i_i2b, i_i2c, i_dup, i_pop, i_dup_x1, i_dup2, i_icmp_eq, i_icmp_lt, i_icmp_ge, i_icmp_gt, i_icmp_le, i_if_eq, i_if_lt, i_if_ge, i_if_gt, i_if_le, i_goto, i_ifnull, i_iald, i_bald, i_zald, i_lald, i_aald, i_iast, i_bast, i_zast, i_last, i_alen, i_iret, i_lret, i_aret, i_vret, i_oinit, i_cast, i_tsw, i_cases, i_mmin, i_mmax, i_lmin, i_throw, nb0, nb1, nint, nby0, rf_s, rf_n, of_r, of_n, tk_orf_rf, tk_c2, tk_ls, Value.category, tk_isR_ref, tk_isR_rf, tk_isR_null, i_xld, e1, v1, k1, e2, v2, k2]
  refine ⟨by simp, by simp [Value.category], 1900, 170 + 5 * (lvl (jnM o.2.2) - lvl (jnM M)), 6060 + 60000 * (lvl (jnM o.2.2) - lvl (jnM M)), by omega, by omega, by omega, W _ (fun S' ρ' gh' hF hC' hO' hZ' hv => ?_)⟩
  obtain ⟨c1, R1, O1⟩ := midW hF hC' hO' hO hR hZ'
  simp -implicitDefEqProofs [i_aload, i_iload, i_lload, i_istore, i_lstore, i_astore, i_iinc, i_push, i_getI, i_getJ, i_getR, i_putI, i_putJ, i_putR, i_iadd, i_isub, i_imul, i_iand, i_ior, i_ixor, i_ishl, i_ishr, i_iushr, i_idiv, i_irem, i_ladd, i_lsub, i_lmul, i_land, i_lor, i_lxor, i_ldiv, i_lrem, i_lshl, i_lshr, i_lcmp, i_ineg, i_lneg, i_i2l, i_l2i, i_i2b, i_i2c, i_dup, i_pop, i_dup_x1, i_dup2, i_icmp_eq, i_icmp_lt, i_icmp_ge, i_icmp_gt, i_icmp_le, i_if_eq, i_if_lt, i_if_ge, i_if_gt, i_if_le, i_goto, i_ifnull, i_iald, i_bald, i_zald, i_lald, i_aald, i_iast, i_bast, i_zast, i_last, i_alen, i_iret, i_lret, i_aret, i_vret, i_oinit, i_cast, i_tsw, i_cases, i_mmin, i_mmax, i_lmin, i_throw, nb0, nb1, nint, nby0, rf_s, rf_n, of_r, of_n, tk_orf_rf, tk_c2, tk_ls, Value.category, tk_isR_ref, tk_isR_rf, tk_isR_null, i_xld, e1, v1, k1, e2, v2, k2]
  refine ⟨by simp, R1.1.1.1, R1.1.1.2.1, by simp [Value.category], 1900, 2 * (lv 400 hw' - lv 400 hw), 30000 * (lv 400 hw' - lv 400 hw), by omega, by omega, by omega, Q _ _ _ _ _ R1 (fun w hw1 V' hI' h0 S2 ρ2 R2 hR2 => ?_)⟩
  exact finI hE.1 c1 O1 hR2 hI' h0 hv hw1 hZ' N1 N2 K1 K2 K3 hcs1 hss1 hc (by omega) hmc hms next
set_option maxHeartbeats 4000000 in
theorem k_stretch (hE : T_Law Z d mc ms b L xs E) (hd : d = 2000) (hmc : mc = 601024) (hms : ms = 7293034) (hst : Z.1.stackTraces = false) (hL : 6 * c + 6 ≤ L) (hL2 : L ≤ 3072) (hZ : Z.2.2.2.2.2.1 ∉ q_L S) (h : LC Z c x m r S cs ss M) (next : NX Z b c x m r E) : E 310 [some (.ref b), some (.ref x), some (.ref m), some (.ref r), some (.int (nI (6 * c))), l5, l6, l7] [] S cs ss := by
  refine hE.2.2.2.2.2.2.1 _ _ _ _ _ ?_
  obtain ⟨ρ, R, V, gh, hw, k, hC, hR, hI, hO, hIV, hJV, hk, hkw, hhw, hcs, hss⟩ := h
  have hc : c ≤ 511 := by omega
  have hB := hC.bd
  have r1 := lvl_le (jnM M)
  have r2 := lv_le 600 (jnM M)
  have r3 := lv_le 400 hw
  have e1 : nI (6 * c) + 1 = nI (6 * c + 1) := nI_add (6 * c) 1
  have v1 : vp_in (nI (6 * c + 1)) L := vp_in_nI (by omega) (by omega)
  have k1 : (nI (6 * c + 1)).toNatClampNeg = 6 * c + 1 := nI_clamp (by omega)
  have W := fun QR' H => w_stretch (d := 1900) (mc := 170 + 5 * (lvl (jnM (o_stretch M (xs (6 * c + 1))).2.2) - lvl (jnM M))) (ms := 6060 + 60000 * (lvl (jnM (o_stretch M (xs (6 * c + 1))).2.2) - lvl (jnM M))) (QR := QR') (i := xs (6 * c + 1)) hst (by omega) hZ hC hO hIV hJV hc (Nat.le_refl _) (Nat.le_refl _) H
  have N := n_stretch (i := xs (6 * c + 1)) hIV hB hJV hc
  have Q := fun B' ρ' S' R' QR' hR' H => q_stretch (Z := Z) (m := m) (d := 1900) (mc := 4 * (lv 600 (jnM (o_stretch M (xs (6 * c + 1))).2.2) - lv 600 (jnM M))) (ms := 80000 * (lv 600 (jnM (o_stretch M (xs (6 * c + 1))).2.2) - lv 600 (jnM M))) (B := B') (ρ := ρ') (S := S') (R := R') (QR := QR') (V := V) (i := xs (6 * c + 1)) (by omega) hR' hI hIV hB hc hkw (by omega) (Nat.le_refl _) (Nat.le_refl _) H
  generalize (o_stretch M (xs (6 * c + 1))) = o at N W Q
  obtain ⟨N1, N2, N3, N4⟩ := N
  have l1 := lvl_mono N3
  have l2 := lv_mono (b := 600) N3
  have r5 := lvl_le (jnM o.2.2)
  have hcs1 : cs + (170 + 5 * (lvl (jnM o.2.2) - lvl (jnM M))) + 4 * (lv 600 (jnM o.2.2) - lv 600 (jnM M)) ≤ 100 + 200 * (c + 1) + 5 * lvl (jnM o.2.2) + 4 * lv 600 (jnM o.2.2) + 2 * lv 400 hw := by omega
  have hss1 : ss + (6060 + 60000 * (lvl (jnM o.2.2) - lvl (jnM M))) + 80000 * (lv 600 (jnM o.2.2) - lv 600 (jnM M)) ≤ 20000 + 7000 * (c + 1) + 60000 * lvl (jnM o.2.2) + 80000 * lv 600 (jnM o.2.2) + 30000 * lv 400 hw := by omega
  have rm := room_ok hc hmc hms hcs1 hss1
  simp -implicitDefEqProofs [t_Law_310, i_aload, i_iload, i_lload, i_istore, i_lstore, i_astore, i_iinc, i_push, i_getI, i_getJ, i_getR, i_putI, i_putJ, i_putR, i_iadd, i_isub, i_imul, i_iand, i_ior, i_ixor, i_ishl, i_ishr, i_iushr, i_idiv, i_irem, i_ladd, i_lsub, i_lmul, i_land, i_lor, i_lxor, i_ldiv, i_lrem, i_lshl, i_lshr, i_lcmp, i_ineg, i_lneg, i_i2l, i_l2i, i_i2b, i_i2c, i_dup, i_pop, i_dup_x1, i_dup2, i_icmp_eq, i_icmp_lt, i_icmp_ge, i_icmp_gt, i_icmp_le, i_if_eq, i_if_lt, i_if_ge, i_if_gt, i_if_le, i_goto, i_ifnull, i_iald, i_bald, i_zald, i_lald, i_aald, i_iast, i_bast, i_zast, i_last, i_alen, i_iret, i_lret, i_aret, i_vret, i_oinit, i_cast, i_tsw, i_cases, i_mmin, i_mmax, i_lmin, i_throw, nb0, nb1, nint, nby0, rf_s, rf_n, of_r, of_n, tk_orf_rf, tk_c2, tk_ls, Value.category, tk_isR_ref, tk_isR_rf, tk_isR_null, i_xld, e1, v1, k1]
  refine ⟨by simp, by simp [Value.category], 1900, 170 + 5 * (lvl (jnM o.2.2) - lvl (jnM M)), 6060 + 60000 * (lvl (jnM o.2.2) - lvl (jnM M)), by omega, by omega, by omega, W _ (fun S' ρ' gh' hF hC' hO' hZ' hv => ?_)⟩
  obtain ⟨c1, R1, O1⟩ := midW hF hC' hO' hO hR hZ'
  simp -implicitDefEqProofs [i_aload, i_iload, i_lload, i_istore, i_lstore, i_astore, i_iinc, i_push, i_getI, i_getJ, i_getR, i_putI, i_putJ, i_putR, i_iadd, i_isub, i_imul, i_iand, i_ior, i_ixor, i_ishl, i_ishr, i_iushr, i_idiv, i_irem, i_ladd, i_lsub, i_lmul, i_land, i_lor, i_lxor, i_ldiv, i_lrem, i_lshl, i_lshr, i_lcmp, i_ineg, i_lneg, i_i2l, i_l2i, i_i2b, i_i2c, i_dup, i_pop, i_dup_x1, i_dup2, i_icmp_eq, i_icmp_lt, i_icmp_ge, i_icmp_gt, i_icmp_le, i_if_eq, i_if_lt, i_if_ge, i_if_gt, i_if_le, i_goto, i_ifnull, i_iald, i_bald, i_zald, i_lald, i_aald, i_iast, i_bast, i_zast, i_last, i_alen, i_iret, i_lret, i_aret, i_vret, i_oinit, i_cast, i_tsw, i_cases, i_mmin, i_mmax, i_lmin, i_throw, nb0, nb1, nint, nby0, rf_s, rf_n, of_r, of_n, tk_orf_rf, tk_c2, tk_ls, Value.category, tk_isR_ref, tk_isR_rf, tk_isR_null, i_xld, e1, v1, k1]
  refine ⟨by simp, R1.1.1.1, R1.1.1.2.1, by simp [Value.category], 1900, 4 * (lv 600 (jnM o.2.2) - lv 600 (jnM M)), 80000 * (lv 600 (jnM o.2.2) - lv 600 (jnM M)), by omega, by omega, by omega, Q _ _ _ _ _ R1 (fun w hw1 V' hI' h0 S2 ρ2 R2 hR2 => ?_)⟩
  exact finI hE.1 c1 O1 hR2 hI' h0 hv hw1 hZ' N1 N2 (by rw [N4]; exact hk) hkw hhw hcs1 hss1 hc (by omega) hmc hms next
set_option maxHeartbeats 4000000 in
theorem k_gate (hE : T_Law Z d mc ms b L xs E) (hd : d = 2000) (hmc : mc = 601024) (hms : ms = 7293034) (hst : Z.1.stackTraces = false) (hL : 6 * c + 6 ≤ L) (hL2 : L ≤ 3072) (hZ : Z.2.2.2.2.2.1 ∉ q_L S) (h : LC Z c x m r S cs ss M) (next : NX Z b c x m r E) : E 366 [some (.ref b), some (.ref x), some (.ref m), some (.ref r), some (.int (nI (6 * c))), l5, l6, l7] [] S cs ss := by
  refine hE.2.2.2.2.2.2.2.1 _ _ _ _ _ ?_
  obtain ⟨ρ, R, V, gh, hw, k, hC, hR, hI, hO, hIV, hJV, hk, hkw, hhw, hcs, hss⟩ := h
  have hc : c ≤ 511 := by omega
  have hB := hC.bd
  have r1 := lvl_le (jnM M)
  have r2 := lv_le 600 (jnM M)
  have r3 := lv_le 400 hw
  have e1 : nI (6 * c) + 1 = nI (6 * c + 1) := nI_add (6 * c) 1
  have v1 : vp_in (nI (6 * c + 1)) L := vp_in_nI (by omega) (by omega)
  have k1 : (nI (6 * c + 1)).toNatClampNeg = 6 * c + 1 := nI_clamp (by omega)
  have W := fun QR' H => w_gate (d := 1900) (mc := 170 + 5 * (lvl (jnM (o_gate M (xs (6 * c + 1))).2.2) - lvl (jnM M))) (ms := 6060 + 60000 * (lvl (jnM (o_gate M (xs (6 * c + 1))).2.2) - lvl (jnM M))) (QR := QR') (i := xs (6 * c + 1)) hst (by omega) hZ hC hO hIV hJV hc (Nat.le_refl _) (Nat.le_refl _) H
  have N := n_gate (i := xs (6 * c + 1)) hIV hB hJV hc
  have Q := fun B' ρ' S' R' QR' hR' H => q_gate (Z := Z) (m := m) (d := 1900) (mc := 4 * (lv 600 (jnM (o_gate M (xs (6 * c + 1))).2.2) - lv 600 (jnM M))) (ms := 80000 * (lv 600 (jnM (o_gate M (xs (6 * c + 1))).2.2) - lv 600 (jnM M))) (B := B') (ρ := ρ') (S := S') (R := R') (QR := QR') (V := V) (i := xs (6 * c + 1)) (by omega) hR' hI hIV hB hc hkw (by omega) (Nat.le_refl _) (Nat.le_refl _) H
  generalize (o_gate M (xs (6 * c + 1))) = o at N W Q
  obtain ⟨N1, N2, N3, N4⟩ := N
  have l1 := lvl_mono N3
  have l2 := lv_mono (b := 600) N3
  have r5 := lvl_le (jnM o.2.2)
  have hcs1 : cs + (170 + 5 * (lvl (jnM o.2.2) - lvl (jnM M))) + 4 * (lv 600 (jnM o.2.2) - lv 600 (jnM M)) ≤ 100 + 200 * (c + 1) + 5 * lvl (jnM o.2.2) + 4 * lv 600 (jnM o.2.2) + 2 * lv 400 hw := by omega
  have hss1 : ss + (6060 + 60000 * (lvl (jnM o.2.2) - lvl (jnM M))) + 80000 * (lv 600 (jnM o.2.2) - lv 600 (jnM M)) ≤ 20000 + 7000 * (c + 1) + 60000 * lvl (jnM o.2.2) + 80000 * lv 600 (jnM o.2.2) + 30000 * lv 400 hw := by omega
  have rm := room_ok hc hmc hms hcs1 hss1
  simp -implicitDefEqProofs [t_Law_366, i_aload, i_iload, i_lload, i_istore, i_lstore, i_astore, i_iinc, i_push, i_getI, i_getJ, i_getR, i_putI, i_putJ, i_putR, i_iadd, i_isub, i_imul, i_iand, i_ior, i_ixor, i_ishl, i_ishr, i_iushr, i_idiv, i_irem, i_ladd, i_lsub, i_lmul, i_land, i_lor, i_lxor, i_ldiv, i_lrem, i_lshl, i_lshr, i_lcmp, i_ineg, i_lneg, i_i2l, i_l2i, i_i2b, i_i2c, i_dup, i_pop, i_dup_x1, i_dup2, i_icmp_eq, i_icmp_lt, i_icmp_ge, i_icmp_gt, i_icmp_le, i_if_eq, i_if_lt, i_if_ge, i_if_gt, i_if_le, i_goto, i_ifnull, i_iald, i_bald, i_zald, i_lald, i_aald, i_iast, i_bast, i_zast, i_last, i_alen, i_iret, i_lret, i_aret, i_vret, i_oinit, i_cast, i_tsw, i_cases, i_mmin, i_mmax, i_lmin, i_throw, nb0, nb1, nint, nby0, rf_s, rf_n, of_r, of_n, tk_orf_rf, tk_c2, tk_ls, Value.category, tk_isR_ref, tk_isR_rf, tk_isR_null, i_xld, e1, v1, k1]
  refine ⟨by simp, by simp [Value.category], 1900, 170 + 5 * (lvl (jnM o.2.2) - lvl (jnM M)), 6060 + 60000 * (lvl (jnM o.2.2) - lvl (jnM M)), by omega, by omega, by omega, W _ (fun S' ρ' gh' hF hC' hO' hZ' hv => ?_)⟩
  obtain ⟨c1, R1, O1⟩ := midW hF hC' hO' hO hR hZ'
  simp -implicitDefEqProofs [i_aload, i_iload, i_lload, i_istore, i_lstore, i_astore, i_iinc, i_push, i_getI, i_getJ, i_getR, i_putI, i_putJ, i_putR, i_iadd, i_isub, i_imul, i_iand, i_ior, i_ixor, i_ishl, i_ishr, i_iushr, i_idiv, i_irem, i_ladd, i_lsub, i_lmul, i_land, i_lor, i_lxor, i_ldiv, i_lrem, i_lshl, i_lshr, i_lcmp, i_ineg, i_lneg, i_i2l, i_l2i, i_i2b, i_i2c, i_dup, i_pop, i_dup_x1, i_dup2, i_icmp_eq, i_icmp_lt, i_icmp_ge, i_icmp_gt, i_icmp_le, i_if_eq, i_if_lt, i_if_ge, i_if_gt, i_if_le, i_goto, i_ifnull, i_iald, i_bald, i_zald, i_lald, i_aald, i_iast, i_bast, i_zast, i_last, i_alen, i_iret, i_lret, i_aret, i_vret, i_oinit, i_cast, i_tsw, i_cases, i_mmin, i_mmax, i_lmin, i_throw, nb0, nb1, nint, nby0, rf_s, rf_n, of_r, of_n, tk_orf_rf, tk_c2, tk_ls, Value.category, tk_isR_ref, tk_isR_rf, tk_isR_null, i_xld, e1, v1, k1]
  refine ⟨by simp, R1.1.1.1, R1.1.1.2.1, by simp [Value.category], 1900, 4 * (lv 600 (jnM o.2.2) - lv 600 (jnM M)), 80000 * (lv 600 (jnM o.2.2) - lv 600 (jnM M)), by omega, by omega, by omega, Q _ _ _ _ _ R1 (fun w hw1 V' hI' h0 S2 ρ2 R2 hR2 => ?_)⟩
  exact finI hE.1 c1 O1 hR2 hI' h0 hv hw1 hZ' N1 N2 (by rw [N4]; exact hk) hkw hhw hcs1 hss1 hc (by omega) hmc hms next
set_option maxHeartbeats 4000000 in
theorem k_traveller (hE : T_Law Z d mc ms b L xs E) (hd : d = 2000) (hmc : mc = 601024) (hms : ms = 7293034) (hst : Z.1.stackTraces = false) (hL : 6 * c + 6 ≤ L) (hL2 : L ≤ 3072) (hZ : Z.2.2.2.2.2.1 ∉ q_L S) (h : LC Z c x m r S cs ss M) (next : NX Z b c x m r E) : E 422 [some (.ref b), some (.ref x), some (.ref m), some (.ref r), some (.int (nI (6 * c))), l5, l6, l7] [] S cs ss := by
  refine hE.2.2.2.2.2.2.2.2.1 _ _ _ _ _ ?_
  obtain ⟨ρ, R, V, gh, hw, k, hC, hR, hI, hO, hIV, hJV, hk, hkw, hhw, hcs, hss⟩ := h
  have hc : c ≤ 511 := by omega
  have hB := hC.bd
  have r1 := lvl_le (jnM M)
  have r2 := lv_le 600 (jnM M)
  have r3 := lv_le 400 hw
  have e1 : nI (6 * c) + 1 = nI (6 * c + 1) := nI_add (6 * c) 1
  have v1 : vp_in (nI (6 * c + 1)) L := vp_in_nI (by omega) (by omega)
  have k1 : (nI (6 * c + 1)).toNatClampNeg = 6 * c + 1 := nI_clamp (by omega)
  have e2 : nI (6 * c) + 2 = nI (6 * c + 2) := nI_add (6 * c) 2
  have v2 : vp_in (nI (6 * c + 2)) L := vp_in_nI (by omega) (by omega)
  have k2 : (nI (6 * c + 2)).toNatClampNeg = 6 * c + 2 := nI_clamp (by omega)
  have e3 : nI (6 * c) + 3 = nI (6 * c + 3) := nI_add (6 * c) 3
  have v3 : vp_in (nI (6 * c + 3)) L := vp_in_nI (by omega) (by omega)
  have k3 : (nI (6 * c + 3)).toNatClampNeg = 6 * c + 3 := nI_clamp (by omega)
  have e4 : nI (6 * c) + 4 = nI (6 * c + 4) := nI_add (6 * c) 4
  have v4 : vp_in (nI (6 * c + 4)) L := vp_in_nI (by omega) (by omega)
  have k4 : (nI (6 * c + 4)).toNatClampNeg = 6 * c + 4 := nI_clamp (by omega)
  have W := fun QR' H => w_traveller (d := 1900) (mc := 170 + 5 * (lvl (jnM (o_traveller M (xs (6 * c + 1)) (xs (6 * c + 2)) (xs (6 * c + 3)) (xs (6 * c + 4))).2.2) - lvl (jnM M))) (ms := 6060 + 60000 * (lvl (jnM (o_traveller M (xs (6 * c + 1)) (xs (6 * c + 2)) (xs (6 * c + 3)) (xs (6 * c + 4))).2.2) - lvl (jnM M))) (QR := QR') (k0 := xs (6 * c + 1)) (w0 := xs (6 * c + 2)) (b0 := xs (6 * c + 3)) (t0 := xs (6 * c + 4)) hst (by omega) hZ hC hO hIV hJV hc (Nat.le_refl _) (Nat.le_refl _) H
  have N := n_traveller (k0 := xs (6 * c + 1)) (w0 := xs (6 * c + 2)) (b0 := xs (6 * c + 3)) (t0 := xs (6 * c + 4)) hIV hB hJV hc
  have Q := fun B' ρ' S' R' QR' hR' H => q_traveller (Z := Z) (m := m) (d := 1900) (mc := 4 * (lv 600 (jnM (o_traveller M (xs (6 * c + 1)) (xs (6 * c + 2)) (xs (6 * c + 3)) (xs (6 * c + 4))).2.2) - lv 600 (jnM M))) (ms := 80000 * (lv 600 (jnM (o_traveller M (xs (6 * c + 1)) (xs (6 * c + 2)) (xs (6 * c + 3)) (xs (6 * c + 4))).2.2) - lv 600 (jnM M))) (B := B') (ρ := ρ') (S := S') (R := R') (QR := QR') (V := V) (k0 := xs (6 * c + 1)) (w0 := xs (6 * c + 2)) (b0 := xs (6 * c + 3)) (t0 := xs (6 * c + 4)) (by omega) hR' hI hIV hB hc hkw (by omega) (Nat.le_refl _) (Nat.le_refl _) H
  generalize (o_traveller M (xs (6 * c + 1)) (xs (6 * c + 2)) (xs (6 * c + 3)) (xs (6 * c + 4))) = o at N W Q
  obtain ⟨N1, N2, N3, N4⟩ := N
  have l1 := lvl_mono N3
  have l2 := lv_mono (b := 600) N3
  have r5 := lvl_le (jnM o.2.2)
  have hcs1 : cs + (170 + 5 * (lvl (jnM o.2.2) - lvl (jnM M))) + 4 * (lv 600 (jnM o.2.2) - lv 600 (jnM M)) ≤ 100 + 200 * (c + 1) + 5 * lvl (jnM o.2.2) + 4 * lv 600 (jnM o.2.2) + 2 * lv 400 hw := by omega
  have hss1 : ss + (6060 + 60000 * (lvl (jnM o.2.2) - lvl (jnM M))) + 80000 * (lv 600 (jnM o.2.2) - lv 600 (jnM M)) ≤ 20000 + 7000 * (c + 1) + 60000 * lvl (jnM o.2.2) + 80000 * lv 600 (jnM o.2.2) + 30000 * lv 400 hw := by omega
  have rm := room_ok hc hmc hms hcs1 hss1
  simp -implicitDefEqProofs [t_Law_422, i_aload, i_iload, i_lload, i_istore, i_lstore, i_astore, i_iinc, i_push, i_getI, i_getJ, i_getR, i_putI, i_putJ, i_putR, i_iadd, i_isub, i_imul, i_iand, i_ior, i_ixor, i_ishl, i_ishr, i_iushr, i_idiv, i_irem, i_ladd, i_lsub, i_lmul, i_land, i_lor, i_lxor, i_ldiv, i_lrem, i_lshl, i_lshr, i_lcmp, i_ineg, i_lneg, i_i2l, i_l2i, i_i2b, i_i2c, i_dup, i_pop, i_dup_x1, i_dup2, i_icmp_eq, i_icmp_lt, i_icmp_ge, i_icmp_gt, i_icmp_le, i_if_eq, i_if_lt, i_if_ge, i_if_gt, i_if_le, i_goto, i_ifnull, i_iald, i_bald, i_zald, i_lald, i_aald, i_iast, i_bast, i_zast, i_last, i_alen, i_iret, i_lret, i_aret, i_vret, i_oinit, i_cast, i_tsw, i_cases, i_mmin, i_mmax, i_lmin, i_throw, nb0, nb1, nint, nby0, rf_s, rf_n, of_r, of_n, tk_orf_rf, tk_c2, tk_ls, Value.category, tk_isR_ref, tk_isR_rf, tk_isR_null, i_xld, e1, v1, k1, e2, v2, k2, e3, v3, k3, e4, v4, k4]
  refine ⟨by simp, by simp [Value.category], 1900, 170 + 5 * (lvl (jnM o.2.2) - lvl (jnM M)), 6060 + 60000 * (lvl (jnM o.2.2) - lvl (jnM M)), by omega, by omega, by omega, W _ (fun S' ρ' gh' hF hC' hO' hZ' hv => ?_)⟩
  obtain ⟨c1, R1, O1⟩ := midW hF hC' hO' hO hR hZ'
  simp -implicitDefEqProofs [i_aload, i_iload, i_lload, i_istore, i_lstore, i_astore, i_iinc, i_push, i_getI, i_getJ, i_getR, i_putI, i_putJ, i_putR, i_iadd, i_isub, i_imul, i_iand, i_ior, i_ixor, i_ishl, i_ishr, i_iushr, i_idiv, i_irem, i_ladd, i_lsub, i_lmul, i_land, i_lor, i_lxor, i_ldiv, i_lrem, i_lshl, i_lshr, i_lcmp, i_ineg, i_lneg, i_i2l, i_l2i, i_i2b, i_i2c, i_dup, i_pop, i_dup_x1, i_dup2, i_icmp_eq, i_icmp_lt, i_icmp_ge, i_icmp_gt, i_icmp_le, i_if_eq, i_if_lt, i_if_ge, i_if_gt, i_if_le, i_goto, i_ifnull, i_iald, i_bald, i_zald, i_lald, i_aald, i_iast, i_bast, i_zast, i_last, i_alen, i_iret, i_lret, i_aret, i_vret, i_oinit, i_cast, i_tsw, i_cases, i_mmin, i_mmax, i_lmin, i_throw, nb0, nb1, nint, nby0, rf_s, rf_n, of_r, of_n, tk_orf_rf, tk_c2, tk_ls, Value.category, tk_isR_ref, tk_isR_rf, tk_isR_null, i_xld, e1, v1, k1, e2, v2, k2, e3, v3, k3, e4, v4, k4]
  refine ⟨by simp, R1.1.1.1, R1.1.1.2.1, by simp [Value.category], 1900, 4 * (lv 600 (jnM o.2.2) - lv 600 (jnM M)), 80000 * (lv 600 (jnM o.2.2) - lv 600 (jnM M)), by omega, by omega, by omega, Q _ _ _ _ _ R1 (fun w hw1 V' hI' h0 S2 ρ2 R2 hR2 => ?_)⟩
  exact finI hE.1 c1 O1 hR2 hI' h0 hv hw1 hZ' N1 N2 (by rw [N4]; exact hk) hkw hhw hcs1 hss1 hc (by omega) hmc hms next
set_option maxHeartbeats 4000000 in
theorem k_pass (hE : T_Law Z d mc ms b L xs E) (hd : d = 2000) (hmc : mc = 601024) (hms : ms = 7293034) (hst : Z.1.stackTraces = false) (hL : 6 * c + 6 ≤ L) (hL2 : L ≤ 3072) (hZ : Z.2.2.2.2.2.1 ∉ q_L S) (h : LC Z c x m r S cs ss M) (next : NX Z b c x m r E) : E 514 [some (.ref b), some (.ref x), some (.ref m), some (.ref r), some (.int (nI (6 * c))), l5, l6, l7] [] S cs ss := by
  refine hE.2.2.2.2.2.2.2.2.2.1 _ _ _ _ _ ?_
  obtain ⟨ρ, R, V, gh, hw, k, hC, hR, hI, hO, hIV, hJV, hk, hkw, hhw, hcs, hss⟩ := h
  have hc : c ≤ 511 := by omega
  have hB := hC.bd
  have r1 := lvl_le (jnM M)
  have r2 := lv_le 600 (jnM M)
  have r3 := lv_le 400 hw
  have e1 : nI (6 * c) + 1 = nI (6 * c + 1) := nI_add (6 * c) 1
  have v1 : vp_in (nI (6 * c + 1)) L := vp_in_nI (by omega) (by omega)
  have k1 : (nI (6 * c + 1)).toNatClampNeg = 6 * c + 1 := nI_clamp (by omega)
  have e2 : nI (6 * c) + 2 = nI (6 * c + 2) := nI_add (6 * c) 2
  have v2 : vp_in (nI (6 * c + 2)) L := vp_in_nI (by omega) (by omega)
  have k2 : (nI (6 * c + 2)).toNatClampNeg = 6 * c + 2 := nI_clamp (by omega)
  have W := fun QR' H => w_pass (d := 1900) (mc := 170 + 5 * (lvl (jnM (o_pass M (xs (6 * c + 1)) (xs (6 * c + 2))).2.2) - lvl (jnM M))) (ms := 6060 + 60000 * (lvl (jnM (o_pass M (xs (6 * c + 1)) (xs (6 * c + 2))).2.2) - lvl (jnM M))) (QR := QR') (t0 := xs (6 * c + 1)) (g0 := xs (6 * c + 2)) hst (by omega) hZ hC hO hIV hJV hc (Nat.le_refl _) (Nat.le_refl _) H
  have N := n_pass (t0 := xs (6 * c + 1)) (g0 := xs (6 * c + 2)) hIV hB hJV hc
  have Q := fun B' ρ' S' R' QR' hR' H => q_pass (Z := Z) (m := m) (d := 1900) (mc := 4 * (lv 600 (jnM (o_pass M (xs (6 * c + 1)) (xs (6 * c + 2))).2.2) - lv 600 (jnM M))) (ms := 80000 * (lv 600 (jnM (o_pass M (xs (6 * c + 1)) (xs (6 * c + 2))).2.2) - lv 600 (jnM M))) (B := B') (ρ := ρ') (S := S') (R := R') (QR := QR') (V := V) (t0 := xs (6 * c + 1)) (g0 := xs (6 * c + 2)) (by omega) hR' hI hIV hB hc hkw (by omega) (Nat.le_refl _) (Nat.le_refl _) H
  generalize (o_pass M (xs (6 * c + 1)) (xs (6 * c + 2))) = o at N W Q
  obtain ⟨N1, N2, N3, N4⟩ := N
  have l1 := lvl_mono N3
  have l2 := lv_mono (b := 600) N3
  have r5 := lvl_le (jnM o.2.2)
  have hcs1 : cs + (170 + 5 * (lvl (jnM o.2.2) - lvl (jnM M))) + 4 * (lv 600 (jnM o.2.2) - lv 600 (jnM M)) ≤ 100 + 200 * (c + 1) + 5 * lvl (jnM o.2.2) + 4 * lv 600 (jnM o.2.2) + 2 * lv 400 hw := by omega
  have hss1 : ss + (6060 + 60000 * (lvl (jnM o.2.2) - lvl (jnM M))) + 80000 * (lv 600 (jnM o.2.2) - lv 600 (jnM M)) ≤ 20000 + 7000 * (c + 1) + 60000 * lvl (jnM o.2.2) + 80000 * lv 600 (jnM o.2.2) + 30000 * lv 400 hw := by omega
  have rm := room_ok hc hmc hms hcs1 hss1
  simp -implicitDefEqProofs [t_Law_514, i_aload, i_iload, i_lload, i_istore, i_lstore, i_astore, i_iinc, i_push, i_getI, i_getJ, i_getR, i_putI, i_putJ, i_putR, i_iadd, i_isub, i_imul, i_iand, i_ior, i_ixor, i_ishl, i_ishr, i_iushr, i_idiv, i_irem, i_ladd, i_lsub, i_lmul, i_land, i_lor, i_lxor, i_ldiv, i_lrem, i_lshl, i_lshr, i_lcmp, i_ineg, i_lneg, i_i2l, i_l2i, i_i2b, i_i2c, i_dup, i_pop, i_dup_x1, i_dup2, i_icmp_eq, i_icmp_lt, i_icmp_ge, i_icmp_gt, i_icmp_le, i_if_eq, i_if_lt, i_if_ge, i_if_gt, i_if_le, i_goto, i_ifnull, i_iald, i_bald, i_zald, i_lald, i_aald, i_iast, i_bast, i_zast, i_last, i_alen, i_iret, i_lret, i_aret, i_vret, i_oinit, i_cast, i_tsw, i_cases, i_mmin, i_mmax, i_lmin, i_throw, nb0, nb1, nint, nby0, rf_s, rf_n, of_r, of_n, tk_orf_rf, tk_c2, tk_ls, Value.category, tk_isR_ref, tk_isR_rf, tk_isR_null, i_xld, e1, v1, k1, e2, v2, k2]
  refine ⟨by simp, by simp [Value.category], 1900, 170 + 5 * (lvl (jnM o.2.2) - lvl (jnM M)), 6060 + 60000 * (lvl (jnM o.2.2) - lvl (jnM M)), by omega, by omega, by omega, W _ (fun S' ρ' gh' hF hC' hO' hZ' hv => ?_)⟩
  obtain ⟨c1, R1, O1⟩ := midW hF hC' hO' hO hR hZ'
  simp -implicitDefEqProofs [i_aload, i_iload, i_lload, i_istore, i_lstore, i_astore, i_iinc, i_push, i_getI, i_getJ, i_getR, i_putI, i_putJ, i_putR, i_iadd, i_isub, i_imul, i_iand, i_ior, i_ixor, i_ishl, i_ishr, i_iushr, i_idiv, i_irem, i_ladd, i_lsub, i_lmul, i_land, i_lor, i_lxor, i_ldiv, i_lrem, i_lshl, i_lshr, i_lcmp, i_ineg, i_lneg, i_i2l, i_l2i, i_i2b, i_i2c, i_dup, i_pop, i_dup_x1, i_dup2, i_icmp_eq, i_icmp_lt, i_icmp_ge, i_icmp_gt, i_icmp_le, i_if_eq, i_if_lt, i_if_ge, i_if_gt, i_if_le, i_goto, i_ifnull, i_iald, i_bald, i_zald, i_lald, i_aald, i_iast, i_bast, i_zast, i_last, i_alen, i_iret, i_lret, i_aret, i_vret, i_oinit, i_cast, i_tsw, i_cases, i_mmin, i_mmax, i_lmin, i_throw, nb0, nb1, nint, nby0, rf_s, rf_n, of_r, of_n, tk_orf_rf, tk_c2, tk_ls, Value.category, tk_isR_ref, tk_isR_rf, tk_isR_null, i_xld, e1, v1, k1, e2, v2, k2]
  refine ⟨by simp, R1.1.1.1, R1.1.1.2.1, by simp [Value.category], 1900, 4 * (lv 600 (jnM o.2.2) - lv 600 (jnM M)), 80000 * (lv 600 (jnM o.2.2) - lv 600 (jnM M)), by omega, by omega, by omega, Q _ _ _ _ _ R1 (fun w hw1 V' hI' h0 S2 ρ2 R2 hR2 => ?_)⟩
  exact finI hE.1 c1 O1 hR2 hI' h0 hv hw1 hZ' N1 N2 (by rw [N4]; exact hk) hkw hhw hcs1 hss1 hc (by omega) hmc hms next
set_option maxHeartbeats 4000000 in
theorem k_asked (hE : T_Law Z d mc ms b L xs E) (hd : d = 2000) (hmc : mc = 601024) (hms : ms = 7293034) (hst : Z.1.stackTraces = false) (hL : 6 * c + 6 ≤ L) (hL2 : L ≤ 3072) (hZ : Z.2.2.2.2.2.1 ∉ q_L S) (h : LC Z c x m r S cs ss M) (next : NX Z b c x m r E) : E 595 [some (.ref b), some (.ref x), some (.ref m), some (.ref r), some (.int (nI (6 * c))), l5, l6, l7] [] S cs ss := by
  refine hE.2.2.2.2.2.2.2.2.2.2.2.1 _ _ _ _ _ ?_
  obtain ⟨ρ, R, V, gh, hw, k, hC, hR, hI, hO, hIV, hJV, hk, hkw, hhw, hcs, hss⟩ := h
  have hc : c ≤ 511 := by omega
  have hB := hC.bd
  have r1 := lvl_le (jnM M)
  have r2 := lv_le 600 (jnM M)
  have r3 := lv_le 400 hw
  have e1 : nI (6 * c) + 1 = nI (6 * c + 1) := nI_add (6 * c) 1
  have v1 : vp_in (nI (6 * c + 1)) L := vp_in_nI (by omega) (by omega)
  have k1 : (nI (6 * c + 1)).toNatClampNeg = 6 * c + 1 := nI_clamp (by omega)
  have e2 : nI (6 * c) + 2 = nI (6 * c + 2) := nI_add (6 * c) 2
  have v2 : vp_in (nI (6 * c + 2)) L := vp_in_nI (by omega) (by omega)
  have k2 : (nI (6 * c + 2)).toNatClampNeg = 6 * c + 2 := nI_clamp (by omega)
  have e3 : nI (6 * c) + 3 = nI (6 * c + 3) := nI_add (6 * c) 3
  have v3 : vp_in (nI (6 * c + 3)) L := vp_in_nI (by omega) (by omega)
  have k3 : (nI (6 * c + 3)).toNatClampNeg = 6 * c + 3 := nI_clamp (by omega)
  have W := fun QR' H => w_asked (d := 1900) (mc := 170 + 5 * (lvl (jnM (o_asked M (xs (6 * c + 1)) (xs (6 * c + 2)) (xs (6 * c + 3))).2.2) - lvl (jnM M))) (ms := 6060 + 60000 * (lvl (jnM (o_asked M (xs (6 * c + 1)) (xs (6 * c + 2)) (xs (6 * c + 3))).2.2) - lvl (jnM M))) (QR := QR') (i := xs (6 * c + 1)) (t0 := xs (6 * c + 2)) (g0 := xs (6 * c + 3)) hst (by omega) hZ hC hO hIV hJV hc (Nat.le_refl _) (Nat.le_refl _) H
  have N := n_asked (i := xs (6 * c + 1)) (t0 := xs (6 * c + 2)) (g0 := xs (6 * c + 3)) hIV hB hJV hc
  have Q := fun B' ρ' S' R' QR' hR' H => q_asked (Z := Z) (m := m) (d := 1900) (mc := 4 * (lv 600 (jnM (o_asked M (xs (6 * c + 1)) (xs (6 * c + 2)) (xs (6 * c + 3))).2.2) - lv 600 (jnM M))) (ms := 80000 * (lv 600 (jnM (o_asked M (xs (6 * c + 1)) (xs (6 * c + 2)) (xs (6 * c + 3))).2.2) - lv 600 (jnM M))) (B := B') (ρ := ρ') (S := S') (R := R') (QR := QR') (V := V) (i := xs (6 * c + 1)) (t0 := xs (6 * c + 2)) (g0 := xs (6 * c + 3)) (by omega) hR' hI hIV hB hc hkw (by omega) (Nat.le_refl _) (Nat.le_refl _) H
  generalize (o_asked M (xs (6 * c + 1)) (xs (6 * c + 2)) (xs (6 * c + 3))) = o at N W Q
  obtain ⟨N1, N2, N3, N4⟩ := N
  have l1 := lvl_mono N3
  have l2 := lv_mono (b := 600) N3
  have r5 := lvl_le (jnM o.2.2)
  have hcs1 : cs + (170 + 5 * (lvl (jnM o.2.2) - lvl (jnM M))) + 4 * (lv 600 (jnM o.2.2) - lv 600 (jnM M)) ≤ 100 + 200 * (c + 1) + 5 * lvl (jnM o.2.2) + 4 * lv 600 (jnM o.2.2) + 2 * lv 400 hw := by omega
  have hss1 : ss + (6060 + 60000 * (lvl (jnM o.2.2) - lvl (jnM M))) + 80000 * (lv 600 (jnM o.2.2) - lv 600 (jnM M)) ≤ 20000 + 7000 * (c + 1) + 60000 * lvl (jnM o.2.2) + 80000 * lv 600 (jnM o.2.2) + 30000 * lv 400 hw := by omega
  have rm := room_ok hc hmc hms hcs1 hss1
  simp -implicitDefEqProofs [t_Law_595, i_aload, i_iload, i_lload, i_istore, i_lstore, i_astore, i_iinc, i_push, i_getI, i_getJ, i_getR, i_putI, i_putJ, i_putR, i_iadd, i_isub, i_imul, i_iand, i_ior, i_ixor, i_ishl, i_ishr, i_iushr, i_idiv, i_irem, i_ladd, i_lsub, i_lmul, i_land, i_lor, i_lxor, i_ldiv, i_lrem, i_lshl, i_lshr, i_lcmp, i_ineg, i_lneg, i_i2l, i_l2i, i_i2b, i_i2c, i_dup, i_pop, i_dup_x1, i_dup2, i_icmp_eq, i_icmp_lt, i_icmp_ge, i_icmp_gt, i_icmp_le, i_if_eq, i_if_lt, i_if_ge, i_if_gt, i_if_le, i_goto, i_ifnull, i_iald, i_bald, i_zald, i_lald, i_aald, i_iast, i_bast, i_zast, i_last, i_alen, i_iret, i_lret, i_aret, i_vret, i_oinit, i_cast, i_tsw, i_cases, i_mmin, i_mmax, i_lmin, i_throw, nb0, nb1, nint, nby0, rf_s, rf_n, of_r, of_n, tk_orf_rf, tk_c2, tk_ls, Value.category, tk_isR_ref, tk_isR_rf, tk_isR_null, i_xld, e1, v1, k1, e2, v2, k2, e3, v3, k3]
  refine ⟨by simp, by simp [Value.category], 1900, 170 + 5 * (lvl (jnM o.2.2) - lvl (jnM M)), 6060 + 60000 * (lvl (jnM o.2.2) - lvl (jnM M)), by omega, by omega, by omega, W _ (fun S' ρ' gh' hF hC' hO' hZ' hv => ?_)⟩
  obtain ⟨c1, R1, O1⟩ := midW hF hC' hO' hO hR hZ'
  simp -implicitDefEqProofs [i_aload, i_iload, i_lload, i_istore, i_lstore, i_astore, i_iinc, i_push, i_getI, i_getJ, i_getR, i_putI, i_putJ, i_putR, i_iadd, i_isub, i_imul, i_iand, i_ior, i_ixor, i_ishl, i_ishr, i_iushr, i_idiv, i_irem, i_ladd, i_lsub, i_lmul, i_land, i_lor, i_lxor, i_ldiv, i_lrem, i_lshl, i_lshr, i_lcmp, i_ineg, i_lneg, i_i2l, i_l2i, i_i2b, i_i2c, i_dup, i_pop, i_dup_x1, i_dup2, i_icmp_eq, i_icmp_lt, i_icmp_ge, i_icmp_gt, i_icmp_le, i_if_eq, i_if_lt, i_if_ge, i_if_gt, i_if_le, i_goto, i_ifnull, i_iald, i_bald, i_zald, i_lald, i_aald, i_iast, i_bast, i_zast, i_last, i_alen, i_iret, i_lret, i_aret, i_vret, i_oinit, i_cast, i_tsw, i_cases, i_mmin, i_mmax, i_lmin, i_throw, nb0, nb1, nint, nby0, rf_s, rf_n, of_r, of_n, tk_orf_rf, tk_c2, tk_ls, Value.category, tk_isR_ref, tk_isR_rf, tk_isR_null, i_xld, e1, v1, k1, e2, v2, k2, e3, v3, k3]
  refine ⟨by simp, R1.1.1.1, R1.1.1.2.1, by simp [Value.category], 1900, 4 * (lv 600 (jnM o.2.2) - lv 600 (jnM M)), 80000 * (lv 600 (jnM o.2.2) - lv 600 (jnM M)), by omega, by omega, by omega, Q _ _ _ _ _ R1 (fun w hw1 V' hI' h0 S2 ρ2 R2 hR2 => ?_)⟩
  exact finI hE.1 c1 O1 hR2 hI' h0 hv hw1 hZ' N1 N2 (by rw [N4]; exact hk) hkw hhw hcs1 hss1 hc (by omega) hmc hms next
set_option maxHeartbeats 4000000 in
theorem k_force (hE : T_Law Z d mc ms b L xs E) (hd : d = 2000) (hmc : mc = 601024) (hms : ms = 7293034) (hst : Z.1.stackTraces = false) (hL : 6 * c + 6 ≤ L) (hL2 : L ≤ 3072) (hZ : Z.2.2.2.2.2.1 ∉ q_L S) (h : LC Z c x m r S cs ss M) (next : NX Z b c x m r E) : E 675 [some (.ref b), some (.ref x), some (.ref m), some (.ref r), some (.int (nI (6 * c))), l5, l6, l7] [] S cs ss := by
  refine hE.2.2.2.2.2.2.2.2.2.2.2.2.1 _ _ _ _ _ ?_
  obtain ⟨ρ, R, V, gh, hw, k, hC, hR, hI, hO, hIV, hJV, hk, hkw, hhw, hcs, hss⟩ := h
  have hc : c ≤ 511 := by omega
  have hB := hC.bd
  have r1 := lvl_le (jnM M)
  have r2 := lv_le 600 (jnM M)
  have r3 := lv_le 400 hw
  have e1 : nI (6 * c) + 1 = nI (6 * c + 1) := nI_add (6 * c) 1
  have v1 : vp_in (nI (6 * c + 1)) L := vp_in_nI (by omega) (by omega)
  have k1 : (nI (6 * c + 1)).toNatClampNeg = 6 * c + 1 := nI_clamp (by omega)
  have W := fun QR' H => w_force (d := 1900) (mc := 170 + 5 * (lvl (jnM (o_force M (xs (6 * c + 1))).2.2) - lvl (jnM M))) (ms := 6060 + 60000 * (lvl (jnM (o_force M (xs (6 * c + 1))).2.2) - lvl (jnM M))) (QR := QR') (i := xs (6 * c + 1)) hst (by omega) hZ hC hO hIV hJV hc (Nat.le_refl _) (Nat.le_refl _) H
  have N := n_force (i := xs (6 * c + 1)) hIV hB hJV hc
  have Q := fun B' ρ' S' R' QR' hR' H => q_force (Z := Z) (m := m) (d := 1900) (mc := 4 * (lv 600 (jnM (o_force M (xs (6 * c + 1))).2.2) - lv 600 (jnM M))) (ms := 80000 * (lv 600 (jnM (o_force M (xs (6 * c + 1))).2.2) - lv 600 (jnM M))) (B := B') (ρ := ρ') (S := S') (R := R') (QR := QR') (V := V) (i := xs (6 * c + 1)) (by omega) hR' hI hIV hB hc hkw (by omega) (Nat.le_refl _) (Nat.le_refl _) H
  generalize (o_force M (xs (6 * c + 1))) = o at N W Q
  obtain ⟨N1, N2, N3, N4⟩ := N
  have l1 := lvl_mono N3
  have l2 := lv_mono (b := 600) N3
  have r5 := lvl_le (jnM o.2.2)
  have hcs1 : cs + (170 + 5 * (lvl (jnM o.2.2) - lvl (jnM M))) + 4 * (lv 600 (jnM o.2.2) - lv 600 (jnM M)) ≤ 100 + 200 * (c + 1) + 5 * lvl (jnM o.2.2) + 4 * lv 600 (jnM o.2.2) + 2 * lv 400 hw := by omega
  have hss1 : ss + (6060 + 60000 * (lvl (jnM o.2.2) - lvl (jnM M))) + 80000 * (lv 600 (jnM o.2.2) - lv 600 (jnM M)) ≤ 20000 + 7000 * (c + 1) + 60000 * lvl (jnM o.2.2) + 80000 * lv 600 (jnM o.2.2) + 30000 * lv 400 hw := by omega
  have rm := room_ok hc hmc hms hcs1 hss1
  simp -implicitDefEqProofs [t_Law_675, i_aload, i_iload, i_lload, i_istore, i_lstore, i_astore, i_iinc, i_push, i_getI, i_getJ, i_getR, i_putI, i_putJ, i_putR, i_iadd, i_isub, i_imul, i_iand, i_ior, i_ixor, i_ishl, i_ishr, i_iushr, i_idiv, i_irem, i_ladd, i_lsub, i_lmul, i_land, i_lor, i_lxor, i_ldiv, i_lrem, i_lshl, i_lshr, i_lcmp, i_ineg, i_lneg, i_i2l, i_l2i, i_i2b, i_i2c, i_dup, i_pop, i_dup_x1, i_dup2, i_icmp_eq, i_icmp_lt, i_icmp_ge, i_icmp_gt, i_icmp_le, i_if_eq, i_if_lt, i_if_ge, i_if_gt, i_if_le, i_goto, i_ifnull, i_iald, i_bald, i_zald, i_lald, i_aald, i_iast, i_bast, i_zast, i_last, i_alen, i_iret, i_lret, i_aret, i_vret, i_oinit, i_cast, i_tsw, i_cases, i_mmin, i_mmax, i_lmin, i_throw, nb0, nb1, nint, nby0, rf_s, rf_n, of_r, of_n, tk_orf_rf, tk_c2, tk_ls, Value.category, tk_isR_ref, tk_isR_rf, tk_isR_null, i_xld, e1, v1, k1]
  refine ⟨by simp, by simp [Value.category], 1900, 170 + 5 * (lvl (jnM o.2.2) - lvl (jnM M)), 6060 + 60000 * (lvl (jnM o.2.2) - lvl (jnM M)), by omega, by omega, by omega, W _ (fun S' ρ' gh' hF hC' hO' hZ' hv => ?_)⟩
  obtain ⟨c1, R1, O1⟩ := midW hF hC' hO' hO hR hZ'
  simp -implicitDefEqProofs [i_aload, i_iload, i_lload, i_istore, i_lstore, i_astore, i_iinc, i_push, i_getI, i_getJ, i_getR, i_putI, i_putJ, i_putR, i_iadd, i_isub, i_imul, i_iand, i_ior, i_ixor, i_ishl, i_ishr, i_iushr, i_idiv, i_irem, i_ladd, i_lsub, i_lmul, i_land, i_lor, i_lxor, i_ldiv, i_lrem, i_lshl, i_lshr, i_lcmp, i_ineg, i_lneg, i_i2l, i_l2i, i_i2b, i_i2c, i_dup, i_pop, i_dup_x1, i_dup2, i_icmp_eq, i_icmp_lt, i_icmp_ge, i_icmp_gt, i_icmp_le, i_if_eq, i_if_lt, i_if_ge, i_if_gt, i_if_le, i_goto, i_ifnull, i_iald, i_bald, i_zald, i_lald, i_aald, i_iast, i_bast, i_zast, i_last, i_alen, i_iret, i_lret, i_aret, i_vret, i_oinit, i_cast, i_tsw, i_cases, i_mmin, i_mmax, i_lmin, i_throw, nb0, nb1, nint, nby0, rf_s, rf_n, of_r, of_n, tk_orf_rf, tk_c2, tk_ls, Value.category, tk_isR_ref, tk_isR_rf, tk_isR_null, i_xld, e1, v1, k1]
  refine ⟨by simp, R1.1.1.1, R1.1.1.2.1, by simp [Value.category], 1900, 4 * (lv 600 (jnM o.2.2) - lv 600 (jnM M)), 80000 * (lv 600 (jnM o.2.2) - lv 600 (jnM M)), by omega, by omega, by omega, Q _ _ _ _ _ R1 (fun w hw1 V' hI' h0 S2 ρ2 R2 hR2 => ?_)⟩
  exact finI hE.1 c1 O1 hR2 hI' h0 hv hw1 hZ' N1 N2 (by rw [N4]; exact hk) hkw hhw hcs1 hss1 hc (by omega) hmc hms next
set_option maxHeartbeats 4000000 in
theorem k_wait (hE : T_Law Z d mc ms b L xs E) (hd : d = 2000) (hmc : mc = 601024) (hms : ms = 7293034) (hst : Z.1.stackTraces = false) (hL : 6 * c + 6 ≤ L) (hL2 : L ≤ 3072) (hZ : Z.2.2.2.2.2.1 ∉ q_L S) (h : LC Z c x m r S cs ss M) (next : NX Z b c x m r E) : E 731 [some (.ref b), some (.ref x), some (.ref m), some (.ref r), some (.int (nI (6 * c))), l5, l6, l7] [] S cs ss := by
  refine hE.2.2.2.2.2.2.2.2.2.2.2.2.2.1 _ _ _ _ _ ?_
  obtain ⟨ρ, R, V, gh, hw, k, hC, hR, hI, hO, hIV, hJV, hk, hkw, hhw, hcs, hss⟩ := h
  have hc : c ≤ 511 := by omega
  have hB := hC.bd
  have r1 := lvl_le (jnM M)
  have r2 := lv_le 600 (jnM M)
  have r3 := lv_le 400 hw
  have e1 : nI (6 * c) + 1 = nI (6 * c + 1) := nI_add (6 * c) 1
  have v1 : vp_in (nI (6 * c + 1)) L := vp_in_nI (by omega) (by omega)
  have k1 : (nI (6 * c + 1)).toNatClampNeg = 6 * c + 1 := nI_clamp (by omega)
  have W := fun QR' H => w_wait (d := 1900) (mc := 170 + 5 * (lvl (jnM (o_wait M (xs (6 * c + 1))).2.2) - lvl (jnM M))) (ms := 6060 + 60000 * (lvl (jnM (o_wait M (xs (6 * c + 1))).2.2) - lvl (jnM M))) (QR := QR') (i := xs (6 * c + 1)) hst (by omega) hZ hC hO hIV hJV hc (Nat.le_refl _) (Nat.le_refl _) H
  have N := n_wait (i := xs (6 * c + 1)) hIV hB hJV hc
  have Q := fun B' ρ' S' R' QR' hR' H => q_wait (Z := Z) (m := m) (d := 1900) (mc := 4 * (lv 600 (jnM (o_wait M (xs (6 * c + 1))).2.2) - lv 600 (jnM M))) (ms := 80000 * (lv 600 (jnM (o_wait M (xs (6 * c + 1))).2.2) - lv 600 (jnM M))) (B := B') (ρ := ρ') (S := S') (R := R') (QR := QR') (V := V) (i := xs (6 * c + 1)) (by omega) hR' hI hIV hB hc hkw (by omega) (Nat.le_refl _) (Nat.le_refl _) H
  generalize (o_wait M (xs (6 * c + 1))) = o at N W Q
  obtain ⟨N1, N2, N3, N4⟩ := N
  have l1 := lvl_mono N3
  have l2 := lv_mono (b := 600) N3
  have r5 := lvl_le (jnM o.2.2)
  have hcs1 : cs + (170 + 5 * (lvl (jnM o.2.2) - lvl (jnM M))) + 4 * (lv 600 (jnM o.2.2) - lv 600 (jnM M)) ≤ 100 + 200 * (c + 1) + 5 * lvl (jnM o.2.2) + 4 * lv 600 (jnM o.2.2) + 2 * lv 400 hw := by omega
  have hss1 : ss + (6060 + 60000 * (lvl (jnM o.2.2) - lvl (jnM M))) + 80000 * (lv 600 (jnM o.2.2) - lv 600 (jnM M)) ≤ 20000 + 7000 * (c + 1) + 60000 * lvl (jnM o.2.2) + 80000 * lv 600 (jnM o.2.2) + 30000 * lv 400 hw := by omega
  have rm := room_ok hc hmc hms hcs1 hss1
  simp -implicitDefEqProofs [t_Law_731, i_aload, i_iload, i_lload, i_istore, i_lstore, i_astore, i_iinc, i_push, i_getI, i_getJ, i_getR, i_putI, i_putJ, i_putR, i_iadd, i_isub, i_imul, i_iand, i_ior, i_ixor, i_ishl, i_ishr, i_iushr, i_idiv, i_irem, i_ladd, i_lsub, i_lmul, i_land, i_lor, i_lxor, i_ldiv, i_lrem, i_lshl, i_lshr, i_lcmp, i_ineg, i_lneg, i_i2l, i_l2i, i_i2b, i_i2c, i_dup, i_pop, i_dup_x1, i_dup2, i_icmp_eq, i_icmp_lt, i_icmp_ge, i_icmp_gt, i_icmp_le, i_if_eq, i_if_lt, i_if_ge, i_if_gt, i_if_le, i_goto, i_ifnull, i_iald, i_bald, i_zald, i_lald, i_aald, i_iast, i_bast, i_zast, i_last, i_alen, i_iret, i_lret, i_aret, i_vret, i_oinit, i_cast, i_tsw, i_cases, i_mmin, i_mmax, i_lmin, i_throw, nb0, nb1, nint, nby0, rf_s, rf_n, of_r, of_n, tk_orf_rf, tk_c2, tk_ls, Value.category, tk_isR_ref, tk_isR_rf, tk_isR_null, i_xld, e1, v1, k1]
  refine ⟨by simp, by simp [Value.category], 1900, 170 + 5 * (lvl (jnM o.2.2) - lvl (jnM M)), 6060 + 60000 * (lvl (jnM o.2.2) - lvl (jnM M)), by omega, by omega, by omega, W _ (fun S' ρ' gh' hF hC' hO' hZ' hv => ?_)⟩
  obtain ⟨c1, R1, O1⟩ := midW hF hC' hO' hO hR hZ'
  simp -implicitDefEqProofs [i_aload, i_iload, i_lload, i_istore, i_lstore, i_astore, i_iinc, i_push, i_getI, i_getJ, i_getR, i_putI, i_putJ, i_putR, i_iadd, i_isub, i_imul, i_iand, i_ior, i_ixor, i_ishl, i_ishr, i_iushr, i_idiv, i_irem, i_ladd, i_lsub, i_lmul, i_land, i_lor, i_lxor, i_ldiv, i_lrem, i_lshl, i_lshr, i_lcmp, i_ineg, i_lneg, i_i2l, i_l2i, i_i2b, i_i2c, i_dup, i_pop, i_dup_x1, i_dup2, i_icmp_eq, i_icmp_lt, i_icmp_ge, i_icmp_gt, i_icmp_le, i_if_eq, i_if_lt, i_if_ge, i_if_gt, i_if_le, i_goto, i_ifnull, i_iald, i_bald, i_zald, i_lald, i_aald, i_iast, i_bast, i_zast, i_last, i_alen, i_iret, i_lret, i_aret, i_vret, i_oinit, i_cast, i_tsw, i_cases, i_mmin, i_mmax, i_lmin, i_throw, nb0, nb1, nint, nby0, rf_s, rf_n, of_r, of_n, tk_orf_rf, tk_c2, tk_ls, Value.category, tk_isR_ref, tk_isR_rf, tk_isR_null, i_xld, e1, v1, k1]
  refine ⟨by simp, R1.1.1.1, R1.1.1.2.1, by simp [Value.category], 1900, 4 * (lv 600 (jnM o.2.2) - lv 600 (jnM M)), 80000 * (lv 600 (jnM o.2.2) - lv 600 (jnM M)), by omega, by omega, by omega, Q _ _ _ _ _ R1 (fun w hw1 V' hI' h0 S2 ρ2 R2 hR2 => ?_)⟩
  exact finI hE.1 c1 O1 hR2 hI' h0 hv hw1 hZ' N1 N2 (by rw [N4]; exact hk) hkw hhw hcs1 hss1 hc (by omega) hmc hms next
set_option maxHeartbeats 4000000 in
theorem k_mend (hE : T_Law Z d mc ms b L xs E) (hd : d = 2000) (hmc : mc = 601024) (hms : ms = 7293034) (hst : Z.1.stackTraces = false) (hL : 6 * c + 6 ≤ L) (hL2 : L ≤ 3072) (hZ : Z.2.2.2.2.2.1 ∉ q_L S) (h : LC Z c x m r S cs ss M) (next : NX Z b c x m r E) : E 823 [some (.ref b), some (.ref x), some (.ref m), some (.ref r), some (.int (nI (6 * c))), l5, l6, l7] [] S cs ss := by
  refine hE.2.2.2.2.2.2.2.2.2.2.2.2.2.2.2.1 _ _ _ _ _ ?_
  obtain ⟨ρ, R, V, gh, hw, k, hC, hR, hI, hO, hIV, hJV, hk, hkw, hhw, hcs, hss⟩ := h
  have hc : c ≤ 511 := by omega
  have hB := hC.bd
  have r1 := lvl_le (jnM M)
  have r2 := lv_le 600 (jnM M)
  have r3 := lv_le 400 hw
  have e1 : nI (6 * c) + 1 = nI (6 * c + 1) := nI_add (6 * c) 1
  have v1 : vp_in (nI (6 * c + 1)) L := vp_in_nI (by omega) (by omega)
  have k1 : (nI (6 * c + 1)).toNatClampNeg = 6 * c + 1 := nI_clamp (by omega)
  have W := fun QR' H => w_mend (d := 1900) (mc := 170 + 5 * (lvl (jnM (o_mend M (xs (6 * c + 1))).2.2) - lvl (jnM M))) (ms := 6060 + 60000 * (lvl (jnM (o_mend M (xs (6 * c + 1))).2.2) - lvl (jnM M))) (QR := QR') (i := xs (6 * c + 1)) hst (by omega) hZ hC hO hIV hJV hc (Nat.le_refl _) (Nat.le_refl _) H
  have N := n_mend (i := xs (6 * c + 1)) hIV hB hJV hc
  have Q := fun B' ρ' S' R' QR' hR' H => q_mend (Z := Z) (m := m) (d := 1900) (mc := 4 * (lv 600 (jnM (o_mend M (xs (6 * c + 1))).2.2) - lv 600 (jnM M))) (ms := 80000 * (lv 600 (jnM (o_mend M (xs (6 * c + 1))).2.2) - lv 600 (jnM M))) (B := B') (ρ := ρ') (S := S') (R := R') (QR := QR') (V := V) (i := xs (6 * c + 1)) (by omega) hR' hI hIV hB hc hkw (by omega) (Nat.le_refl _) (Nat.le_refl _) H
  generalize (o_mend M (xs (6 * c + 1))) = o at N W Q
  obtain ⟨N1, N2, N3, N4⟩ := N
  have l1 := lvl_mono N3
  have l2 := lv_mono (b := 600) N3
  have r5 := lvl_le (jnM o.2.2)
  have hcs1 : cs + (170 + 5 * (lvl (jnM o.2.2) - lvl (jnM M))) + 4 * (lv 600 (jnM o.2.2) - lv 600 (jnM M)) ≤ 100 + 200 * (c + 1) + 5 * lvl (jnM o.2.2) + 4 * lv 600 (jnM o.2.2) + 2 * lv 400 hw := by omega
  have hss1 : ss + (6060 + 60000 * (lvl (jnM o.2.2) - lvl (jnM M))) + 80000 * (lv 600 (jnM o.2.2) - lv 600 (jnM M)) ≤ 20000 + 7000 * (c + 1) + 60000 * lvl (jnM o.2.2) + 80000 * lv 600 (jnM o.2.2) + 30000 * lv 400 hw := by omega
  have rm := room_ok hc hmc hms hcs1 hss1
  simp -implicitDefEqProofs [t_Law_823, i_aload, i_iload, i_lload, i_istore, i_lstore, i_astore, i_iinc, i_push, i_getI, i_getJ, i_getR, i_putI, i_putJ, i_putR, i_iadd, i_isub, i_imul, i_iand, i_ior, i_ixor, i_ishl, i_ishr, i_iushr, i_idiv, i_irem, i_ladd, i_lsub, i_lmul, i_land, i_lor, i_lxor, i_ldiv, i_lrem, i_lshl, i_lshr, i_lcmp, i_ineg, i_lneg, i_i2l, i_l2i, i_i2b, i_i2c, i_dup, i_pop, i_dup_x1, i_dup2, i_icmp_eq, i_icmp_lt, i_icmp_ge, i_icmp_gt, i_icmp_le, i_if_eq, i_if_lt, i_if_ge, i_if_gt, i_if_le, i_goto, i_ifnull, i_iald, i_bald, i_zald, i_lald, i_aald, i_iast, i_bast, i_zast, i_last, i_alen, i_iret, i_lret, i_aret, i_vret, i_oinit, i_cast, i_tsw, i_cases, i_mmin, i_mmax, i_lmin, i_throw, nb0, nb1, nint, nby0, rf_s, rf_n, of_r, of_n, tk_orf_rf, tk_c2, tk_ls, Value.category, tk_isR_ref, tk_isR_rf, tk_isR_null, i_xld, e1, v1, k1]
  refine ⟨by simp, by simp [Value.category], 1900, 170 + 5 * (lvl (jnM o.2.2) - lvl (jnM M)), 6060 + 60000 * (lvl (jnM o.2.2) - lvl (jnM M)), by omega, by omega, by omega, W _ (fun S' ρ' gh' hF hC' hO' hZ' hv => ?_)⟩
  obtain ⟨c1, R1, O1⟩ := midW hF hC' hO' hO hR hZ'
  simp -implicitDefEqProofs [i_aload, i_iload, i_lload, i_istore, i_lstore, i_astore, i_iinc, i_push, i_getI, i_getJ, i_getR, i_putI, i_putJ, i_putR, i_iadd, i_isub, i_imul, i_iand, i_ior, i_ixor, i_ishl, i_ishr, i_iushr, i_idiv, i_irem, i_ladd, i_lsub, i_lmul, i_land, i_lor, i_lxor, i_ldiv, i_lrem, i_lshl, i_lshr, i_lcmp, i_ineg, i_lneg, i_i2l, i_l2i, i_i2b, i_i2c, i_dup, i_pop, i_dup_x1, i_dup2, i_icmp_eq, i_icmp_lt, i_icmp_ge, i_icmp_gt, i_icmp_le, i_if_eq, i_if_lt, i_if_ge, i_if_gt, i_if_le, i_goto, i_ifnull, i_iald, i_bald, i_zald, i_lald, i_aald, i_iast, i_bast, i_zast, i_last, i_alen, i_iret, i_lret, i_aret, i_vret, i_oinit, i_cast, i_tsw, i_cases, i_mmin, i_mmax, i_lmin, i_throw, nb0, nb1, nint, nby0, rf_s, rf_n, of_r, of_n, tk_orf_rf, tk_c2, tk_ls, Value.category, tk_isR_ref, tk_isR_rf, tk_isR_null, i_xld, e1, v1, k1]
  refine ⟨by simp, R1.1.1.1, R1.1.1.2.1, by simp [Value.category], 1900, 4 * (lv 600 (jnM o.2.2) - lv 600 (jnM M)), 80000 * (lv 600 (jnM o.2.2) - lv 600 (jnM M)), by omega, by omega, by omega, Q _ _ _ _ _ R1 (fun w hw1 V' hI' h0 S2 ρ2 R2 hR2 => ?_)⟩
  exact finI hE.1 c1 O1 hR2 hI' h0 hv hw1 hZ' N1 N2 (by rw [N4]; exact hk) hkw hhw hcs1 hss1 hc (by omega) hmc hms next
set_option maxHeartbeats 4000000 in
theorem k_farmer (hE : T_Law Z d mc ms b L xs E) (hd : d = 2000) (hmc : mc = 601024) (hms : ms = 7293034) (hst : Z.1.stackTraces = false) (hL : 6 * c + 6 ≤ L) (hL2 : L ≤ 3072) (hZ : Z.2.2.2.2.2.1 ∉ q_L S) (h : LC Z c x m r S cs ss M) (next : NX Z b c x m r E) : E 879 [some (.ref b), some (.ref x), some (.ref m), some (.ref r), some (.int (nI (6 * c))), l5, l6, l7] [] S cs ss := by
  refine hE.2.2.2.2.2.2.2.2.2.2.2.2.2.2.2.2.1 _ _ _ _ _ ?_
  obtain ⟨ρ, R, V, gh, hw, k, hC, hR, hI, hO, hIV, hJV, hk, hkw, hhw, hcs, hss⟩ := h
  have hc : c ≤ 511 := by omega
  have hB := hC.bd
  have r1 := lvl_le (jnM M)
  have r2 := lv_le 600 (jnM M)
  have r3 := lv_le 400 hw
  have e1 : nI (6 * c) + 1 = nI (6 * c + 1) := nI_add (6 * c) 1
  have v1 : vp_in (nI (6 * c + 1)) L := vp_in_nI (by omega) (by omega)
  have k1 : (nI (6 * c + 1)).toNatClampNeg = 6 * c + 1 := nI_clamp (by omega)
  have W := fun QR' H => w_farmer (d := 1900) (mc := 170 + 5 * (lvl (jnM (o_farmer M (xs (6 * c + 1))).2.2) - lvl (jnM M))) (ms := 6060 + 60000 * (lvl (jnM (o_farmer M (xs (6 * c + 1))).2.2) - lvl (jnM M))) (QR := QR') (i := xs (6 * c + 1)) hst (by omega) hZ hC hO hIV hJV hc (Nat.le_refl _) (Nat.le_refl _) H
  have N := n_farmer (i := xs (6 * c + 1)) hIV hB hJV hc
  have Q := fun B' ρ' S' R' QR' hR' H => q_farmer (Z := Z) (m := m) (d := 1900) (mc := 4 * (lv 600 (jnM (o_farmer M (xs (6 * c + 1))).2.2) - lv 600 (jnM M))) (ms := 80000 * (lv 600 (jnM (o_farmer M (xs (6 * c + 1))).2.2) - lv 600 (jnM M))) (B := B') (ρ := ρ') (S := S') (R := R') (QR := QR') (V := V) (i := xs (6 * c + 1)) (by omega) hR' hI hIV hB hc hkw (by omega) (Nat.le_refl _) (Nat.le_refl _) H
  generalize (o_farmer M (xs (6 * c + 1))) = o at N W Q
  obtain ⟨N1, N2, N3, N4⟩ := N
  have l1 := lvl_mono N3
  have l2 := lv_mono (b := 600) N3
  have r5 := lvl_le (jnM o.2.2)
  have hcs1 : cs + (170 + 5 * (lvl (jnM o.2.2) - lvl (jnM M))) + 4 * (lv 600 (jnM o.2.2) - lv 600 (jnM M)) ≤ 100 + 200 * (c + 1) + 5 * lvl (jnM o.2.2) + 4 * lv 600 (jnM o.2.2) + 2 * lv 400 hw := by omega
  have hss1 : ss + (6060 + 60000 * (lvl (jnM o.2.2) - lvl (jnM M))) + 80000 * (lv 600 (jnM o.2.2) - lv 600 (jnM M)) ≤ 20000 + 7000 * (c + 1) + 60000 * lvl (jnM o.2.2) + 80000 * lv 600 (jnM o.2.2) + 30000 * lv 400 hw := by omega
  have rm := room_ok hc hmc hms hcs1 hss1
  simp -implicitDefEqProofs [t_Law_879, i_aload, i_iload, i_lload, i_istore, i_lstore, i_astore, i_iinc, i_push, i_getI, i_getJ, i_getR, i_putI, i_putJ, i_putR, i_iadd, i_isub, i_imul, i_iand, i_ior, i_ixor, i_ishl, i_ishr, i_iushr, i_idiv, i_irem, i_ladd, i_lsub, i_lmul, i_land, i_lor, i_lxor, i_ldiv, i_lrem, i_lshl, i_lshr, i_lcmp, i_ineg, i_lneg, i_i2l, i_l2i, i_i2b, i_i2c, i_dup, i_pop, i_dup_x1, i_dup2, i_icmp_eq, i_icmp_lt, i_icmp_ge, i_icmp_gt, i_icmp_le, i_if_eq, i_if_lt, i_if_ge, i_if_gt, i_if_le, i_goto, i_ifnull, i_iald, i_bald, i_zald, i_lald, i_aald, i_iast, i_bast, i_zast, i_last, i_alen, i_iret, i_lret, i_aret, i_vret, i_oinit, i_cast, i_tsw, i_cases, i_mmin, i_mmax, i_lmin, i_throw, nb0, nb1, nint, nby0, rf_s, rf_n, of_r, of_n, tk_orf_rf, tk_c2, tk_ls, Value.category, tk_isR_ref, tk_isR_rf, tk_isR_null, i_xld, e1, v1, k1]
  refine ⟨by simp, by simp [Value.category], 1900, 170 + 5 * (lvl (jnM o.2.2) - lvl (jnM M)), 6060 + 60000 * (lvl (jnM o.2.2) - lvl (jnM M)), by omega, by omega, by omega, W _ (fun S' ρ' gh' hF hC' hO' hZ' hv => ?_)⟩
  obtain ⟨c1, R1, O1⟩ := midW hF hC' hO' hO hR hZ'
  simp -implicitDefEqProofs [i_aload, i_iload, i_lload, i_istore, i_lstore, i_astore, i_iinc, i_push, i_getI, i_getJ, i_getR, i_putI, i_putJ, i_putR, i_iadd, i_isub, i_imul, i_iand, i_ior, i_ixor, i_ishl, i_ishr, i_iushr, i_idiv, i_irem, i_ladd, i_lsub, i_lmul, i_land, i_lor, i_lxor, i_ldiv, i_lrem, i_lshl, i_lshr, i_lcmp, i_ineg, i_lneg, i_i2l, i_l2i, i_i2b, i_i2c, i_dup, i_pop, i_dup_x1, i_dup2, i_icmp_eq, i_icmp_lt, i_icmp_ge, i_icmp_gt, i_icmp_le, i_if_eq, i_if_lt, i_if_ge, i_if_gt, i_if_le, i_goto, i_ifnull, i_iald, i_bald, i_zald, i_lald, i_aald, i_iast, i_bast, i_zast, i_last, i_alen, i_iret, i_lret, i_aret, i_vret, i_oinit, i_cast, i_tsw, i_cases, i_mmin, i_mmax, i_lmin, i_throw, nb0, nb1, nint, nby0, rf_s, rf_n, of_r, of_n, tk_orf_rf, tk_c2, tk_ls, Value.category, tk_isR_ref, tk_isR_rf, tk_isR_null, i_xld, e1, v1, k1]
  refine ⟨by simp, R1.1.1.1, R1.1.1.2.1, by simp [Value.category], 1900, 4 * (lv 600 (jnM o.2.2) - lv 600 (jnM M)), 80000 * (lv 600 (jnM o.2.2) - lv 600 (jnM M)), by omega, by omega, by omega, Q _ _ _ _ _ R1 (fun w hw1 V' hI' h0 S2 ρ2 R2 hR2 => ?_)⟩
  exact finI hE.1 c1 O1 hR2 hI' h0 hv hw1 hZ' N1 N2 (by rw [N4]; exact hk) hkw hhw hcs1 hss1 hc (by omega) hmc hms next
set_option maxHeartbeats 4000000 in
theorem k_bid (hE : T_Law Z d mc ms b L xs E) (hd : d = 2000) (hmc : mc = 601024) (hms : ms = 7293034) (hst : Z.1.stackTraces = false) (hL : 6 * c + 6 ≤ L) (hL2 : L ≤ 3072) (hZ : Z.2.2.2.2.2.1 ∉ q_L S) (h : LC Z c x m r S cs ss M) (next : NX Z b c x m r E) : E 935 [some (.ref b), some (.ref x), some (.ref m), some (.ref r), some (.int (nI (6 * c))), l5, l6, l7] [] S cs ss := by
  refine hE.2.2.2.2.2.2.2.2.2.2.2.2.2.2.2.2.2.1 _ _ _ _ _ ?_
  obtain ⟨ρ, R, V, gh, hw, k, hC, hR, hI, hO, hIV, hJV, hk, hkw, hhw, hcs, hss⟩ := h
  have hc : c ≤ 511 := by omega
  have hB := hC.bd
  have r1 := lvl_le (jnM M)
  have r2 := lv_le 600 (jnM M)
  have r3 := lv_le 400 hw
  have e1 : nI (6 * c) + 1 = nI (6 * c + 1) := nI_add (6 * c) 1
  have v1 : vp_in (nI (6 * c + 1)) L := vp_in_nI (by omega) (by omega)
  have k1 : (nI (6 * c + 1)).toNatClampNeg = 6 * c + 1 := nI_clamp (by omega)
  have e2 : nI (6 * c) + 2 = nI (6 * c + 2) := nI_add (6 * c) 2
  have v2 : vp_in (nI (6 * c + 2)) L := vp_in_nI (by omega) (by omega)
  have k2 : (nI (6 * c + 2)).toNatClampNeg = 6 * c + 2 := nI_clamp (by omega)
  have e3 : nI (6 * c) + 3 = nI (6 * c + 3) := nI_add (6 * c) 3
  have v3 : vp_in (nI (6 * c + 3)) L := vp_in_nI (by omega) (by omega)
  have k3 : (nI (6 * c + 3)).toNatClampNeg = 6 * c + 3 := nI_clamp (by omega)
  have e4 : nI (6 * c) + 4 = nI (6 * c + 4) := nI_add (6 * c) 4
  have v4 : vp_in (nI (6 * c + 4)) L := vp_in_nI (by omega) (by omega)
  have k4 : (nI (6 * c + 4)).toNatClampNeg = 6 * c + 4 := nI_clamp (by omega)
  have W := fun QR' H => w_bid (d := 1900) (mc := 170 + 5 * (lvl (jnM (o_bid M (xs (6 * c + 1)) (xs (6 * c + 2)) (xs (6 * c + 3)) (xs (6 * c + 4))).2.2) - lvl (jnM M))) (ms := 6060 + 60000 * (lvl (jnM (o_bid M (xs (6 * c + 1)) (xs (6 * c + 2)) (xs (6 * c + 3)) (xs (6 * c + 4))).2.2) - lvl (jnM M))) (QR := QR') (i := xs (6 * c + 1)) (f0 := xs (6 * c + 2)) (r0 := xs (6 * c + 3)) (s0 := xs (6 * c + 4)) hst (by omega) hZ hC hO hIV hJV hc (Nat.le_refl _) (Nat.le_refl _) H
  have N := n_bid (i := xs (6 * c + 1)) (f0 := xs (6 * c + 2)) (r0 := xs (6 * c + 3)) (s0 := xs (6 * c + 4)) hIV hB hJV hc
  have Q := fun B' ρ' S' R' QR' hR' H => q_bid (Z := Z) (m := m) (d := 1900) (mc := 4 * (lv 600 (jnM (o_bid M (xs (6 * c + 1)) (xs (6 * c + 2)) (xs (6 * c + 3)) (xs (6 * c + 4))).2.2) - lv 600 (jnM M))) (ms := 80000 * (lv 600 (jnM (o_bid M (xs (6 * c + 1)) (xs (6 * c + 2)) (xs (6 * c + 3)) (xs (6 * c + 4))).2.2) - lv 600 (jnM M))) (B := B') (ρ := ρ') (S := S') (R := R') (QR := QR') (V := V) (i := xs (6 * c + 1)) (f0 := xs (6 * c + 2)) (r0 := xs (6 * c + 3)) (s0 := xs (6 * c + 4)) (by omega) hR' hI hIV hB hc hkw (by omega) (Nat.le_refl _) (Nat.le_refl _) H
  generalize (o_bid M (xs (6 * c + 1)) (xs (6 * c + 2)) (xs (6 * c + 3)) (xs (6 * c + 4))) = o at N W Q
  obtain ⟨N1, N2, N3, N4⟩ := N
  have l1 := lvl_mono N3
  have l2 := lv_mono (b := 600) N3
  have r5 := lvl_le (jnM o.2.2)
  have hcs1 : cs + (170 + 5 * (lvl (jnM o.2.2) - lvl (jnM M))) + 4 * (lv 600 (jnM o.2.2) - lv 600 (jnM M)) ≤ 100 + 200 * (c + 1) + 5 * lvl (jnM o.2.2) + 4 * lv 600 (jnM o.2.2) + 2 * lv 400 hw := by omega
  have hss1 : ss + (6060 + 60000 * (lvl (jnM o.2.2) - lvl (jnM M))) + 80000 * (lv 600 (jnM o.2.2) - lv 600 (jnM M)) ≤ 20000 + 7000 * (c + 1) + 60000 * lvl (jnM o.2.2) + 80000 * lv 600 (jnM o.2.2) + 30000 * lv 400 hw := by omega
  have rm := room_ok hc hmc hms hcs1 hss1
  simp -implicitDefEqProofs [t_Law_935, i_aload, i_iload, i_lload, i_istore, i_lstore, i_astore, i_iinc, i_push, i_getI, i_getJ, i_getR, i_putI, i_putJ, i_putR, i_iadd, i_isub, i_imul, i_iand, i_ior, i_ixor, i_ishl, i_ishr, i_iushr, i_idiv, i_irem, i_ladd, i_lsub, i_lmul, i_land, i_lor, i_lxor, i_ldiv, i_lrem, i_lshl, i_lshr, i_lcmp, i_ineg, i_lneg, i_i2l, i_l2i, i_i2b, i_i2c, i_dup, i_pop, i_dup_x1, i_dup2, i_icmp_eq, i_icmp_lt, i_icmp_ge, i_icmp_gt, i_icmp_le, i_if_eq, i_if_lt, i_if_ge, i_if_gt, i_if_le, i_goto, i_ifnull, i_iald, i_bald, i_zald, i_lald, i_aald, i_iast, i_bast, i_zast, i_last, i_alen, i_iret, i_lret, i_aret, i_vret, i_oinit, i_cast, i_tsw, i_cases, i_mmin, i_mmax, i_lmin, i_throw, nb0, nb1, nint, nby0, rf_s, rf_n, of_r, of_n, tk_orf_rf, tk_c2, tk_ls, Value.category, tk_isR_ref, tk_isR_rf, tk_isR_null, i_xld, e1, v1, k1, e2, v2, k2, e3, v3, k3, e4, v4, k4]
  refine ⟨by simp, by simp [Value.category], 1900, 170 + 5 * (lvl (jnM o.2.2) - lvl (jnM M)), 6060 + 60000 * (lvl (jnM o.2.2) - lvl (jnM M)), by omega, by omega, by omega, W _ (fun S' ρ' gh' hF hC' hO' hZ' hv => ?_)⟩
  obtain ⟨c1, R1, O1⟩ := midW hF hC' hO' hO hR hZ'
  simp -implicitDefEqProofs [i_aload, i_iload, i_lload, i_istore, i_lstore, i_astore, i_iinc, i_push, i_getI, i_getJ, i_getR, i_putI, i_putJ, i_putR, i_iadd, i_isub, i_imul, i_iand, i_ior, i_ixor, i_ishl, i_ishr, i_iushr, i_idiv, i_irem, i_ladd, i_lsub, i_lmul, i_land, i_lor, i_lxor, i_ldiv, i_lrem, i_lshl, i_lshr, i_lcmp, i_ineg, i_lneg, i_i2l, i_l2i, i_i2b, i_i2c, i_dup, i_pop, i_dup_x1, i_dup2, i_icmp_eq, i_icmp_lt, i_icmp_ge, i_icmp_gt, i_icmp_le, i_if_eq, i_if_lt, i_if_ge, i_if_gt, i_if_le, i_goto, i_ifnull, i_iald, i_bald, i_zald, i_lald, i_aald, i_iast, i_bast, i_zast, i_last, i_alen, i_iret, i_lret, i_aret, i_vret, i_oinit, i_cast, i_tsw, i_cases, i_mmin, i_mmax, i_lmin, i_throw, nb0, nb1, nint, nby0, rf_s, rf_n, of_r, of_n, tk_orf_rf, tk_c2, tk_ls, Value.category, tk_isR_ref, tk_isR_rf, tk_isR_null, i_xld, e1, v1, k1, e2, v2, k2, e3, v3, k3, e4, v4, k4]
  refine ⟨by simp, R1.1.1.1, R1.1.1.2.1, by simp [Value.category], 1900, 4 * (lv 600 (jnM o.2.2) - lv 600 (jnM M)), 80000 * (lv 600 (jnM o.2.2) - lv 600 (jnM M)), by omega, by omega, by omega, Q _ _ _ _ _ R1 (fun w hw1 V' hI' h0 S2 ρ2 R2 hR2 => ?_)⟩
  exact finI hE.1 c1 O1 hR2 hI' h0 hv hw1 hZ' N1 N2 (by rw [N4]; exact hk) hkw hhw hcs1 hss1 hc (by omega) hmc hms next
set_option maxHeartbeats 4000000 in
theorem k_let (hE : T_Law Z d mc ms b L xs E) (hd : d = 2000) (hmc : mc = 601024) (hms : ms = 7293034) (hst : Z.1.stackTraces = false) (hL : 6 * c + 6 ≤ L) (hL2 : L ≤ 3072) (hZ : Z.2.2.2.2.2.1 ∉ q_L S) (h : LC Z c x m r S cs ss M) (next : NX Z b c x m r E) : E 1027 [some (.ref b), some (.ref x), some (.ref m), some (.ref r), some (.int (nI (6 * c))), l5, l6, l7] [] S cs ss := by
  refine hE.2.2.2.2.2.2.2.2.2.2.2.2.2.2.2.2.2.2.1 _ _ _ _ _ ?_
  obtain ⟨ρ, R, V, gh, hw, k, hC, hR, hI, hO, hIV, hJV, hk, hkw, hhw, hcs, hss⟩ := h
  have hc : c ≤ 511 := by omega
  have hB := hC.bd
  have r1 := lvl_le (jnM M)
  have r2 := lv_le 600 (jnM M)
  have r3 := lv_le 400 hw
  have e1 : nI (6 * c) + 1 = nI (6 * c + 1) := nI_add (6 * c) 1
  have v1 : vp_in (nI (6 * c + 1)) L := vp_in_nI (by omega) (by omega)
  have k1 : (nI (6 * c + 1)).toNatClampNeg = 6 * c + 1 := nI_clamp (by omega)
  have e2 : nI (6 * c) + 2 = nI (6 * c + 2) := nI_add (6 * c) 2
  have v2 : vp_in (nI (6 * c + 2)) L := vp_in_nI (by omega) (by omega)
  have k2 : (nI (6 * c + 2)).toNatClampNeg = 6 * c + 2 := nI_clamp (by omega)
  have W := fun QR' H => w_let (d := 1900) (mc := 170 + 5 * (lvl (jnM (o_let M (xs (6 * c + 1)) (xs (6 * c + 2))).2.2) - lvl (jnM M))) (ms := 6060 + 60000 * (lvl (jnM (o_let M (xs (6 * c + 1)) (xs (6 * c + 2))).2.2) - lvl (jnM M))) (QR := QR') (i := xs (6 * c + 1)) (q0 := xs (6 * c + 2)) hst (by omega) hZ hC hO hIV hJV hc (Nat.le_refl _) (Nat.le_refl _) H
  have N := n_let (i := xs (6 * c + 1)) (q0 := xs (6 * c + 2)) hIV hB hJV hc
  have Q := fun B' ρ' S' R' QR' hR' H => q_let (Z := Z) (m := m) (d := 1900) (mc := 4 * (lv 600 (jnM (o_let M (xs (6 * c + 1)) (xs (6 * c + 2))).2.2) - lv 600 (jnM M))) (ms := 80000 * (lv 600 (jnM (o_let M (xs (6 * c + 1)) (xs (6 * c + 2))).2.2) - lv 600 (jnM M))) (B := B') (ρ := ρ') (S := S') (R := R') (QR := QR') (V := V) (i := xs (6 * c + 1)) (q0 := xs (6 * c + 2)) (by omega) hR' hI hIV hB hc hkw (by omega) (Nat.le_refl _) (Nat.le_refl _) H
  generalize (o_let M (xs (6 * c + 1)) (xs (6 * c + 2))) = o at N W Q
  obtain ⟨N1, N2, N3, N4⟩ := N
  have l1 := lvl_mono N3
  have l2 := lv_mono (b := 600) N3
  have r5 := lvl_le (jnM o.2.2)
  have hcs1 : cs + (170 + 5 * (lvl (jnM o.2.2) - lvl (jnM M))) + 4 * (lv 600 (jnM o.2.2) - lv 600 (jnM M)) ≤ 100 + 200 * (c + 1) + 5 * lvl (jnM o.2.2) + 4 * lv 600 (jnM o.2.2) + 2 * lv 400 hw := by omega
  have hss1 : ss + (6060 + 60000 * (lvl (jnM o.2.2) - lvl (jnM M))) + 80000 * (lv 600 (jnM o.2.2) - lv 600 (jnM M)) ≤ 20000 + 7000 * (c + 1) + 60000 * lvl (jnM o.2.2) + 80000 * lv 600 (jnM o.2.2) + 30000 * lv 400 hw := by omega
  have rm := room_ok hc hmc hms hcs1 hss1
  simp -implicitDefEqProofs [t_Law_1027, i_aload, i_iload, i_lload, i_istore, i_lstore, i_astore, i_iinc, i_push, i_getI, i_getJ, i_getR, i_putI, i_putJ, i_putR, i_iadd, i_isub, i_imul, i_iand, i_ior, i_ixor, i_ishl, i_ishr, i_iushr, i_idiv, i_irem, i_ladd, i_lsub, i_lmul, i_land, i_lor, i_lxor, i_ldiv, i_lrem, i_lshl, i_lshr, i_lcmp, i_ineg, i_lneg, i_i2l, i_l2i, i_i2b, i_i2c, i_dup, i_pop, i_dup_x1, i_dup2, i_icmp_eq, i_icmp_lt, i_icmp_ge, i_icmp_gt, i_icmp_le, i_if_eq, i_if_lt, i_if_ge, i_if_gt, i_if_le, i_goto, i_ifnull, i_iald, i_bald, i_zald, i_lald, i_aald, i_iast, i_bast, i_zast, i_last, i_alen, i_iret, i_lret, i_aret, i_vret, i_oinit, i_cast, i_tsw, i_cases, i_mmin, i_mmax, i_lmin, i_throw, nb0, nb1, nint, nby0, rf_s, rf_n, of_r, of_n, tk_orf_rf, tk_c2, tk_ls, Value.category, tk_isR_ref, tk_isR_rf, tk_isR_null, i_xld, e1, v1, k1, e2, v2, k2]
  refine ⟨by simp, by simp [Value.category], 1900, 170 + 5 * (lvl (jnM o.2.2) - lvl (jnM M)), 6060 + 60000 * (lvl (jnM o.2.2) - lvl (jnM M)), by omega, by omega, by omega, W _ (fun S' ρ' gh' hF hC' hO' hZ' hv => ?_)⟩
  obtain ⟨c1, R1, O1⟩ := midW hF hC' hO' hO hR hZ'
  simp -implicitDefEqProofs [i_aload, i_iload, i_lload, i_istore, i_lstore, i_astore, i_iinc, i_push, i_getI, i_getJ, i_getR, i_putI, i_putJ, i_putR, i_iadd, i_isub, i_imul, i_iand, i_ior, i_ixor, i_ishl, i_ishr, i_iushr, i_idiv, i_irem, i_ladd, i_lsub, i_lmul, i_land, i_lor, i_lxor, i_ldiv, i_lrem, i_lshl, i_lshr, i_lcmp, i_ineg, i_lneg, i_i2l, i_l2i, i_i2b, i_i2c, i_dup, i_pop, i_dup_x1, i_dup2, i_icmp_eq, i_icmp_lt, i_icmp_ge, i_icmp_gt, i_icmp_le, i_if_eq, i_if_lt, i_if_ge, i_if_gt, i_if_le, i_goto, i_ifnull, i_iald, i_bald, i_zald, i_lald, i_aald, i_iast, i_bast, i_zast, i_last, i_alen, i_iret, i_lret, i_aret, i_vret, i_oinit, i_cast, i_tsw, i_cases, i_mmin, i_mmax, i_lmin, i_throw, nb0, nb1, nint, nby0, rf_s, rf_n, of_r, of_n, tk_orf_rf, tk_c2, tk_ls, Value.category, tk_isR_ref, tk_isR_rf, tk_isR_null, i_xld, e1, v1, k1, e2, v2, k2]
  refine ⟨by simp, R1.1.1.1, R1.1.1.2.1, by simp [Value.category], 1900, 4 * (lv 600 (jnM o.2.2) - lv 600 (jnM M)), 80000 * (lv 600 (jnM o.2.2) - lv 600 (jnM M)), by omega, by omega, by omega, Q _ _ _ _ _ R1 (fun w hw1 V' hI' h0 S2 ρ2 R2 hR2 => ?_)⟩
  exact finI hE.1 c1 O1 hR2 hI' h0 hv hw1 hZ' N1 N2 (by rw [N4]; exact hk) hkw hhw hcs1 hss1 hc (by omega) hmc hms next
set_option maxHeartbeats 4000000 in
theorem k_gateTold (hE : T_Law Z d mc ms b L xs E) (hd : d = 2000) (hmc : mc = 601024) (hms : ms = 7293034) (hst : Z.1.stackTraces = false) (hL : 6 * c + 6 ≤ L) (hL2 : L ≤ 3072) (hZ : Z.2.2.2.2.2.1 ∉ q_L S) (h : LC Z c x m r S cs ss M) (next : NX Z b c x m r E) : E 1095 [some (.ref b), some (.ref x), some (.ref m), some (.ref r), some (.int (nI (6 * c))), l5, l6, l7] [] S cs ss := by
  refine hE.2.2.2.2.2.2.2.2.2.2.2.2.2.2.2.2.2.2.2.1 _ _ _ _ _ ?_
  obtain ⟨ρ, R, V, gh, hw, k, hC, hR, hI, hO, hIV, hJV, hk, hkw, hhw, hcs, hss⟩ := h
  have hc : c ≤ 511 := by omega
  have hB := hC.bd
  have r1 := lvl_le (jnM M)
  have r2 := lv_le 600 (jnM M)
  have r3 := lv_le 400 hw
  have e1 : nI (6 * c) + 1 = nI (6 * c + 1) := nI_add (6 * c) 1
  have v1 : vp_in (nI (6 * c + 1)) L := vp_in_nI (by omega) (by omega)
  have k1 : (nI (6 * c + 1)).toNatClampNeg = 6 * c + 1 := nI_clamp (by omega)
  have e2 : nI (6 * c) + 2 = nI (6 * c + 2) := nI_add (6 * c) 2
  have v2 : vp_in (nI (6 * c + 2)) L := vp_in_nI (by omega) (by omega)
  have k2 : (nI (6 * c + 2)).toNatClampNeg = 6 * c + 2 := nI_clamp (by omega)
  have W := fun QR' H => w_gateTold (d := 1900) (mc := 170 + 5 * (lvl (jnM (o_gateTold M (xs (6 * c + 1)) (xs (6 * c + 2))).2.2) - lvl (jnM M))) (ms := 6060 + 60000 * (lvl (jnM (o_gateTold M (xs (6 * c + 1)) (xs (6 * c + 2))).2.2) - lvl (jnM M))) (QR := QR') (i := xs (6 * c + 1)) (w0 := xs (6 * c + 2)) hst (by omega) hZ hC hO hIV hJV hc (Nat.le_refl _) (Nat.le_refl _) H
  have N := n_gateTold (i := xs (6 * c + 1)) (w0 := xs (6 * c + 2)) hIV hB hJV hc
  have Q := fun B' ρ' S' R' QR' hR' H => q_gateTold (Z := Z) (m := m) (d := 1900) (mc := 4 * (lv 600 (jnM (o_gateTold M (xs (6 * c + 1)) (xs (6 * c + 2))).2.2) - lv 600 (jnM M))) (ms := 80000 * (lv 600 (jnM (o_gateTold M (xs (6 * c + 1)) (xs (6 * c + 2))).2.2) - lv 600 (jnM M))) (B := B') (ρ := ρ') (S := S') (R := R') (QR := QR') (V := V) (i := xs (6 * c + 1)) (w0 := xs (6 * c + 2)) (by omega) hR' hI hIV hB hc hkw (by omega) (Nat.le_refl _) (Nat.le_refl _) H
  generalize (o_gateTold M (xs (6 * c + 1)) (xs (6 * c + 2))) = o at N W Q
  obtain ⟨N1, N2, N3, N4⟩ := N
  have l1 := lvl_mono N3
  have l2 := lv_mono (b := 600) N3
  have r5 := lvl_le (jnM o.2.2)
  have hcs1 : cs + (170 + 5 * (lvl (jnM o.2.2) - lvl (jnM M))) + 4 * (lv 600 (jnM o.2.2) - lv 600 (jnM M)) ≤ 100 + 200 * (c + 1) + 5 * lvl (jnM o.2.2) + 4 * lv 600 (jnM o.2.2) + 2 * lv 400 hw := by omega
  have hss1 : ss + (6060 + 60000 * (lvl (jnM o.2.2) - lvl (jnM M))) + 80000 * (lv 600 (jnM o.2.2) - lv 600 (jnM M)) ≤ 20000 + 7000 * (c + 1) + 60000 * lvl (jnM o.2.2) + 80000 * lv 600 (jnM o.2.2) + 30000 * lv 400 hw := by omega
  have rm := room_ok hc hmc hms hcs1 hss1
  simp -implicitDefEqProofs [t_Law_1095, i_aload, i_iload, i_lload, i_istore, i_lstore, i_astore, i_iinc, i_push, i_getI, i_getJ, i_getR, i_putI, i_putJ, i_putR, i_iadd, i_isub, i_imul, i_iand, i_ior, i_ixor, i_ishl, i_ishr, i_iushr, i_idiv, i_irem, i_ladd, i_lsub, i_lmul, i_land, i_lor, i_lxor, i_ldiv, i_lrem, i_lshl, i_lshr, i_lcmp, i_ineg, i_lneg, i_i2l, i_l2i, i_i2b, i_i2c, i_dup, i_pop, i_dup_x1, i_dup2, i_icmp_eq, i_icmp_lt, i_icmp_ge, i_icmp_gt, i_icmp_le, i_if_eq, i_if_lt, i_if_ge, i_if_gt, i_if_le, i_goto, i_ifnull, i_iald, i_bald, i_zald, i_lald, i_aald, i_iast, i_bast, i_zast, i_last, i_alen, i_iret, i_lret, i_aret, i_vret, i_oinit, i_cast, i_tsw, i_cases, i_mmin, i_mmax, i_lmin, i_throw, nb0, nb1, nint, nby0, rf_s, rf_n, of_r, of_n, tk_orf_rf, tk_c2, tk_ls, Value.category, tk_isR_ref, tk_isR_rf, tk_isR_null, i_xld, e1, v1, k1, e2, v2, k2]
  refine ⟨by simp, by simp [Value.category], 1900, 170 + 5 * (lvl (jnM o.2.2) - lvl (jnM M)), 6060 + 60000 * (lvl (jnM o.2.2) - lvl (jnM M)), by omega, by omega, by omega, W _ (fun S' ρ' gh' hF hC' hO' hZ' hv => ?_)⟩
  obtain ⟨c1, R1, O1⟩ := midW hF hC' hO' hO hR hZ'
  simp -implicitDefEqProofs [i_aload, i_iload, i_lload, i_istore, i_lstore, i_astore, i_iinc, i_push, i_getI, i_getJ, i_getR, i_putI, i_putJ, i_putR, i_iadd, i_isub, i_imul, i_iand, i_ior, i_ixor, i_ishl, i_ishr, i_iushr, i_idiv, i_irem, i_ladd, i_lsub, i_lmul, i_land, i_lor, i_lxor, i_ldiv, i_lrem, i_lshl, i_lshr, i_lcmp, i_ineg, i_lneg, i_i2l, i_l2i, i_i2b, i_i2c, i_dup, i_pop, i_dup_x1, i_dup2, i_icmp_eq, i_icmp_lt, i_icmp_ge, i_icmp_gt, i_icmp_le, i_if_eq, i_if_lt, i_if_ge, i_if_gt, i_if_le, i_goto, i_ifnull, i_iald, i_bald, i_zald, i_lald, i_aald, i_iast, i_bast, i_zast, i_last, i_alen, i_iret, i_lret, i_aret, i_vret, i_oinit, i_cast, i_tsw, i_cases, i_mmin, i_mmax, i_lmin, i_throw, nb0, nb1, nint, nby0, rf_s, rf_n, of_r, of_n, tk_orf_rf, tk_c2, tk_ls, Value.category, tk_isR_ref, tk_isR_rf, tk_isR_null, i_xld, e1, v1, k1, e2, v2, k2]
  refine ⟨by simp, R1.1.1.1, R1.1.1.2.1, by simp [Value.category], 1900, 4 * (lv 600 (jnM o.2.2) - lv 600 (jnM M)), 80000 * (lv 600 (jnM o.2.2) - lv 600 (jnM M)), by omega, by omega, by omega, Q _ _ _ _ _ R1 (fun w hw1 V' hI' h0 S2 ρ2 R2 hR2 => ?_)⟩
  exact finI hE.1 c1 O1 hR2 hI' h0 hv hw1 hZ' N1 N2 (by rw [N4]; exact hk) hkw hhw hcs1 hss1 hc (by omega) hmc hms next
set_option maxHeartbeats 4000000 in
theorem k_borrow (hE : T_Law Z d mc ms b L xs E) (hd : d = 2000) (hmc : mc = 601024) (hms : ms = 7293034) (hst : Z.1.stackTraces = false) (hL : 6 * c + 6 ≤ L) (hL2 : L ≤ 3072) (hZ : Z.2.2.2.2.2.1 ∉ q_L S) (h : LC Z c x m r S cs ss M) (next : NX Z b c x m r E) : E 1163 [some (.ref b), some (.ref x), some (.ref m), some (.ref r), some (.int (nI (6 * c))), l5, l6, l7] [] S cs ss := by
  refine hE.2.2.2.2.2.2.2.2.2.2.2.2.2.2.2.2.2.2.2.2.1 _ _ _ _ _ ?_
  obtain ⟨ρ, R, V, gh, hw, k, hC, hR, hI, hO, hIV, hJV, hk, hkw, hhw, hcs, hss⟩ := h
  have hc : c ≤ 511 := by omega
  have hB := hC.bd
  have r1 := lvl_le (jnM M)
  have r2 := lv_le 600 (jnM M)
  have r3 := lv_le 400 hw
  have e1 : nI (6 * c) + 1 = nI (6 * c + 1) := nI_add (6 * c) 1
  have v1 : vp_in (nI (6 * c + 1)) L := vp_in_nI (by omega) (by omega)
  have k1 : (nI (6 * c + 1)).toNatClampNeg = 6 * c + 1 := nI_clamp (by omega)
  have e2 : nI (6 * c) + 2 = nI (6 * c + 2) := nI_add (6 * c) 2
  have v2 : vp_in (nI (6 * c + 2)) L := vp_in_nI (by omega) (by omega)
  have k2 : (nI (6 * c + 2)).toNatClampNeg = 6 * c + 2 := nI_clamp (by omega)
  have e3 : nI (6 * c) + 3 = nI (6 * c + 3) := nI_add (6 * c) 3
  have v3 : vp_in (nI (6 * c + 3)) L := vp_in_nI (by omega) (by omega)
  have k3 : (nI (6 * c + 3)).toNatClampNeg = 6 * c + 3 := nI_clamp (by omega)
  have W := fun QR' H => w_borrow (d := 1900) (mc := 170 + 5 * (lvl (jnM (o_borrow M (xs (6 * c + 1)) (xs (6 * c + 2)) (xs (6 * c + 3))).2.2) - lvl (jnM M))) (ms := 6060 + 60000 * (lvl (jnM (o_borrow M (xs (6 * c + 1)) (xs (6 * c + 2)) (xs (6 * c + 3))).2.2) - lvl (jnM M))) (QR := QR') (i := xs (6 * c + 1)) (ra0 := xs (6 * c + 2)) (rk0 := xs (6 * c + 3)) hst (by omega) hZ hC hO hIV hJV hc (Nat.le_refl _) (Nat.le_refl _) H
  have N := n_borrow (i := xs (6 * c + 1)) (ra0 := xs (6 * c + 2)) (rk0 := xs (6 * c + 3)) hIV hB hJV hc
  have Q := fun B' ρ' S' R' QR' hR' H => q_borrow (Z := Z) (m := m) (d := 1900) (mc := 4 * (lv 600 (jnM (o_borrow M (xs (6 * c + 1)) (xs (6 * c + 2)) (xs (6 * c + 3))).2.2) - lv 600 (jnM M))) (ms := 80000 * (lv 600 (jnM (o_borrow M (xs (6 * c + 1)) (xs (6 * c + 2)) (xs (6 * c + 3))).2.2) - lv 600 (jnM M))) (B := B') (ρ := ρ') (S := S') (R := R') (QR := QR') (V := V) (i := xs (6 * c + 1)) (ra0 := xs (6 * c + 2)) (rk0 := xs (6 * c + 3)) (by omega) hR' hI hIV hB hc hkw (by omega) (Nat.le_refl _) (Nat.le_refl _) H
  generalize (o_borrow M (xs (6 * c + 1)) (xs (6 * c + 2)) (xs (6 * c + 3))) = o at N W Q
  obtain ⟨N1, N2, N3, N4⟩ := N
  have l1 := lvl_mono N3
  have l2 := lv_mono (b := 600) N3
  have r5 := lvl_le (jnM o.2.2)
  have hcs1 : cs + (170 + 5 * (lvl (jnM o.2.2) - lvl (jnM M))) + 4 * (lv 600 (jnM o.2.2) - lv 600 (jnM M)) ≤ 100 + 200 * (c + 1) + 5 * lvl (jnM o.2.2) + 4 * lv 600 (jnM o.2.2) + 2 * lv 400 hw := by omega
  have hss1 : ss + (6060 + 60000 * (lvl (jnM o.2.2) - lvl (jnM M))) + 80000 * (lv 600 (jnM o.2.2) - lv 600 (jnM M)) ≤ 20000 + 7000 * (c + 1) + 60000 * lvl (jnM o.2.2) + 80000 * lv 600 (jnM o.2.2) + 30000 * lv 400 hw := by omega
  have rm := room_ok hc hmc hms hcs1 hss1
  simp -implicitDefEqProofs [t_Law_1163, i_aload, i_iload, i_lload, i_istore, i_lstore, i_astore, i_iinc, i_push, i_getI, i_getJ, i_getR, i_putI, i_putJ, i_putR, i_iadd, i_isub, i_imul, i_iand, i_ior, i_ixor, i_ishl, i_ishr, i_iushr, i_idiv, i_irem, i_ladd, i_lsub, i_lmul, i_land, i_lor, i_lxor, i_ldiv, i_lrem, i_lshl, i_lshr, i_lcmp, i_ineg, i_lneg, i_i2l, i_l2i, i_i2b, i_i2c, i_dup, i_pop, i_dup_x1, i_dup2, i_icmp_eq, i_icmp_lt, i_icmp_ge, i_icmp_gt, i_icmp_le, i_if_eq, i_if_lt, i_if_ge, i_if_gt, i_if_le, i_goto, i_ifnull, i_iald, i_bald, i_zald, i_lald, i_aald, i_iast, i_bast, i_zast, i_last, i_alen, i_iret, i_lret, i_aret, i_vret, i_oinit, i_cast, i_tsw, i_cases, i_mmin, i_mmax, i_lmin, i_throw, nb0, nb1, nint, nby0, rf_s, rf_n, of_r, of_n, tk_orf_rf, tk_c2, tk_ls, Value.category, tk_isR_ref, tk_isR_rf, tk_isR_null, i_xld, e1, v1, k1, e2, v2, k2, e3, v3, k3]
  refine ⟨by simp, by simp [Value.category], 1900, 170 + 5 * (lvl (jnM o.2.2) - lvl (jnM M)), 6060 + 60000 * (lvl (jnM o.2.2) - lvl (jnM M)), by omega, by omega, by omega, W _ (fun S' ρ' gh' hF hC' hO' hZ' hv => ?_)⟩
  obtain ⟨c1, R1, O1⟩ := midW hF hC' hO' hO hR hZ'
  simp -implicitDefEqProofs [i_aload, i_iload, i_lload, i_istore, i_lstore, i_astore, i_iinc, i_push, i_getI, i_getJ, i_getR, i_putI, i_putJ, i_putR, i_iadd, i_isub, i_imul, i_iand, i_ior, i_ixor, i_ishl, i_ishr, i_iushr, i_idiv, i_irem, i_ladd, i_lsub, i_lmul, i_land, i_lor, i_lxor, i_ldiv, i_lrem, i_lshl, i_lshr, i_lcmp, i_ineg, i_lneg, i_i2l, i_l2i, i_i2b, i_i2c, i_dup, i_pop, i_dup_x1, i_dup2, i_icmp_eq, i_icmp_lt, i_icmp_ge, i_icmp_gt, i_icmp_le, i_if_eq, i_if_lt, i_if_ge, i_if_gt, i_if_le, i_goto, i_ifnull, i_iald, i_bald, i_zald, i_lald, i_aald, i_iast, i_bast, i_zast, i_last, i_alen, i_iret, i_lret, i_aret, i_vret, i_oinit, i_cast, i_tsw, i_cases, i_mmin, i_mmax, i_lmin, i_throw, nb0, nb1, nint, nby0, rf_s, rf_n, of_r, of_n, tk_orf_rf, tk_c2, tk_ls, Value.category, tk_isR_ref, tk_isR_rf, tk_isR_null, i_xld, e1, v1, k1, e2, v2, k2, e3, v3, k3]
  refine ⟨by simp, R1.1.1.1, R1.1.1.2.1, by simp [Value.category], 1900, 4 * (lv 600 (jnM o.2.2) - lv 600 (jnM M)), 80000 * (lv 600 (jnM o.2.2) - lv 600 (jnM M)), by omega, by omega, by omega, Q _ _ _ _ _ R1 (fun w hw1 V' hI' h0 S2 ρ2 R2 hR2 => ?_)⟩
  exact finI hE.1 c1 O1 hR2 hI' h0 hv hw1 hZ' N1 N2 (by rw [N4]; exact hk) hkw hhw hcs1 hss1 hc (by omega) hmc hms next
set_option maxHeartbeats 4000000 in
theorem k_repay (hE : T_Law Z d mc ms b L xs E) (hd : d = 2000) (hmc : mc = 601024) (hms : ms = 7293034) (hst : Z.1.stackTraces = false) (hL : 6 * c + 6 ≤ L) (hL2 : L ≤ 3072) (hZ : Z.2.2.2.2.2.1 ∉ q_L S) (h : LC Z c x m r S cs ss M) (next : NX Z b c x m r E) : E 1243 [some (.ref b), some (.ref x), some (.ref m), some (.ref r), some (.int (nI (6 * c))), l5, l6, l7] [] S cs ss := by
  refine hE.2.2.2.2.2.2.2.2.2.2.2.2.2.2.2.2.2.2.2.2.2.1 _ _ _ _ _ ?_
  obtain ⟨ρ, R, V, gh, hw, k, hC, hR, hI, hO, hIV, hJV, hk, hkw, hhw, hcs, hss⟩ := h
  have hc : c ≤ 511 := by omega
  have hB := hC.bd
  have r1 := lvl_le (jnM M)
  have r2 := lv_le 600 (jnM M)
  have r3 := lv_le 400 hw
  have e1 : nI (6 * c) + 1 = nI (6 * c + 1) := nI_add (6 * c) 1
  have v1 : vp_in (nI (6 * c + 1)) L := vp_in_nI (by omega) (by omega)
  have k1 : (nI (6 * c + 1)).toNatClampNeg = 6 * c + 1 := nI_clamp (by omega)
  have e2 : nI (6 * c) + 2 = nI (6 * c + 2) := nI_add (6 * c) 2
  have v2 : vp_in (nI (6 * c + 2)) L := vp_in_nI (by omega) (by omega)
  have k2 : (nI (6 * c + 2)).toNatClampNeg = 6 * c + 2 := nI_clamp (by omega)
  have W := fun QR' H => w_repay (d := 1900) (mc := 170 + 5 * (lvl (jnM (o_repay M (xs (6 * c + 1)) (xs (6 * c + 2))).2.2) - lvl (jnM M))) (ms := 6060 + 60000 * (lvl (jnM (o_repay M (xs (6 * c + 1)) (xs (6 * c + 2))).2.2) - lvl (jnM M))) (QR := QR') (i := xs (6 * c + 1)) (s0 := xs (6 * c + 2)) hst (by omega) hZ hC hO hIV hJV hc (Nat.le_refl _) (Nat.le_refl _) H
  have N := n_repay (i := xs (6 * c + 1)) (s0 := xs (6 * c + 2)) hIV hB hJV hc
  have Q := fun B' ρ' S' R' QR' hR' H => q_repay (Z := Z) (m := m) (d := 1900) (mc := 4 * (lv 600 (jnM (o_repay M (xs (6 * c + 1)) (xs (6 * c + 2))).2.2) - lv 600 (jnM M))) (ms := 80000 * (lv 600 (jnM (o_repay M (xs (6 * c + 1)) (xs (6 * c + 2))).2.2) - lv 600 (jnM M))) (B := B') (ρ := ρ') (S := S') (R := R') (QR := QR') (V := V) (i := xs (6 * c + 1)) (s0 := xs (6 * c + 2)) (by omega) hR' hI hIV hB hc hkw (by omega) (Nat.le_refl _) (Nat.le_refl _) H
  generalize (o_repay M (xs (6 * c + 1)) (xs (6 * c + 2))) = o at N W Q
  obtain ⟨N1, N2, N3, N4⟩ := N
  have l1 := lvl_mono N3
  have l2 := lv_mono (b := 600) N3
  have r5 := lvl_le (jnM o.2.2)
  have hcs1 : cs + (170 + 5 * (lvl (jnM o.2.2) - lvl (jnM M))) + 4 * (lv 600 (jnM o.2.2) - lv 600 (jnM M)) ≤ 100 + 200 * (c + 1) + 5 * lvl (jnM o.2.2) + 4 * lv 600 (jnM o.2.2) + 2 * lv 400 hw := by omega
  have hss1 : ss + (6060 + 60000 * (lvl (jnM o.2.2) - lvl (jnM M))) + 80000 * (lv 600 (jnM o.2.2) - lv 600 (jnM M)) ≤ 20000 + 7000 * (c + 1) + 60000 * lvl (jnM o.2.2) + 80000 * lv 600 (jnM o.2.2) + 30000 * lv 400 hw := by omega
  have rm := room_ok hc hmc hms hcs1 hss1
  simp -implicitDefEqProofs [t_Law_1243, i_aload, i_iload, i_lload, i_istore, i_lstore, i_astore, i_iinc, i_push, i_getI, i_getJ, i_getR, i_putI, i_putJ, i_putR, i_iadd, i_isub, i_imul, i_iand, i_ior, i_ixor, i_ishl, i_ishr, i_iushr, i_idiv, i_irem, i_ladd, i_lsub, i_lmul, i_land, i_lor, i_lxor, i_ldiv, i_lrem, i_lshl, i_lshr, i_lcmp, i_ineg, i_lneg, i_i2l, i_l2i, i_i2b, i_i2c, i_dup, i_pop, i_dup_x1, i_dup2, i_icmp_eq, i_icmp_lt, i_icmp_ge, i_icmp_gt, i_icmp_le, i_if_eq, i_if_lt, i_if_ge, i_if_gt, i_if_le, i_goto, i_ifnull, i_iald, i_bald, i_zald, i_lald, i_aald, i_iast, i_bast, i_zast, i_last, i_alen, i_iret, i_lret, i_aret, i_vret, i_oinit, i_cast, i_tsw, i_cases, i_mmin, i_mmax, i_lmin, i_throw, nb0, nb1, nint, nby0, rf_s, rf_n, of_r, of_n, tk_orf_rf, tk_c2, tk_ls, Value.category, tk_isR_ref, tk_isR_rf, tk_isR_null, i_xld, e1, v1, k1, e2, v2, k2]
  refine ⟨by simp, by simp [Value.category], 1900, 170 + 5 * (lvl (jnM o.2.2) - lvl (jnM M)), 6060 + 60000 * (lvl (jnM o.2.2) - lvl (jnM M)), by omega, by omega, by omega, W _ (fun S' ρ' gh' hF hC' hO' hZ' hv => ?_)⟩
  obtain ⟨c1, R1, O1⟩ := midW hF hC' hO' hO hR hZ'
  simp -implicitDefEqProofs [i_aload, i_iload, i_lload, i_istore, i_lstore, i_astore, i_iinc, i_push, i_getI, i_getJ, i_getR, i_putI, i_putJ, i_putR, i_iadd, i_isub, i_imul, i_iand, i_ior, i_ixor, i_ishl, i_ishr, i_iushr, i_idiv, i_irem, i_ladd, i_lsub, i_lmul, i_land, i_lor, i_lxor, i_ldiv, i_lrem, i_lshl, i_lshr, i_lcmp, i_ineg, i_lneg, i_i2l, i_l2i, i_i2b, i_i2c, i_dup, i_pop, i_dup_x1, i_dup2, i_icmp_eq, i_icmp_lt, i_icmp_ge, i_icmp_gt, i_icmp_le, i_if_eq, i_if_lt, i_if_ge, i_if_gt, i_if_le, i_goto, i_ifnull, i_iald, i_bald, i_zald, i_lald, i_aald, i_iast, i_bast, i_zast, i_last, i_alen, i_iret, i_lret, i_aret, i_vret, i_oinit, i_cast, i_tsw, i_cases, i_mmin, i_mmax, i_lmin, i_throw, nb0, nb1, nint, nby0, rf_s, rf_n, of_r, of_n, tk_orf_rf, tk_c2, tk_ls, Value.category, tk_isR_ref, tk_isR_rf, tk_isR_null, i_xld, e1, v1, k1, e2, v2, k2]
  refine ⟨by simp, R1.1.1.1, R1.1.1.2.1, by simp [Value.category], 1900, 4 * (lv 600 (jnM o.2.2) - lv 600 (jnM M)), 80000 * (lv 600 (jnM o.2.2) - lv 600 (jnM M)), by omega, by omega, by omega, Q _ _ _ _ _ R1 (fun w hw1 V' hI' h0 S2 ρ2 R2 hR2 => ?_)⟩
  exact finI hE.1 c1 O1 hR2 hI' h0 hv hw1 hZ' N1 N2 (by rw [N4]; exact hk) hkw hhw hcs1 hss1 hc (by omega) hmc hms next
set_option maxHeartbeats 4000000 in
theorem k_loan (hE : T_Law Z d mc ms b L xs E) (hd : d = 2000) (hmc : mc = 601024) (hms : ms = 7293034) (hst : Z.1.stackTraces = false) (hL : 6 * c + 6 ≤ L) (hL2 : L ≤ 3072) (hZ : Z.2.2.2.2.2.1 ∉ q_L S) (h : LC Z c x m r S cs ss M) (next : NX Z b c x m r E) : E 1311 [some (.ref b), some (.ref x), some (.ref m), some (.ref r), some (.int (nI (6 * c))), l5, l6, l7] [] S cs ss := by
  refine hE.2.2.2.2.2.2.2.2.2.2.2.2.2.2.2.2.2.2.2.2.2.2.1 _ _ _ _ _ ?_
  obtain ⟨ρ, R, V, gh, hw, k, hC, hR, hI, hO, hIV, hJV, hk, hkw, hhw, hcs, hss⟩ := h
  have hc : c ≤ 511 := by omega
  have hB := hC.bd
  have r1 := lvl_le (jnM M)
  have r2 := lv_le 600 (jnM M)
  have r3 := lv_le 400 hw
  have e1 : nI (6 * c) + 1 = nI (6 * c + 1) := nI_add (6 * c) 1
  have v1 : vp_in (nI (6 * c + 1)) L := vp_in_nI (by omega) (by omega)
  have k1 : (nI (6 * c + 1)).toNatClampNeg = 6 * c + 1 := nI_clamp (by omega)
  have e2 : nI (6 * c) + 2 = nI (6 * c + 2) := nI_add (6 * c) 2
  have v2 : vp_in (nI (6 * c + 2)) L := vp_in_nI (by omega) (by omega)
  have k2 : (nI (6 * c + 2)).toNatClampNeg = 6 * c + 2 := nI_clamp (by omega)
  have W := fun QR' H => w_loan (d := 1900) (mc := 170 + 5 * (lvl (jnM (o_loan M (xs (6 * c + 1)) (xs (6 * c + 2))).2.2) - lvl (jnM M))) (ms := 6060 + 60000 * (lvl (jnM (o_loan M (xs (6 * c + 1)) (xs (6 * c + 2))).2.2) - lvl (jnM M))) (QR := QR') (i := xs (6 * c + 1)) (w0 := xs (6 * c + 2)) hst (by omega) hZ hC hO hIV hJV hc (Nat.le_refl _) (Nat.le_refl _) H
  have N := n_loan (i := xs (6 * c + 1)) (w0 := xs (6 * c + 2)) hIV hB hJV hc
  have Q := fun B' ρ' S' R' QR' hR' H => q_loan (Z := Z) (m := m) (d := 1900) (mc := 4 * (lv 600 (jnM (o_loan M (xs (6 * c + 1)) (xs (6 * c + 2))).2.2) - lv 600 (jnM M))) (ms := 80000 * (lv 600 (jnM (o_loan M (xs (6 * c + 1)) (xs (6 * c + 2))).2.2) - lv 600 (jnM M))) (B := B') (ρ := ρ') (S := S') (R := R') (QR := QR') (V := V) (i := xs (6 * c + 1)) (w0 := xs (6 * c + 2)) (by omega) hR' hI hIV hB hc hkw (by omega) (Nat.le_refl _) (Nat.le_refl _) H
  generalize (o_loan M (xs (6 * c + 1)) (xs (6 * c + 2))) = o at N W Q
  obtain ⟨N1, N2, N3, N4⟩ := N
  have l1 := lvl_mono N3
  have l2 := lv_mono (b := 600) N3
  have r5 := lvl_le (jnM o.2.2)
  have hcs1 : cs + (170 + 5 * (lvl (jnM o.2.2) - lvl (jnM M))) + 4 * (lv 600 (jnM o.2.2) - lv 600 (jnM M)) ≤ 100 + 200 * (c + 1) + 5 * lvl (jnM o.2.2) + 4 * lv 600 (jnM o.2.2) + 2 * lv 400 hw := by omega
  have hss1 : ss + (6060 + 60000 * (lvl (jnM o.2.2) - lvl (jnM M))) + 80000 * (lv 600 (jnM o.2.2) - lv 600 (jnM M)) ≤ 20000 + 7000 * (c + 1) + 60000 * lvl (jnM o.2.2) + 80000 * lv 600 (jnM o.2.2) + 30000 * lv 400 hw := by omega
  have rm := room_ok hc hmc hms hcs1 hss1
  simp -implicitDefEqProofs [t_Law_1311, i_aload, i_iload, i_lload, i_istore, i_lstore, i_astore, i_iinc, i_push, i_getI, i_getJ, i_getR, i_putI, i_putJ, i_putR, i_iadd, i_isub, i_imul, i_iand, i_ior, i_ixor, i_ishl, i_ishr, i_iushr, i_idiv, i_irem, i_ladd, i_lsub, i_lmul, i_land, i_lor, i_lxor, i_ldiv, i_lrem, i_lshl, i_lshr, i_lcmp, i_ineg, i_lneg, i_i2l, i_l2i, i_i2b, i_i2c, i_dup, i_pop, i_dup_x1, i_dup2, i_icmp_eq, i_icmp_lt, i_icmp_ge, i_icmp_gt, i_icmp_le, i_if_eq, i_if_lt, i_if_ge, i_if_gt, i_if_le, i_goto, i_ifnull, i_iald, i_bald, i_zald, i_lald, i_aald, i_iast, i_bast, i_zast, i_last, i_alen, i_iret, i_lret, i_aret, i_vret, i_oinit, i_cast, i_tsw, i_cases, i_mmin, i_mmax, i_lmin, i_throw, nb0, nb1, nint, nby0, rf_s, rf_n, of_r, of_n, tk_orf_rf, tk_c2, tk_ls, Value.category, tk_isR_ref, tk_isR_rf, tk_isR_null, i_xld, e1, v1, k1, e2, v2, k2]
  refine ⟨by simp, by simp [Value.category], 1900, 170 + 5 * (lvl (jnM o.2.2) - lvl (jnM M)), 6060 + 60000 * (lvl (jnM o.2.2) - lvl (jnM M)), by omega, by omega, by omega, W _ (fun S' ρ' gh' hF hC' hO' hZ' hv => ?_)⟩
  obtain ⟨c1, R1, O1⟩ := midW hF hC' hO' hO hR hZ'
  simp -implicitDefEqProofs [i_aload, i_iload, i_lload, i_istore, i_lstore, i_astore, i_iinc, i_push, i_getI, i_getJ, i_getR, i_putI, i_putJ, i_putR, i_iadd, i_isub, i_imul, i_iand, i_ior, i_ixor, i_ishl, i_ishr, i_iushr, i_idiv, i_irem, i_ladd, i_lsub, i_lmul, i_land, i_lor, i_lxor, i_ldiv, i_lrem, i_lshl, i_lshr, i_lcmp, i_ineg, i_lneg, i_i2l, i_l2i, i_i2b, i_i2c, i_dup, i_pop, i_dup_x1, i_dup2, i_icmp_eq, i_icmp_lt, i_icmp_ge, i_icmp_gt, i_icmp_le, i_if_eq, i_if_lt, i_if_ge, i_if_gt, i_if_le, i_goto, i_ifnull, i_iald, i_bald, i_zald, i_lald, i_aald, i_iast, i_bast, i_zast, i_last, i_alen, i_iret, i_lret, i_aret, i_vret, i_oinit, i_cast, i_tsw, i_cases, i_mmin, i_mmax, i_lmin, i_throw, nb0, nb1, nint, nby0, rf_s, rf_n, of_r, of_n, tk_orf_rf, tk_c2, tk_ls, Value.category, tk_isR_ref, tk_isR_rf, tk_isR_null, i_xld, e1, v1, k1, e2, v2, k2]
  refine ⟨by simp, R1.1.1.1, R1.1.1.2.1, by simp [Value.category], 1900, 4 * (lv 600 (jnM o.2.2) - lv 600 (jnM M)), 80000 * (lv 600 (jnM o.2.2) - lv 600 (jnM M)), by omega, by omega, by omega, Q _ _ _ _ _ R1 (fun w hw1 V' hI' h0 S2 ρ2 R2 hR2 => ?_)⟩
  exact finJ hE.1 c1 O1 hR2 hI' h0 hv hw1 hZ' N1 N2 (by rw [N4]; exact hk) hkw hhw hcs1 hss1 hc (by omega) hmc hms next
set_option maxHeartbeats 4000000 in
theorem k_money (hE : T_Law Z d mc ms b L xs E) (hd : d = 2000) (hmc : mc = 601024) (hms : ms = 7293034) (hst : Z.1.stackTraces = false) (hL : 6 * c + 6 ≤ L) (hL2 : L ≤ 3072) (hZ : Z.2.2.2.2.2.1 ∉ q_L S) (h : LC Z c x m r S cs ss M) (next : NX Z b c x m r E) : E 1378 [some (.ref b), some (.ref x), some (.ref m), some (.ref r), some (.int (nI (6 * c))), l5, l6, l7] [] S cs ss := by
  refine hE.2.2.2.2.2.2.2.2.2.2.2.2.2.2.2.2.2.2.2.2.2.2.2.1 _ _ _ _ _ ?_
  obtain ⟨ρ, R, V, gh, hw, k, hC, hR, hI, hO, hIV, hJV, hk, hkw, hhw, hcs, hss⟩ := h
  have hc : c ≤ 511 := by omega
  have hB := hC.bd
  have r1 := lvl_le (jnM M)
  have r2 := lv_le 600 (jnM M)
  have r3 := lv_le 400 hw
  have e1 : nI (6 * c) + 1 = nI (6 * c + 1) := nI_add (6 * c) 1
  have v1 : vp_in (nI (6 * c + 1)) L := vp_in_nI (by omega) (by omega)
  have k1 : (nI (6 * c + 1)).toNatClampNeg = 6 * c + 1 := nI_clamp (by omega)
  have W := fun QR' H => w_money (d := 1900) (mc := 170 + 5 * (lvl (jnM (o_money M (xs (6 * c + 1))).2.2) - lvl (jnM M))) (ms := 6060 + 60000 * (lvl (jnM (o_money M (xs (6 * c + 1))).2.2) - lvl (jnM M))) (QR := QR') (i := xs (6 * c + 1)) hst (by omega) hZ hC hO hIV hJV hc (Nat.le_refl _) (Nat.le_refl _) H
  have N := n_money (i := xs (6 * c + 1)) hIV hB hJV hc
  have Q := fun B' ρ' S' R' QR' hR' H => q_money (Z := Z) (m := m) (d := 1900) (mc := 4 * (lv 600 (jnM (o_money M (xs (6 * c + 1))).2.2) - lv 600 (jnM M))) (ms := 80000 * (lv 600 (jnM (o_money M (xs (6 * c + 1))).2.2) - lv 600 (jnM M))) (B := B') (ρ := ρ') (S := S') (R := R') (QR := QR') (V := V) (i := xs (6 * c + 1)) (by omega) hR' hI hIV hB hc hkw (by omega) (Nat.le_refl _) (Nat.le_refl _) H
  generalize (o_money M (xs (6 * c + 1))) = o at N W Q
  obtain ⟨N1, N2, N3, N4⟩ := N
  have l1 := lvl_mono N3
  have l2 := lv_mono (b := 600) N3
  have r5 := lvl_le (jnM o.2.2)
  have hcs1 : cs + (170 + 5 * (lvl (jnM o.2.2) - lvl (jnM M))) + 4 * (lv 600 (jnM o.2.2) - lv 600 (jnM M)) ≤ 100 + 200 * (c + 1) + 5 * lvl (jnM o.2.2) + 4 * lv 600 (jnM o.2.2) + 2 * lv 400 hw := by omega
  have hss1 : ss + (6060 + 60000 * (lvl (jnM o.2.2) - lvl (jnM M))) + 80000 * (lv 600 (jnM o.2.2) - lv 600 (jnM M)) ≤ 20000 + 7000 * (c + 1) + 60000 * lvl (jnM o.2.2) + 80000 * lv 600 (jnM o.2.2) + 30000 * lv 400 hw := by omega
  have rm := room_ok hc hmc hms hcs1 hss1
  simp -implicitDefEqProofs [t_Law_1378, i_aload, i_iload, i_lload, i_istore, i_lstore, i_astore, i_iinc, i_push, i_getI, i_getJ, i_getR, i_putI, i_putJ, i_putR, i_iadd, i_isub, i_imul, i_iand, i_ior, i_ixor, i_ishl, i_ishr, i_iushr, i_idiv, i_irem, i_ladd, i_lsub, i_lmul, i_land, i_lor, i_lxor, i_ldiv, i_lrem, i_lshl, i_lshr, i_lcmp, i_ineg, i_lneg, i_i2l, i_l2i, i_i2b, i_i2c, i_dup, i_pop, i_dup_x1, i_dup2, i_icmp_eq, i_icmp_lt, i_icmp_ge, i_icmp_gt, i_icmp_le, i_if_eq, i_if_lt, i_if_ge, i_if_gt, i_if_le, i_goto, i_ifnull, i_iald, i_bald, i_zald, i_lald, i_aald, i_iast, i_bast, i_zast, i_last, i_alen, i_iret, i_lret, i_aret, i_vret, i_oinit, i_cast, i_tsw, i_cases, i_mmin, i_mmax, i_lmin, i_throw, nb0, nb1, nint, nby0, rf_s, rf_n, of_r, of_n, tk_orf_rf, tk_c2, tk_ls, Value.category, tk_isR_ref, tk_isR_rf, tk_isR_null, i_xld, e1, v1, k1]
  refine ⟨by simp, by simp [Value.category], 1900, 170 + 5 * (lvl (jnM o.2.2) - lvl (jnM M)), 6060 + 60000 * (lvl (jnM o.2.2) - lvl (jnM M)), by omega, by omega, by omega, W _ (fun S' ρ' gh' hF hC' hO' hZ' hv => ?_)⟩
  obtain ⟨c1, R1, O1⟩ := midW hF hC' hO' hO hR hZ'
  simp -implicitDefEqProofs [i_aload, i_iload, i_lload, i_istore, i_lstore, i_astore, i_iinc, i_push, i_getI, i_getJ, i_getR, i_putI, i_putJ, i_putR, i_iadd, i_isub, i_imul, i_iand, i_ior, i_ixor, i_ishl, i_ishr, i_iushr, i_idiv, i_irem, i_ladd, i_lsub, i_lmul, i_land, i_lor, i_lxor, i_ldiv, i_lrem, i_lshl, i_lshr, i_lcmp, i_ineg, i_lneg, i_i2l, i_l2i, i_i2b, i_i2c, i_dup, i_pop, i_dup_x1, i_dup2, i_icmp_eq, i_icmp_lt, i_icmp_ge, i_icmp_gt, i_icmp_le, i_if_eq, i_if_lt, i_if_ge, i_if_gt, i_if_le, i_goto, i_ifnull, i_iald, i_bald, i_zald, i_lald, i_aald, i_iast, i_bast, i_zast, i_last, i_alen, i_iret, i_lret, i_aret, i_vret, i_oinit, i_cast, i_tsw, i_cases, i_mmin, i_mmax, i_lmin, i_throw, nb0, nb1, nint, nby0, rf_s, rf_n, of_r, of_n, tk_orf_rf, tk_c2, tk_ls, Value.category, tk_isR_ref, tk_isR_rf, tk_isR_null, i_xld, e1, v1, k1]
  refine ⟨by simp, R1.1.1.1, R1.1.1.2.1, by simp [Value.category], 1900, 4 * (lv 600 (jnM o.2.2) - lv 600 (jnM M)), 80000 * (lv 600 (jnM o.2.2) - lv 600 (jnM M)), by omega, by omega, by omega, Q _ _ _ _ _ R1 (fun w hw1 V' hI' h0 S2 ρ2 R2 hR2 => ?_)⟩
  exact finJ hE.1 c1 O1 hR2 hI' h0 hv hw1 hZ' N1 N2 (by rw [N4]; exact hk) hkw hhw hcs1 hss1 hc (by omega) hmc hms next
set_option maxHeartbeats 4000000 in
theorem k_wear (hE : T_Law Z d mc ms b L xs E) (hd : d = 2000) (hmc : mc = 601024) (hms : ms = 7293034) (hst : Z.1.stackTraces = false) (hL : 6 * c + 6 ≤ L) (hL2 : L ≤ 3072) (hZ : Z.2.2.2.2.2.1 ∉ q_L S) (h : LC Z c x m r S cs ss M) (next : NX Z b c x m r E) : E 1433 [some (.ref b), some (.ref x), some (.ref m), some (.ref r), some (.int (nI (6 * c))), l5, l6, l7] [] S cs ss := by
  refine hE.2.2.2.2.2.2.2.2.2.2.2.2.2.2.2.2.2.2.2.2.2.2.2.2.1 _ _ _ _ _ ?_
  obtain ⟨ρ, R, V, gh, hw, k, hC, hR, hI, hO, hIV, hJV, hk, hkw, hhw, hcs, hss⟩ := h
  have hc : c ≤ 511 := by omega
  have hB := hC.bd
  have r1 := lvl_le (jnM M)
  have r2 := lv_le 600 (jnM M)
  have r3 := lv_le 400 hw
  have e1 : nI (6 * c) + 1 = nI (6 * c + 1) := nI_add (6 * c) 1
  have v1 : vp_in (nI (6 * c + 1)) L := vp_in_nI (by omega) (by omega)
  have k1 : (nI (6 * c + 1)).toNatClampNeg = 6 * c + 1 := nI_clamp (by omega)
  have W := fun QR' H => w_wear (d := 1900) (mc := 170 + 5 * (lvl (jnM (o_wear M (xs (6 * c + 1))).2.2) - lvl (jnM M))) (ms := 6060 + 60000 * (lvl (jnM (o_wear M (xs (6 * c + 1))).2.2) - lvl (jnM M))) (QR := QR') (i := xs (6 * c + 1)) hst (by omega) hZ hC hO hIV hJV hc (Nat.le_refl _) (Nat.le_refl _) H
  have N := n_wear (i := xs (6 * c + 1)) hIV hB hJV hc
  have Q := fun B' ρ' S' R' QR' hR' H => q_wear (Z := Z) (m := m) (d := 1900) (mc := 4 * (lv 600 (jnM (o_wear M (xs (6 * c + 1))).2.2) - lv 600 (jnM M))) (ms := 80000 * (lv 600 (jnM (o_wear M (xs (6 * c + 1))).2.2) - lv 600 (jnM M))) (B := B') (ρ := ρ') (S := S') (R := R') (QR := QR') (V := V) (i := xs (6 * c + 1)) (by omega) hR' hI hIV hB hc hkw (by omega) (Nat.le_refl _) (Nat.le_refl _) H
  generalize (o_wear M (xs (6 * c + 1))) = o at N W Q
  obtain ⟨N1, N2, N3, N4⟩ := N
  have l1 := lvl_mono N3
  have l2 := lv_mono (b := 600) N3
  have r5 := lvl_le (jnM o.2.2)
  have hcs1 : cs + (170 + 5 * (lvl (jnM o.2.2) - lvl (jnM M))) + 4 * (lv 600 (jnM o.2.2) - lv 600 (jnM M)) ≤ 100 + 200 * (c + 1) + 5 * lvl (jnM o.2.2) + 4 * lv 600 (jnM o.2.2) + 2 * lv 400 hw := by omega
  have hss1 : ss + (6060 + 60000 * (lvl (jnM o.2.2) - lvl (jnM M))) + 80000 * (lv 600 (jnM o.2.2) - lv 600 (jnM M)) ≤ 20000 + 7000 * (c + 1) + 60000 * lvl (jnM o.2.2) + 80000 * lv 600 (jnM o.2.2) + 30000 * lv 400 hw := by omega
  have rm := room_ok hc hmc hms hcs1 hss1
  simp -implicitDefEqProofs [t_Law_1433, i_aload, i_iload, i_lload, i_istore, i_lstore, i_astore, i_iinc, i_push, i_getI, i_getJ, i_getR, i_putI, i_putJ, i_putR, i_iadd, i_isub, i_imul, i_iand, i_ior, i_ixor, i_ishl, i_ishr, i_iushr, i_idiv, i_irem, i_ladd, i_lsub, i_lmul, i_land, i_lor, i_lxor, i_ldiv, i_lrem, i_lshl, i_lshr, i_lcmp, i_ineg, i_lneg, i_i2l, i_l2i, i_i2b, i_i2c, i_dup, i_pop, i_dup_x1, i_dup2, i_icmp_eq, i_icmp_lt, i_icmp_ge, i_icmp_gt, i_icmp_le, i_if_eq, i_if_lt, i_if_ge, i_if_gt, i_if_le, i_goto, i_ifnull, i_iald, i_bald, i_zald, i_lald, i_aald, i_iast, i_bast, i_zast, i_last, i_alen, i_iret, i_lret, i_aret, i_vret, i_oinit, i_cast, i_tsw, i_cases, i_mmin, i_mmax, i_lmin, i_throw, nb0, nb1, nint, nby0, rf_s, rf_n, of_r, of_n, tk_orf_rf, tk_c2, tk_ls, Value.category, tk_isR_ref, tk_isR_rf, tk_isR_null, i_xld, e1, v1, k1]
  refine ⟨by simp, by simp [Value.category], 1900, 170 + 5 * (lvl (jnM o.2.2) - lvl (jnM M)), 6060 + 60000 * (lvl (jnM o.2.2) - lvl (jnM M)), by omega, by omega, by omega, W _ (fun S' ρ' gh' hF hC' hO' hZ' hv => ?_)⟩
  obtain ⟨c1, R1, O1⟩ := midW hF hC' hO' hO hR hZ'
  simp -implicitDefEqProofs [i_aload, i_iload, i_lload, i_istore, i_lstore, i_astore, i_iinc, i_push, i_getI, i_getJ, i_getR, i_putI, i_putJ, i_putR, i_iadd, i_isub, i_imul, i_iand, i_ior, i_ixor, i_ishl, i_ishr, i_iushr, i_idiv, i_irem, i_ladd, i_lsub, i_lmul, i_land, i_lor, i_lxor, i_ldiv, i_lrem, i_lshl, i_lshr, i_lcmp, i_ineg, i_lneg, i_i2l, i_l2i, i_i2b, i_i2c, i_dup, i_pop, i_dup_x1, i_dup2, i_icmp_eq, i_icmp_lt, i_icmp_ge, i_icmp_gt, i_icmp_le, i_if_eq, i_if_lt, i_if_ge, i_if_gt, i_if_le, i_goto, i_ifnull, i_iald, i_bald, i_zald, i_lald, i_aald, i_iast, i_bast, i_zast, i_last, i_alen, i_iret, i_lret, i_aret, i_vret, i_oinit, i_cast, i_tsw, i_cases, i_mmin, i_mmax, i_lmin, i_throw, nb0, nb1, nint, nby0, rf_s, rf_n, of_r, of_n, tk_orf_rf, tk_c2, tk_ls, Value.category, tk_isR_ref, tk_isR_rf, tk_isR_null, i_xld, e1, v1, k1]
  refine ⟨by simp, R1.1.1.1, R1.1.1.2.1, by simp [Value.category], 1900, 4 * (lv 600 (jnM o.2.2) - lv 600 (jnM M)), 80000 * (lv 600 (jnM o.2.2) - lv 600 (jnM M)), by omega, by omega, by omega, Q _ _ _ _ _ R1 (fun w hw1 V' hI' h0 S2 ρ2 R2 hR2 => ?_)⟩
  exact finJ hE.1 c1 O1 hR2 hI' h0 hv hw1 hZ' N1 N2 (by rw [N4]; exact hk) hkw hhw hcs1 hss1 hc (by omega) hmc hms next
set_option maxHeartbeats 4000000 in
theorem k_box (hE : T_Law Z d mc ms b L xs E) (hd : d = 2000) (hmc : mc = 601024) (hms : ms = 7293034) (hst : Z.1.stackTraces = false) (hL : 6 * c + 6 ≤ L) (hL2 : L ≤ 3072) (hZ : Z.2.2.2.2.2.1 ∉ q_L S) (h : LC Z c x m r S cs ss M) (next : NX Z b c x m r E) : E 1488 [some (.ref b), some (.ref x), some (.ref m), some (.ref r), some (.int (nI (6 * c))), l5, l6, l7] [] S cs ss := by
  refine hE.2.2.2.2.2.2.2.2.2.2.2.2.2.2.2.2.2.2.2.2.2.2.2.2.2.1 _ _ _ _ _ ?_
  obtain ⟨ρ, R, V, gh, hw, k, hC, hR, hI, hO, hIV, hJV, hk, hkw, hhw, hcs, hss⟩ := h
  have hc : c ≤ 511 := by omega
  have hB := hC.bd
  have r1 := lvl_le (jnM M)
  have r2 := lv_le 600 (jnM M)
  have r3 := lv_le 400 hw
  have e1 : nI (6 * c) + 1 = nI (6 * c + 1) := nI_add (6 * c) 1
  have v1 : vp_in (nI (6 * c + 1)) L := vp_in_nI (by omega) (by omega)
  have k1 : (nI (6 * c + 1)).toNatClampNeg = 6 * c + 1 := nI_clamp (by omega)
  have W := fun QR' H => w_box (d := 1900) (mc := 170 + 5 * (lvl (jnM (o_box M (xs (6 * c + 1))).2.2) - lvl (jnM M))) (ms := 6060 + 60000 * (lvl (jnM (o_box M (xs (6 * c + 1))).2.2) - lvl (jnM M))) (QR := QR') (i := xs (6 * c + 1)) hst (by omega) hZ hC hO hIV hJV hc (Nat.le_refl _) (Nat.le_refl _) H
  have N := n_box (i := xs (6 * c + 1)) hIV hB hJV hc
  have Q := fun B' ρ' S' R' QR' hR' H => q_box (Z := Z) (m := m) (d := 1900) (mc := 4 * (lv 600 (jnM (o_box M (xs (6 * c + 1))).2.2) - lv 600 (jnM M))) (ms := 80000 * (lv 600 (jnM (o_box M (xs (6 * c + 1))).2.2) - lv 600 (jnM M))) (B := B') (ρ := ρ') (S := S') (R := R') (QR := QR') (V := V) (i := xs (6 * c + 1)) (by omega) hR' hI hIV hB hc hkw (by omega) (Nat.le_refl _) (Nat.le_refl _) H
  generalize (o_box M (xs (6 * c + 1))) = o at N W Q
  obtain ⟨N1, N2, N3, N4⟩ := N
  have l1 := lvl_mono N3
  have l2 := lv_mono (b := 600) N3
  have r5 := lvl_le (jnM o.2.2)
  have hcs1 : cs + (170 + 5 * (lvl (jnM o.2.2) - lvl (jnM M))) + 4 * (lv 600 (jnM o.2.2) - lv 600 (jnM M)) ≤ 100 + 200 * (c + 1) + 5 * lvl (jnM o.2.2) + 4 * lv 600 (jnM o.2.2) + 2 * lv 400 hw := by omega
  have hss1 : ss + (6060 + 60000 * (lvl (jnM o.2.2) - lvl (jnM M))) + 80000 * (lv 600 (jnM o.2.2) - lv 600 (jnM M)) ≤ 20000 + 7000 * (c + 1) + 60000 * lvl (jnM o.2.2) + 80000 * lv 600 (jnM o.2.2) + 30000 * lv 400 hw := by omega
  have rm := room_ok hc hmc hms hcs1 hss1
  simp -implicitDefEqProofs [t_Law_1488, i_aload, i_iload, i_lload, i_istore, i_lstore, i_astore, i_iinc, i_push, i_getI, i_getJ, i_getR, i_putI, i_putJ, i_putR, i_iadd, i_isub, i_imul, i_iand, i_ior, i_ixor, i_ishl, i_ishr, i_iushr, i_idiv, i_irem, i_ladd, i_lsub, i_lmul, i_land, i_lor, i_lxor, i_ldiv, i_lrem, i_lshl, i_lshr, i_lcmp, i_ineg, i_lneg, i_i2l, i_l2i, i_i2b, i_i2c, i_dup, i_pop, i_dup_x1, i_dup2, i_icmp_eq, i_icmp_lt, i_icmp_ge, i_icmp_gt, i_icmp_le, i_if_eq, i_if_lt, i_if_ge, i_if_gt, i_if_le, i_goto, i_ifnull, i_iald, i_bald, i_zald, i_lald, i_aald, i_iast, i_bast, i_zast, i_last, i_alen, i_iret, i_lret, i_aret, i_vret, i_oinit, i_cast, i_tsw, i_cases, i_mmin, i_mmax, i_lmin, i_throw, nb0, nb1, nint, nby0, rf_s, rf_n, of_r, of_n, tk_orf_rf, tk_c2, tk_ls, Value.category, tk_isR_ref, tk_isR_rf, tk_isR_null, i_xld, e1, v1, k1]
  refine ⟨by simp, by simp [Value.category], 1900, 170 + 5 * (lvl (jnM o.2.2) - lvl (jnM M)), 6060 + 60000 * (lvl (jnM o.2.2) - lvl (jnM M)), by omega, by omega, by omega, W _ (fun S' ρ' gh' hF hC' hO' hZ' hv => ?_)⟩
  obtain ⟨c1, R1, O1⟩ := midW hF hC' hO' hO hR hZ'
  simp -implicitDefEqProofs [i_aload, i_iload, i_lload, i_istore, i_lstore, i_astore, i_iinc, i_push, i_getI, i_getJ, i_getR, i_putI, i_putJ, i_putR, i_iadd, i_isub, i_imul, i_iand, i_ior, i_ixor, i_ishl, i_ishr, i_iushr, i_idiv, i_irem, i_ladd, i_lsub, i_lmul, i_land, i_lor, i_lxor, i_ldiv, i_lrem, i_lshl, i_lshr, i_lcmp, i_ineg, i_lneg, i_i2l, i_l2i, i_i2b, i_i2c, i_dup, i_pop, i_dup_x1, i_dup2, i_icmp_eq, i_icmp_lt, i_icmp_ge, i_icmp_gt, i_icmp_le, i_if_eq, i_if_lt, i_if_ge, i_if_gt, i_if_le, i_goto, i_ifnull, i_iald, i_bald, i_zald, i_lald, i_aald, i_iast, i_bast, i_zast, i_last, i_alen, i_iret, i_lret, i_aret, i_vret, i_oinit, i_cast, i_tsw, i_cases, i_mmin, i_mmax, i_lmin, i_throw, nb0, nb1, nint, nby0, rf_s, rf_n, of_r, of_n, tk_orf_rf, tk_c2, tk_ls, Value.category, tk_isR_ref, tk_isR_rf, tk_isR_null, i_xld, e1, v1, k1]
  refine ⟨by simp, R1.1.1.1, R1.1.1.2.1, by simp [Value.category], 1900, 4 * (lv 600 (jnM o.2.2) - lv 600 (jnM M)), 80000 * (lv 600 (jnM o.2.2) - lv 600 (jnM M)), by omega, by omega, by omega, Q _ _ _ _ _ R1 (fun w hw1 V' hI' h0 S2 ρ2 R2 hR2 => ?_)⟩
  exact finJ hE.1 c1 O1 hR2 hI' h0 hv hw1 hZ' N1 N2 (by rw [N4]; exact hk) hkw hhw hcs1 hss1 hc (by omega) hmc hms next
set_option maxHeartbeats 4000000 in
theorem k_journal (hE : T_Law Z d mc ms b L xs E) (hd : d = 2000) (hmc : mc = 601024) (hms : ms = 7293034) (hst : Z.1.stackTraces = false) (hL : 6 * c + 6 ≤ L) (hL2 : L ≤ 3072) (hZ : Z.2.2.2.2.2.1 ∉ q_L S) (h : LC Z c x m r S cs ss M) (next : NX Z b c x m r E) : E 1543 [some (.ref b), some (.ref x), some (.ref m), some (.ref r), some (.int (nI (6 * c))), l5, l6, l7] [] S cs ss := by
  refine hE.2.2.2.2.2.2.2.2.2.2.2.2.2.2.2.2.2.2.2.2.2.2.2.2.2.2.1 _ _ _ _ _ ?_
  obtain ⟨ρ, R, V, gh, hw, k, hC, hR, hI, hO, hIV, hJV, hk, hkw, hhw, hcs, hss⟩ := h
  have hc : c ≤ 511 := by omega
  have hB := hC.bd
  have r1 := lvl_le (jnM M)
  have r2 := lv_le 600 (jnM M)
  have r3 := lv_le 400 hw
  have e1 : nI (6 * c) + 1 = nI (6 * c + 1) := nI_add (6 * c) 1
  have v1 : vp_in (nI (6 * c + 1)) L := vp_in_nI (by omega) (by omega)
  have k1 : (nI (6 * c + 1)).toNatClampNeg = 6 * c + 1 := nI_clamp (by omega)
  have e2 : nI (6 * c) + 2 = nI (6 * c + 2) := nI_add (6 * c) 2
  have v2 : vp_in (nI (6 * c + 2)) L := vp_in_nI (by omega) (by omega)
  have k2 : (nI (6 * c + 2)).toNatClampNeg = 6 * c + 2 := nI_clamp (by omega)
  have W := fun QR' H => w_journal (d := 1900) (mc := 170 + 5 * (lvl (jnM (o_journal M (xs (6 * c + 1)) (xs (6 * c + 2))).2.2) - lvl (jnM M))) (ms := 6060 + 60000 * (lvl (jnM (o_journal M (xs (6 * c + 1)) (xs (6 * c + 2))).2.2) - lvl (jnM M))) (QR := QR') (i := xs (6 * c + 1)) (w0 := xs (6 * c + 2)) hst (by omega) hZ hC hO hIV hJV hc (Nat.le_refl _) (Nat.le_refl _) H
  have N := n_journal (i := xs (6 * c + 1)) (w0 := xs (6 * c + 2)) hIV hB hJV hc
  have Q := fun B' ρ' S' R' QR' hR' H => q_journal (Z := Z) (m := m) (d := 1900) (mc := 4 * (lv 600 (jnM (o_journal M (xs (6 * c + 1)) (xs (6 * c + 2))).2.2) - lv 600 (jnM M))) (ms := 80000 * (lv 600 (jnM (o_journal M (xs (6 * c + 1)) (xs (6 * c + 2))).2.2) - lv 600 (jnM M))) (B := B') (ρ := ρ') (S := S') (R := R') (QR := QR') (V := V) (i := xs (6 * c + 1)) (w0 := xs (6 * c + 2)) (by omega) hR' hI hIV hB hc hkw (by omega) (Nat.le_refl _) (Nat.le_refl _) H
  generalize (o_journal M (xs (6 * c + 1)) (xs (6 * c + 2))) = o at N W Q
  obtain ⟨N1, N2, N3, N4⟩ := N
  have l1 := lvl_mono N3
  have l2 := lv_mono (b := 600) N3
  have r5 := lvl_le (jnM o.2.2)
  have hcs1 : cs + (170 + 5 * (lvl (jnM o.2.2) - lvl (jnM M))) + 4 * (lv 600 (jnM o.2.2) - lv 600 (jnM M)) ≤ 100 + 200 * (c + 1) + 5 * lvl (jnM o.2.2) + 4 * lv 600 (jnM o.2.2) + 2 * lv 400 hw := by omega
  have hss1 : ss + (6060 + 60000 * (lvl (jnM o.2.2) - lvl (jnM M))) + 80000 * (lv 600 (jnM o.2.2) - lv 600 (jnM M)) ≤ 20000 + 7000 * (c + 1) + 60000 * lvl (jnM o.2.2) + 80000 * lv 600 (jnM o.2.2) + 30000 * lv 400 hw := by omega
  have rm := room_ok hc hmc hms hcs1 hss1
  simp -implicitDefEqProofs [t_Law_1543, i_aload, i_iload, i_lload, i_istore, i_lstore, i_astore, i_iinc, i_push, i_getI, i_getJ, i_getR, i_putI, i_putJ, i_putR, i_iadd, i_isub, i_imul, i_iand, i_ior, i_ixor, i_ishl, i_ishr, i_iushr, i_idiv, i_irem, i_ladd, i_lsub, i_lmul, i_land, i_lor, i_lxor, i_ldiv, i_lrem, i_lshl, i_lshr, i_lcmp, i_ineg, i_lneg, i_i2l, i_l2i, i_i2b, i_i2c, i_dup, i_pop, i_dup_x1, i_dup2, i_icmp_eq, i_icmp_lt, i_icmp_ge, i_icmp_gt, i_icmp_le, i_if_eq, i_if_lt, i_if_ge, i_if_gt, i_if_le, i_goto, i_ifnull, i_iald, i_bald, i_zald, i_lald, i_aald, i_iast, i_bast, i_zast, i_last, i_alen, i_iret, i_lret, i_aret, i_vret, i_oinit, i_cast, i_tsw, i_cases, i_mmin, i_mmax, i_lmin, i_throw, nb0, nb1, nint, nby0, rf_s, rf_n, of_r, of_n, tk_orf_rf, tk_c2, tk_ls, Value.category, tk_isR_ref, tk_isR_rf, tk_isR_null, i_xld, e1, v1, k1, e2, v2, k2]
  refine ⟨by simp, by simp [Value.category], 1900, 170 + 5 * (lvl (jnM o.2.2) - lvl (jnM M)), 6060 + 60000 * (lvl (jnM o.2.2) - lvl (jnM M)), by omega, by omega, by omega, W _ (fun S' ρ' gh' hF hC' hO' hZ' hv => ?_)⟩
  obtain ⟨c1, R1, O1⟩ := midW hF hC' hO' hO hR hZ'
  simp -implicitDefEqProofs [i_aload, i_iload, i_lload, i_istore, i_lstore, i_astore, i_iinc, i_push, i_getI, i_getJ, i_getR, i_putI, i_putJ, i_putR, i_iadd, i_isub, i_imul, i_iand, i_ior, i_ixor, i_ishl, i_ishr, i_iushr, i_idiv, i_irem, i_ladd, i_lsub, i_lmul, i_land, i_lor, i_lxor, i_ldiv, i_lrem, i_lshl, i_lshr, i_lcmp, i_ineg, i_lneg, i_i2l, i_l2i, i_i2b, i_i2c, i_dup, i_pop, i_dup_x1, i_dup2, i_icmp_eq, i_icmp_lt, i_icmp_ge, i_icmp_gt, i_icmp_le, i_if_eq, i_if_lt, i_if_ge, i_if_gt, i_if_le, i_goto, i_ifnull, i_iald, i_bald, i_zald, i_lald, i_aald, i_iast, i_bast, i_zast, i_last, i_alen, i_iret, i_lret, i_aret, i_vret, i_oinit, i_cast, i_tsw, i_cases, i_mmin, i_mmax, i_lmin, i_throw, nb0, nb1, nint, nby0, rf_s, rf_n, of_r, of_n, tk_orf_rf, tk_c2, tk_ls, Value.category, tk_isR_ref, tk_isR_rf, tk_isR_null, i_xld, e1, v1, k1, e2, v2, k2]
  refine ⟨by simp, R1.1.1.1, R1.1.1.2.1, by simp [Value.category], 1900, 4 * (lv 600 (jnM o.2.2) - lv 600 (jnM M)), 80000 * (lv 600 (jnM o.2.2) - lv 600 (jnM M)), by omega, by omega, by omega, Q _ _ _ _ _ R1 (fun w hw1 V' hI' h0 S2 ρ2 R2 hR2 => ?_)⟩
  exact finJ hE.1 c1 O1 hR2 hI' h0 hv hw1 hZ' N1 N2 (by rw [N4]; exact hk) hkw hhw hcs1 hss1 hc (by omega) hmc hms next
set_option maxHeartbeats 4000000 in
theorem k_rain (hE : T_Law Z d mc ms b L xs E) (hd : d = 2000) (hmc : mc = 601024) (hms : ms = 7293034) (hst : Z.1.stackTraces = false) (hL : 6 * c + 6 ≤ L) (hL2 : L ≤ 3072) (hZ : Z.2.2.2.2.2.1 ∉ q_L S) (h : LC Z c x m r S cs ss M) (next : NX Z b c x m r E) : E 787 [some (.ref b), some (.ref x), some (.ref m), some (.ref r), some (.int (nI (6 * c))), l5, l6, l7] [] S cs ss := by
  refine hE.2.2.2.2.2.2.2.2.2.2.2.2.2.2.1 _ _ _ _ _ ?_
  obtain ⟨ρ, R, V, gh, hw, k, hC, hR, hI, hO, hIV, hJV, hk, hkw, hhw, hcs, hss⟩ := h
  have hc : c ≤ 511 := by omega
  have hB := hC.bd
  have r1 := lvl_le (jnM M)
  have r2 := lv_le 600 (jnM M)
  have r3 := lv_le 400 hw
  have e1 : nI (6 * c) + 1 = nI (6 * c + 1) := nI_add (6 * c) 1
  have v1 : vp_in (nI (6 * c + 1)) L := vp_in_nI (by omega) (by omega)
  have k1 : (nI (6 * c + 1)).toNatClampNeg = 6 * c + 1 := nI_clamp (by omega)
  have W := fun QR' H => w_rain (d := 1900) (mc := 170 + 5 * (lvl (jnM (o_rain M (q_aJ S r 0) (xs (6 * c + 1))).2.2) - lvl (jnM M))) (ms := 6060 + 60000 * (lvl (jnM (o_rain M (q_aJ S r 0) (xs (6 * c + 1))).2.2) - lvl (jnM M))) (QR := QR') (i := xs (6 * c + 1)) hst (by omega) hZ hC hO hIV hJV hc (Nat.le_refl _) (Nat.le_refl _) H
  have N := n_rain (v := q_aJ S r 0) (i := xs (6 * c + 1)) hIV hB hJV hc
  have Q := fun B' ρ' S' R' QR' hR' H => q_rain (Z := Z) (m := m) (d := 1900) (mc := 4 * (lv 600 (jnM (o_rain M (q_aJ S r 0) (xs (6 * c + 1))).2.2) - lv 600 (jnM M))) (ms := 80000 * (lv 600 (jnM (o_rain M (q_aJ S r 0) (xs (6 * c + 1))).2.2) - lv 600 (jnM M))) (B := B') (ρ := ρ') (S := S') (R := R') (QR := QR') (V := V) (v := q_aJ S r 0) (i := xs (6 * c + 1)) (by omega) hR' hI hIV hB hc hkw (by omega) (Nat.le_refl _) (Nat.le_refl _) H
  generalize (o_rain M (q_aJ S r 0) (xs (6 * c + 1))) = o at N W Q
  obtain ⟨N1, N2, N3, N4⟩ := N
  have l1 := lvl_mono N3
  have l2 := lv_mono (b := 600) N3
  have r5 := lvl_le (jnM o.2.2)
  have hcs1 : cs + (170 + 5 * (lvl (jnM o.2.2) - lvl (jnM M))) + 4 * (lv 600 (jnM o.2.2) - lv 600 (jnM M)) ≤ 100 + 200 * (c + 1) + 5 * lvl (jnM o.2.2) + 4 * lv 600 (jnM o.2.2) + 2 * lv 400 hw := by omega
  have hss1 : ss + (6060 + 60000 * (lvl (jnM o.2.2) - lvl (jnM M))) + 80000 * (lv 600 (jnM o.2.2) - lv 600 (jnM M)) ≤ 20000 + 7000 * (c + 1) + 60000 * lvl (jnM o.2.2) + 80000 * lv 600 (jnM o.2.2) + 30000 * lv 400 hw := by omega
  have rm := room_ok hc hmc hms hcs1 hss1
  simp -implicitDefEqProofs [t_Law_787, i_aload, i_iload, i_lload, i_istore, i_lstore, i_astore, i_iinc, i_push, i_getI, i_getJ, i_getR, i_putI, i_putJ, i_putR, i_iadd, i_isub, i_imul, i_iand, i_ior, i_ixor, i_ishl, i_ishr, i_iushr, i_idiv, i_irem, i_ladd, i_lsub, i_lmul, i_land, i_lor, i_lxor, i_ldiv, i_lrem, i_lshl, i_lshr, i_lcmp, i_ineg, i_lneg, i_i2l, i_l2i, i_i2b, i_i2c, i_dup, i_pop, i_dup_x1, i_dup2, i_icmp_eq, i_icmp_lt, i_icmp_ge, i_icmp_gt, i_icmp_le, i_if_eq, i_if_lt, i_if_ge, i_if_gt, i_if_le, i_goto, i_ifnull, i_iald, i_bald, i_zald, i_lald, i_aald, i_iast, i_bast, i_zast, i_last, i_alen, i_iret, i_lret, i_aret, i_vret, i_oinit, i_cast, i_tsw, i_cases, i_mmin, i_mmax, i_lmin, i_throw, nb0, nb1, nint, nby0, rf_s, rf_n, of_r, of_n, tk_orf_rf, tk_c2, tk_ls, Value.category, tk_isR_ref, tk_isR_rf, tk_isR_null, i_xld, e1, v1, k1]
  refine ⟨by simp, by simp [Value.category], 1900, 170 + 5 * (lvl (jnM o.2.2) - lvl (jnM M)), 6060 + 60000 * (lvl (jnM o.2.2) - lvl (jnM M)), by omega, by omega, by omega, W _ (fun S' ρ' gh' hF hC' hO' hZ' hv => ?_)⟩
  obtain ⟨c1, R1, O1⟩ := midW hF hC' hO' hO hR hZ'
  simp -implicitDefEqProofs [i_aload, i_iload, i_lload, i_istore, i_lstore, i_astore, i_iinc, i_push, i_getI, i_getJ, i_getR, i_putI, i_putJ, i_putR, i_iadd, i_isub, i_imul, i_iand, i_ior, i_ixor, i_ishl, i_ishr, i_iushr, i_idiv, i_irem, i_ladd, i_lsub, i_lmul, i_land, i_lor, i_lxor, i_ldiv, i_lrem, i_lshl, i_lshr, i_lcmp, i_ineg, i_lneg, i_i2l, i_l2i, i_i2b, i_i2c, i_dup, i_pop, i_dup_x1, i_dup2, i_icmp_eq, i_icmp_lt, i_icmp_ge, i_icmp_gt, i_icmp_le, i_if_eq, i_if_lt, i_if_ge, i_if_gt, i_if_le, i_goto, i_ifnull, i_iald, i_bald, i_zald, i_lald, i_aald, i_iast, i_bast, i_zast, i_last, i_alen, i_iret, i_lret, i_aret, i_vret, i_oinit, i_cast, i_tsw, i_cases, i_mmin, i_mmax, i_lmin, i_throw, nb0, nb1, nint, nby0, rf_s, rf_n, of_r, of_n, tk_orf_rf, tk_c2, tk_ls, Value.category, tk_isR_ref, tk_isR_rf, tk_isR_null, i_xld, e1, v1, k1]
  refine ⟨by simp, R1.1.1.1, R1.1.1.2.1, by simp [Value.category], 1900, 4 * (lv 600 (jnM o.2.2) - lv 600 (jnM M)), 80000 * (lv 600 (jnM o.2.2) - lv 600 (jnM M)), by omega, by omega, by omega, Q _ _ _ _ _ R1 (fun V' hI' h0 S2 ρ2 R2 hR2 => ?_)⟩
  exact finU hE.1 c1 O1 hR2 hI' h0 hZ' N1 N2 (by rw [N4]; exact hk) hkw hhw hcs1 hss1 hc (by omega) hmc hms next
set_option maxHeartbeats 4000000 in
theorem k_fault (hE : T_Law Z d mc ms b L xs E) (hd : d = 2000) (hmc : mc = 601024) (hms : ms = 7293034) (hst : Z.1.stackTraces = false) (hL : 6 * c + 6 ≤ L) (hL2 : L ≤ 3072) (hZ : Z.2.2.2.2.2.1 ∉ q_L S) (h : LC Z c x m r S cs ss M) (next : NX Z b c x m r E) : E 297 [some (.ref b), some (.ref x), some (.ref m), some (.ref r), some (.int (nI (6 * c))), l5, l6, l7] [] S cs ss := by
  refine hE.2.2.2.2.2.1 _ _ _ _ _ ?_
  obtain ⟨ρ, R, V, gh, hw, k, hC, hR, hI, hO, hIV, hJV, hk, hkw, hhw, hcs, hss⟩ := h
  have hc : c ≤ 511 := by omega
  have hB := hC.bd
  have r1 := lvl_le (jnM M)
  have r2 := lv_le 600 (jnM M)
  have r3 := lv_le 400 hw
  simp -implicitDefEqProofs [t_Law_297, i_aload, i_iload, i_lload, i_istore, i_lstore, i_astore, i_iinc, i_push, i_getI, i_getJ, i_getR, i_putI, i_putJ, i_putR, i_iadd, i_isub, i_imul, i_iand, i_ior, i_ixor, i_ishl, i_ishr, i_iushr, i_idiv, i_irem, i_ladd, i_lsub, i_lmul, i_land, i_lor, i_lxor, i_ldiv, i_lrem, i_lshl, i_lshr, i_lcmp, i_ineg, i_lneg, i_i2l, i_l2i, i_i2b, i_i2c, i_dup, i_pop, i_dup_x1, i_dup2, i_icmp_eq, i_icmp_lt, i_icmp_ge, i_icmp_gt, i_icmp_le, i_if_eq, i_if_lt, i_if_ge, i_if_gt, i_if_le, i_goto, i_ifnull, i_iald, i_bald, i_zald, i_lald, i_aald, i_iast, i_bast, i_zast, i_last, i_alen, i_iret, i_lret, i_aret, i_vret, i_oinit, i_cast, i_tsw, i_cases, i_mmin, i_mmax, i_lmin, i_throw, nb0, nb1, nint, nby0, rf_s, rf_n, of_r, of_n, tk_orf_rf, tk_c2, tk_ls, Value.category, tk_isR_ref, tk_isR_rf, tk_isR_null, i_xld]
  refine ⟨by simp, hC.1.1, hC.1.2.1, by simp [Value.category], 1900, 0, 0, by omega, by omega, by omega, c_fault hC ?_⟩
  obtain ⟨c1, R1, O1⟩ := midW (FX.of FO.rfl') hC hO hO hR hZ
  simp -implicitDefEqProofs [i_aload, i_iload, i_lload, i_istore, i_lstore, i_astore, i_iinc, i_push, i_getI, i_getJ, i_getR, i_putI, i_putJ, i_putR, i_iadd, i_isub, i_imul, i_iand, i_ior, i_ixor, i_ishl, i_ishr, i_iushr, i_idiv, i_irem, i_ladd, i_lsub, i_lmul, i_land, i_lor, i_lxor, i_ldiv, i_lrem, i_lshl, i_lshr, i_lcmp, i_ineg, i_lneg, i_i2l, i_l2i, i_i2b, i_i2c, i_dup, i_pop, i_dup_x1, i_dup2, i_icmp_eq, i_icmp_lt, i_icmp_ge, i_icmp_gt, i_icmp_le, i_if_eq, i_if_lt, i_if_ge, i_if_gt, i_if_le, i_goto, i_ifnull, i_iald, i_bald, i_zald, i_lald, i_aald, i_iast, i_bast, i_zast, i_last, i_alen, i_iret, i_lret, i_aret, i_vret, i_oinit, i_cast, i_tsw, i_cases, i_mmin, i_mmax, i_lmin, i_throw, nb0, nb1, nint, nby0, rf_s, rf_n, of_r, of_n, tk_orf_rf, tk_c2, tk_ls, Value.category, tk_isR_ref, tk_isR_rf, tk_isR_null, i_xld]
  refine ⟨by simp, R1.1.1.1, R1.1.1.2.1, by simp [Value.category], 1900, 0, 0, by omega, by omega, by omega, rr_fault R1 hI (fun V' hI' h0 S2 ρ2 R2 hR2 => ?_)⟩
  simp -implicitDefEqProofs [i_aload, i_iload, i_lload, i_istore, i_lstore, i_astore, i_iinc, i_push, i_getI, i_getJ, i_getR, i_putI, i_putJ, i_putR, i_iadd, i_isub, i_imul, i_iand, i_ior, i_ixor, i_ishl, i_ishr, i_iushr, i_idiv, i_irem, i_ladd, i_lsub, i_lmul, i_land, i_lor, i_lxor, i_ldiv, i_lrem, i_lshl, i_lshr, i_lcmp, i_ineg, i_lneg, i_i2l, i_l2i, i_i2b, i_i2c, i_dup, i_pop, i_dup_x1, i_dup2, i_icmp_eq, i_icmp_lt, i_icmp_ge, i_icmp_gt, i_icmp_le, i_if_eq, i_if_lt, i_if_ge, i_if_gt, i_if_le, i_goto, i_ifnull, i_iald, i_bald, i_zald, i_lald, i_aald, i_iast, i_bast, i_zast, i_last, i_alen, i_iret, i_lret, i_aret, i_vret, i_oinit, i_cast, i_tsw, i_cases, i_mmin, i_mmax, i_lmin, i_throw, nb0, nb1, nint, nby0, rf_s, rf_n, of_r, of_n, tk_orf_rf, tk_c2, tk_ls, Value.category, tk_isR_ref, tk_isR_rf, tk_isR_null]
  exact hE.1 _ _ _ _ _ _ (fun hZ2 => next _ _ _ _ _ _ _ hZ2 ((fin_LC (o := (0, 0, M)) c1 O1 hR2 hI' hZ (hIV.mono (Nat.le_succ c)) hJV hk hkw hhw (by dsimp only; omega) (by dsimp only; omega)).2.2 hZ2))
set_option maxHeartbeats 4000000 in
theorem k_clause (hE : T_Law Z d mc ms b L xs E) (hd : d = 2000) (hmc : mc = 601024) (hms : ms = 7293034) (hst : Z.1.stackTraces = false) (hL : 6 * c + 6 ≤ L) (hL2 : L ≤ 3072) (hZ : Z.2.2.2.2.2.1 ∉ q_L S) (h : LC Z c x m r S cs ss M) (next : NX Z b c x m r E) : E 582 [some (.ref b), some (.ref x), some (.ref m), some (.ref r), some (.int (nI (6 * c))), l5, l6, l7] [] S cs ss := by
  refine hE.2.2.2.2.2.2.2.2.2.2.1 _ _ _ _ _ ?_
  obtain ⟨ρ, R, V, gh, hw, k, hC, hR, hI, hO, hIV, hJV, hk, hkw, hhw, hcs, hss⟩ := h
  have hc : c ≤ 511 := by omega
  have hB := hC.bd
  have r1 := lvl_le (jnM M)
  have r2 := lv_le 600 (jnM M)
  have r3 := lv_le 400 hw
  simp -implicitDefEqProofs [t_Law_582, i_aload, i_iload, i_lload, i_istore, i_lstore, i_astore, i_iinc, i_push, i_getI, i_getJ, i_getR, i_putI, i_putJ, i_putR, i_iadd, i_isub, i_imul, i_iand, i_ior, i_ixor, i_ishl, i_ishr, i_iushr, i_idiv, i_irem, i_ladd, i_lsub, i_lmul, i_land, i_lor, i_lxor, i_ldiv, i_lrem, i_lshl, i_lshr, i_lcmp, i_ineg, i_lneg, i_i2l, i_l2i, i_i2b, i_i2c, i_dup, i_pop, i_dup_x1, i_dup2, i_icmp_eq, i_icmp_lt, i_icmp_ge, i_icmp_gt, i_icmp_le, i_if_eq, i_if_lt, i_if_ge, i_if_gt, i_if_le, i_goto, i_ifnull, i_iald, i_bald, i_zald, i_lald, i_aald, i_iast, i_bast, i_zast, i_last, i_alen, i_iret, i_lret, i_aret, i_vret, i_oinit, i_cast, i_tsw, i_cases, i_mmin, i_mmax, i_lmin, i_throw, nb0, nb1, nint, nby0, rf_s, rf_n, of_r, of_n, tk_orf_rf, tk_c2, tk_ls, Value.category, tk_isR_ref, tk_isR_rf, tk_isR_null, i_xld]
  refine ⟨by simp, hC.1.1, hC.1.2.1, by simp [Value.category], 1900, 0, 0, by omega, by omega, by omega, c_clause hC ?_⟩
  obtain ⟨c1, R1, O1⟩ := midW (FX.of FO.rfl') hC hO hO hR hZ
  simp -implicitDefEqProofs [i_aload, i_iload, i_lload, i_istore, i_lstore, i_astore, i_iinc, i_push, i_getI, i_getJ, i_getR, i_putI, i_putJ, i_putR, i_iadd, i_isub, i_imul, i_iand, i_ior, i_ixor, i_ishl, i_ishr, i_iushr, i_idiv, i_irem, i_ladd, i_lsub, i_lmul, i_land, i_lor, i_lxor, i_ldiv, i_lrem, i_lshl, i_lshr, i_lcmp, i_ineg, i_lneg, i_i2l, i_l2i, i_i2b, i_i2c, i_dup, i_pop, i_dup_x1, i_dup2, i_icmp_eq, i_icmp_lt, i_icmp_ge, i_icmp_gt, i_icmp_le, i_if_eq, i_if_lt, i_if_ge, i_if_gt, i_if_le, i_goto, i_ifnull, i_iald, i_bald, i_zald, i_lald, i_aald, i_iast, i_bast, i_zast, i_last, i_alen, i_iret, i_lret, i_aret, i_vret, i_oinit, i_cast, i_tsw, i_cases, i_mmin, i_mmax, i_lmin, i_throw, nb0, nb1, nint, nby0, rf_s, rf_n, of_r, of_n, tk_orf_rf, tk_c2, tk_ls, Value.category, tk_isR_ref, tk_isR_rf, tk_isR_null, i_xld]
  refine ⟨by simp, R1.1.1.1, R1.1.1.2.1, by simp [Value.category], 1900, 0, 0, by omega, by omega, by omega, rr_clause R1 hI (fun V' hI' h0 S2 ρ2 R2 hR2 => ?_)⟩
  simp -implicitDefEqProofs [i_aload, i_iload, i_lload, i_istore, i_lstore, i_astore, i_iinc, i_push, i_getI, i_getJ, i_getR, i_putI, i_putJ, i_putR, i_iadd, i_isub, i_imul, i_iand, i_ior, i_ixor, i_ishl, i_ishr, i_iushr, i_idiv, i_irem, i_ladd, i_lsub, i_lmul, i_land, i_lor, i_lxor, i_ldiv, i_lrem, i_lshl, i_lshr, i_lcmp, i_ineg, i_lneg, i_i2l, i_l2i, i_i2b, i_i2c, i_dup, i_pop, i_dup_x1, i_dup2, i_icmp_eq, i_icmp_lt, i_icmp_ge, i_icmp_gt, i_icmp_le, i_if_eq, i_if_lt, i_if_ge, i_if_gt, i_if_le, i_goto, i_ifnull, i_iald, i_bald, i_zald, i_lald, i_aald, i_iast, i_bast, i_zast, i_last, i_alen, i_iret, i_lret, i_aret, i_vret, i_oinit, i_cast, i_tsw, i_cases, i_mmin, i_mmax, i_lmin, i_throw, nb0, nb1, nint, nby0, rf_s, rf_n, of_r, of_n, tk_orf_rf, tk_c2, tk_ls, Value.category, tk_isR_ref, tk_isR_rf, tk_isR_null]
  exact hE.1 _ _ _ _ _ _ (fun hZ2 => next _ _ _ _ _ _ _ hZ2 ((fin_LC (o := (0, 0, M)) c1 O1 hR2 hI' hZ (hIV.mono (Nat.le_succ c)) hJV hk hkw hhw (by dsimp only; omega) (by dsimp only; omega)).2.2 hZ2))
set_option maxHeartbeats 4000000 in
theorem k_count (hE : T_Law Z d mc ms b L xs E) (hd : d = 2000) (hmc : mc = 601024) (hms : ms = 7293034) (hst : Z.1.stackTraces = false) (hL : 6 * c + 6 ≤ L) (hL2 : L ≤ 3072) (hZ : Z.2.2.2.2.2.1 ∉ q_L S) (h : LC Z c x m r S cs ss M) (next : NX Z b c x m r E) : E 1610 [some (.ref b), some (.ref x), some (.ref m), some (.ref r), some (.int (nI (6 * c))), l5, l6, l7] [] S cs ss := by
  refine hE.2.2.2.2.2.2.2.2.2.2.2.2.2.2.2.2.2.2.2.2.2.2.2.2.2.2.2.1 _ _ _ _ _ ?_
  obtain ⟨ρ, R, V, gh, hw, k, hC, hR, hI, hO, hIV, hJV, hk, hkw, hhw, hcs, hss⟩ := h
  have hc : c ≤ 511 := by omega
  have hB := hC.bd
  have r1 := lvl_le (jnM M)
  have r2 := lv_le 600 (jnM M)
  have r3 := lv_le 400 hw
  have e1 : nI (6 * c) + 1 = nI (6 * c + 1) := nI_add (6 * c) 1
  have v1 : vp_in (nI (6 * c + 1)) L := vp_in_nI (by omega) (by omega)
  have k1 : (nI (6 * c + 1)).toNatClampNeg = 6 * c + 1 := nI_clamp (by omega)
  simp -implicitDefEqProofs [t_Law_1610, i_aload, i_iload, i_lload, i_istore, i_lstore, i_astore, i_iinc, i_push, i_getI, i_getJ, i_getR, i_putI, i_putJ, i_putR, i_iadd, i_isub, i_imul, i_iand, i_ior, i_ixor, i_ishl, i_ishr, i_iushr, i_idiv, i_irem, i_ladd, i_lsub, i_lmul, i_land, i_lor, i_lxor, i_ldiv, i_lrem, i_lshl, i_lshr, i_lcmp, i_ineg, i_lneg, i_i2l, i_l2i, i_i2b, i_i2c, i_dup, i_pop, i_dup_x1, i_dup2, i_icmp_eq, i_icmp_lt, i_icmp_ge, i_icmp_gt, i_icmp_le, i_if_eq, i_if_lt, i_if_ge, i_if_gt, i_if_le, i_goto, i_ifnull, i_iald, i_bald, i_zald, i_lald, i_aald, i_iast, i_bast, i_zast, i_last, i_alen, i_iret, i_lret, i_aret, i_vret, i_oinit, i_cast, i_tsw, i_cases, i_mmin, i_mmax, i_lmin, i_throw, nb0, nb1, nint, nby0, rf_s, rf_n, of_r, of_n, tk_orf_rf, tk_c2, tk_ls, Value.category, tk_isR_ref, tk_isR_rf, tk_isR_null, i_xld, e1, v1, k1]
  refine ⟨by simp, hC.1.1, hC.1.2.1, by simp [Value.category], 1900, 0, 0, by omega, by omega, by omega, c_count (w0 := xs (6 * c + 1)) (by omega) hC hIV.dry (fun v h0 h1 h2 h3 h4 h5 h6 h7 h8 h9 hn => ?_)⟩
  have hv := cnt_v h0 h1 h2 h3 h4 h5 h6 h7 h8 h9 hn
  subst hv
  obtain ⟨c1, R1, O1⟩ := midW (FX.of FO.rfl') hC hO hO hR hZ
  simp -implicitDefEqProofs [i_aload, i_iload, i_lload, i_istore, i_lstore, i_astore, i_iinc, i_push, i_getI, i_getJ, i_getR, i_putI, i_putJ, i_putR, i_iadd, i_isub, i_imul, i_iand, i_ior, i_ixor, i_ishl, i_ishr, i_iushr, i_idiv, i_irem, i_ladd, i_lsub, i_lmul, i_land, i_lor, i_lxor, i_ldiv, i_lrem, i_lshl, i_lshr, i_lcmp, i_ineg, i_lneg, i_i2l, i_l2i, i_i2b, i_i2c, i_dup, i_pop, i_dup_x1, i_dup2, i_icmp_eq, i_icmp_lt, i_icmp_ge, i_icmp_gt, i_icmp_le, i_if_eq, i_if_lt, i_if_ge, i_if_gt, i_if_le, i_goto, i_ifnull, i_iald, i_bald, i_zald, i_lald, i_aald, i_iast, i_bast, i_zast, i_last, i_alen, i_iret, i_lret, i_aret, i_vret, i_oinit, i_cast, i_tsw, i_cases, i_mmin, i_mmax, i_lmin, i_throw, nb0, nb1, nint, nby0, rf_s, rf_n, of_r, of_n, tk_orf_rf, tk_c2, tk_ls, Value.category, tk_isR_ref, tk_isR_rf, tk_isR_null, i_xld, e1, v1, k1]
  refine ⟨by simp, R1.1.1.1, R1.1.1.2.1, by simp [Value.category], 1900, 0, 0, by omega, by omega, by omega, rr_count R1 hI (fun V' hI' h0 S2 ρ2 R2 hR2 => ?_)⟩
  simp -implicitDefEqProofs [i_aload, i_iload, i_lload, i_istore, i_lstore, i_astore, i_iinc, i_push, i_getI, i_getJ, i_getR, i_putI, i_putJ, i_putR, i_iadd, i_isub, i_imul, i_iand, i_ior, i_ixor, i_ishl, i_ishr, i_iushr, i_idiv, i_irem, i_ladd, i_lsub, i_lmul, i_land, i_lor, i_lxor, i_ldiv, i_lrem, i_lshl, i_lshr, i_lcmp, i_ineg, i_lneg, i_i2l, i_l2i, i_i2b, i_i2c, i_dup, i_pop, i_dup_x1, i_dup2, i_icmp_eq, i_icmp_lt, i_icmp_ge, i_icmp_gt, i_icmp_le, i_if_eq, i_if_lt, i_if_ge, i_if_gt, i_if_le, i_goto, i_ifnull, i_iald, i_bald, i_zald, i_lald, i_aald, i_iast, i_bast, i_zast, i_last, i_alen, i_iret, i_lret, i_aret, i_vret, i_oinit, i_cast, i_tsw, i_cases, i_mmin, i_mmax, i_lmin, i_throw, nb0, nb1, nint, nby0, rf_s, rf_n, of_r, of_n, tk_orf_rf, tk_c2, tk_ls, Value.category, tk_isR_ref, tk_isR_rf, tk_isR_null]
  exact hE.1 _ _ _ _ _ _ (fun hZ2 => next _ _ _ _ _ _ _ hZ2 ((fin_LC (o := (0, 0, M)) c1 O1 hR2 hI' hZ (hIV.mono (Nat.le_succ c)) hJV hk hkw hhw (by dsimp only; omega) (by dsimp only; omega)).2.2 hZ2))
set_option maxHeartbeats 4000000 in
theorem k_feed (hE : T_Law Z d mc ms b L xs E) (hd : d = 2000) (hmc : mc = 601024) (hms : ms = 7293034) (hst : Z.1.stackTraces = false) (hL : 6 * c + 6 ≤ L) (hL2 : L ≤ 3072) (hZ : Z.2.2.2.2.2.1 ∉ q_L S) (h : LC Z c x m r S cs ss M) (next : NX Z b c x m r E) : E 156 [some (.ref b), some (.ref x), some (.ref m), some (.ref r), some (.int (nI (6 * c))), l5, l6, l7] [] S cs ss := by
  refine hE.2.2.2.1 _ _ _ _ _ ?_
  obtain ⟨ρ, R, V, gh, hw, k, hC, hR, hI, hO, hIV, hJV, hk, hkw, hhw, hcs, hss⟩ := h
  have hc : c ≤ 511 := by omega
  have hB := hC.bd
  have r1 := lvl_le (jnM M)
  have r2 := lv_le 600 (jnM M)
  have r3 := lv_le 400 hw
  have e1 : nI (6 * c) + 1 = nI (6 * c + 1) := nI_add (6 * c) 1
  have v1 : vp_in (nI (6 * c + 1)) L := vp_in_nI (by omega) (by omega)
  have k1 : (nI (6 * c + 1)).toNatClampNeg = 6 * c + 1 := nI_clamp (by omega)
  have e2 : nI (6 * c) + 2 = nI (6 * c + 2) := nI_add (6 * c) 2
  have v2 : vp_in (nI (6 * c + 2)) L := vp_in_nI (by omega) (by omega)
  have k2 : (nI (6 * c + 2)).toNatClampNeg = 6 * c + 2 := nI_clamp (by omega)
  have e3 : nI (6 * c) + 3 = nI (6 * c + 3) := nI_add (6 * c) 3
  have v3 : vp_in (nI (6 * c + 3)) L := vp_in_nI (by omega) (by omega)
  have k3 : (nI (6 * c + 3)).toNatClampNeg = 6 * c + 3 := nI_clamp (by omega)
  have e4 : nI (6 * c) + 4 = nI (6 * c + 4) := nI_add (6 * c) 4
  have v4 : vp_in (nI (6 * c + 4)) L := vp_in_nI (by omega) (by omega)
  have k4 : (nI (6 * c + 4)).toNatClampNeg = 6 * c + 4 := nI_clamp (by omega)
  have e5 : nI (6 * c) + 5 = nI (6 * c + 5) := nI_add (6 * c) 5
  have v5 : vp_in (nI (6 * c + 5)) L := vp_in_nI (by omega) (by omega)
  have k5 : (nI (6 * c + 5)).toNatClampNeg = 6 * c + 5 := nI_clamp (by omega)
  have jf := jn_feed (M := M) (a := xs (6 * c + 1)) (e := xs (6 * c + 2)) (f := xs (6 * c + 3)) (g := xs (6 * c + 4)) (h := xs (6 * c + 5))
  have ivf := hIV.feed (a := xs (6 * c + 1)) (b := xs (6 * c + 2)) (e := xs (6 * c + 3)) (f := xs (6 * c + 4)) (g := xs (6 * c + 5))
  have Q := fun B' ρ' S' R' QR' hR' H => rr_feed (Z := Z) (m := m) (hw := hw) (d := 1900) (mc := 0) (ms := 0) (B := B') (ρ := ρ') (S := S') (R := R') (QR := QR') (V := V) (a := xs (6 * c + 1)) (b := xs (6 * c + 2)) (c := xs (6 * c + 3)) (e := xs (6 * c + 4)) (f := xs (6 * c + 5)) hR' hI hB H
  have W := fun QR' H => c_feed (d := 1900) (mc := 0) (ms := 0) (QR := QR') (a := xs (6 * c + 1)) (b := xs (6 * c + 2)) (c := xs (6 * c + 3)) (e := xs (6 * c + 4)) (f := xs (6 * c + 5)) (by omega) hZ hC H
  generalize feedM (xs (6 * c + 1)) (xs (6 * c + 2)) (xs (6 * c + 3)) (xs (6 * c + 4)) (xs (6 * c + 5)) M = o at jf ivf Q W
  obtain ⟨fv, M2⟩ := o
  dsimp only at jf ivf Q W
  obtain ⟨jf1, jf2, jf3⟩ := jf
  simp -implicitDefEqProofs [t_Law_156, i_aload, i_iload, i_lload, i_istore, i_lstore, i_astore, i_iinc, i_push, i_getI, i_getJ, i_getR, i_putI, i_putJ, i_putR, i_iadd, i_isub, i_imul, i_iand, i_ior, i_ixor, i_ishl, i_ishr, i_iushr, i_idiv, i_irem, i_ladd, i_lsub, i_lmul, i_land, i_lor, i_lxor, i_ldiv, i_lrem, i_lshl, i_lshr, i_lcmp, i_ineg, i_lneg, i_i2l, i_l2i, i_i2b, i_i2c, i_dup, i_pop, i_dup_x1, i_dup2, i_icmp_eq, i_icmp_lt, i_icmp_ge, i_icmp_gt, i_icmp_le, i_if_eq, i_if_lt, i_if_ge, i_if_gt, i_if_le, i_goto, i_ifnull, i_iald, i_bald, i_zald, i_lald, i_aald, i_iast, i_bast, i_zast, i_last, i_alen, i_iret, i_lret, i_aret, i_vret, i_oinit, i_cast, i_tsw, i_cases, i_mmin, i_mmax, i_lmin, i_throw, nb0, nb1, nint, nby0, rf_s, rf_n, of_r, of_n, tk_orf_rf, tk_c2, tk_ls, Value.category, tk_isR_ref, tk_isR_rf, tk_isR_null, i_xld, e1, v1, k1, e2, v2, k2, e3, v3, k3, e4, v4, k4, e5, v5, k5]
  refine ⟨by simp, hC.1.1, hC.1.2.1, by simp [Value.category], 1900, 0, 0, by omega, by omega, by omega, tk_M.out (W _ (fun S' ρ' gh' hF hC' hZ' => ?_))⟩
  obtain ⟨c1, R1, O1⟩ := midW (FX.of hF) hC' (hO.of hF) hO hR hZ'
  simp -implicitDefEqProofs [i_aload, i_iload, i_lload, i_istore, i_lstore, i_astore, i_iinc, i_push, i_getI, i_getJ, i_getR, i_putI, i_putJ, i_putR, i_iadd, i_isub, i_imul, i_iand, i_ior, i_ixor, i_ishl, i_ishr, i_iushr, i_idiv, i_irem, i_ladd, i_lsub, i_lmul, i_land, i_lor, i_lxor, i_ldiv, i_lrem, i_lshl, i_lshr, i_lcmp, i_ineg, i_lneg, i_i2l, i_l2i, i_i2b, i_i2c, i_dup, i_pop, i_dup_x1, i_dup2, i_icmp_eq, i_icmp_lt, i_icmp_ge, i_icmp_gt, i_icmp_le, i_if_eq, i_if_lt, i_if_ge, i_if_gt, i_if_le, i_goto, i_ifnull, i_iald, i_bald, i_zald, i_lald, i_aald, i_iast, i_bast, i_zast, i_last, i_alen, i_iret, i_lret, i_aret, i_vret, i_oinit, i_cast, i_tsw, i_cases, i_mmin, i_mmax, i_lmin, i_throw, nb0, nb1, nint, nby0, rf_s, rf_n, of_r, of_n, tk_orf_rf, tk_c2, tk_ls, Value.category, tk_isR_ref, tk_isR_rf, tk_isR_null, i_xld, e1, v1, k1, e2, v2, k2, e3, v3, k3, e4, v4, k4, e5, v5, k5]
  refine ⟨by simp, R1.1.1.1, R1.1.1.2.1, by simp [Value.category], 1900, 0, 0, by omega, by omega, by omega, Q _ _ _ _ _ R1 (fun V' hI' h0 S2 ρ2 R2 hR2 => ?_)⟩
  simp -implicitDefEqProofs [i_aload, i_iload, i_lload, i_istore, i_lstore, i_astore, i_iinc, i_push, i_getI, i_getJ, i_getR, i_putI, i_putJ, i_putR, i_iadd, i_isub, i_imul, i_iand, i_ior, i_ixor, i_ishl, i_ishr, i_iushr, i_idiv, i_irem, i_ladd, i_lsub, i_lmul, i_land, i_lor, i_lxor, i_ldiv, i_lrem, i_lshl, i_lshr, i_lcmp, i_ineg, i_lneg, i_i2l, i_l2i, i_i2b, i_i2c, i_dup, i_pop, i_dup_x1, i_dup2, i_icmp_eq, i_icmp_lt, i_icmp_ge, i_icmp_gt, i_icmp_le, i_if_eq, i_if_lt, i_if_ge, i_if_gt, i_if_le, i_goto, i_ifnull, i_iald, i_bald, i_zald, i_lald, i_aald, i_iast, i_bast, i_zast, i_last, i_alen, i_iret, i_lret, i_aret, i_vret, i_oinit, i_cast, i_tsw, i_cases, i_mmin, i_mmax, i_lmin, i_throw, nb0, nb1, nint, nby0, rf_s, rf_n, of_r, of_n, tk_orf_rf, tk_c2, tk_ls, Value.category, tk_isR_ref, tk_isR_rf, tk_isR_null]
  have e600 : cp 600 M.2.2.2.2.2.2.2.1.1 = cp 600 M2.2.2.2.2.2.2.2.1.1 := by
    have : M2.2.2.2.2.2.2.2.1.1 = M.2.2.2.2.2.2.2.1.1 := jf1
    rw [this]
  exact hE.1 _ _ _ _ _ _ (fun hZ2 => next _ _ _ _ _ _ _ hZ2 ((fin_LC (o := (0, 0, M2)) c1 O1 hR2 hI' hZ' ivf (by rw [jf2]; exact hJV) (by dsimp only; rw [jf3]; exact hk) hkw hhw (by dsimp only; rw [jf1]; omega) (by dsimp only; rw [jf1]; omega)).2.2 hZ2))
end CASES

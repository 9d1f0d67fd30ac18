/-! THE REFERENCE: a step of a condition is told -/
section REFE2
variable {Z : tk_Z} {d mc ms : Nat} {S : tk_S} {QR : tk_R} {ρ : Nat → Nat} {m : Nat} {B : bS} {R : Nat → Nat} {V : vR}
def emV (V : vR) (n : Nat) (c v : Int32) (f1 f2 : Nat → Int32) : vR := wI (wA (wA V 15 (upd f1 n c)) 16 (upd f2 n v)) 17 (nI (n + 1))
theorem cp_max {b k hw : Nat} (h : k < cp b hw) (hk : k ≤ hw) : cp b (max hw (k + 1)) = cp b hw ∧ lv b (max hw (k + 1)) = lv b hw := by
  rcases Nat.lt_or_ge k hw with q | q
  · rw [show max hw (k + 1) = hw by omega]; exact ⟨rfl, rfl⟩
  · have e : k = hw := by omega
    subst e
    rw [show max k (k + 1) = k + 1 by omega]
    exact cp_in h
set_option maxHeartbeats 4000000 in
theorem r_emits {n hw cl : Nat} {c v : Int32} (hd : 1 ≤ d) (hR : RS B m ρ S (rLk (cp 400 hw) cl) R V) (hn : vI V 17 = nI n) (hn1 : n ≤ hw) (hn2 : hw < 12800) (hmc : 2 * (lv 400 (max hw (n + 1)) - lv 400 hw) ≤ mc) (hms : 30000 * (lv 400 (max hw (n + 1)) - lv 400 hw) ≤ ms)
    (H : ∀ f1 f2 : Nat → Int32, (∀ j, j < n → f1 j = vA V 15 j ∧ f2 j = vA V 16 j) → okV B m (rLk (cp 400 (max hw (n + 1))) cl) QR none (emV V n c v f1 f2)) : tk_M Z mX12_emits d mc ms [.ref m, .int c, .int v] S QR tk_noX := by
  refine M_X12_emits (Nat.le_of_ble_eq_true rfl) (fun E hE => hE.1 _ _ _ _ _ ?_)
  show t_X12_emits_0 Z d mc ms QR E [some (.ref m), some (.int c), some (.int v)] [] S 0 0
  have hge := cp_ge (b := 400) (n := hw) (by omega)
  have hge1 := cp_ge (b := 400) (n := max hw (n + 1)) (by omega)
  have body : ∀ (ρ : Nat → Nat) (S : tk_S) (R : Nat → Nat) (V1 : vR) (f1 f2 : Nat → Int32) cs ss, cs ≤ mc → ss ≤ ms → RS B m ρ S (rLk (cp 400 (max hw (n + 1))) cl) R V1 → vI V1 17 = nI n → vA V1 15 = f1 → vA V1 16 = f2 → (∀ j, j < n → f1 j = vA V 15 j ∧ f2 j = vA V 16 j) → emV V1 n c v f1 f2 = emV V n c v f1 f2 → E 34 [some (.ref m), some (.int c), some (.int v)] [] S cs ss := by
    intro ρ S R V1 f1 f2 cs ss hcs hss hR hn e1 e2 hf hV
    refine hE.2 _ _ _ _ _ ?_
    obtain ⟨h1, h2, h3⟩ := hR.1.1
    obtain ⟨hI, hJ, hA, hL⟩ := hR.2.1
    have t15 : rLk (cp 400 (max hw (n + 1))) cl 15 = some (15, cp 400 (max hw (n + 1))) := rfl
    have t16 : rLk (cp 400 (max hw (n + 1))) cl 16 = some (15, cp 400 (max hw (n + 1))) := rfl
    obtain ⟨a15, b15, c15, d15, -⟩ := hR.1.2 15 _ _ t15
    obtain ⟨a16, b16, c16, d16, -⟩ := hR.1.2 16 _ _ t16
    have x15 := hA 15 _ _ t15 (by decide)
    have x16 := hA 16 _ _ t16 (by decide)
    have n1 := hR.1.ne t16 t15 (by decide)
    have hin : vp_in (nI n) (cp 400 (max hw (n + 1))) := vp_in_nI (by omega) (by omega)
    have ek : nI n + 1 = nI (n + 1) := nI_add n 1
    simp -implicitDefEqProofs [t_X12_emits_34, i_aload, i_iload, i_lload, i_istore, i_lstore, i_astore, i_iinc, i_push, i_getI, i_getJ, i_getR, i_putI, i_putJ, i_putR, i_iadd, i_isub, i_imul, i_iand, i_ior, i_ixor, i_ishl, i_ishr, i_iushr, i_idiv, i_irem, i_ladd, i_lsub, i_lmul, i_land, i_lor, i_lxor, i_ldiv, i_lrem, i_lshl, i_lshr, i_lcmp, i_ineg, i_lneg, i_i2l, i_l2i, i_i2b, i_i2c, i_dup, i_pop, i_dup_x1, i_dup2, i_icmp_eq, i_icmp_lt, i_icmp_ge, i_icmp_gt, i_icmp_le, i_if_eq, i_if_lt, i_if_ge, i_if_gt, i_if_le, i_goto, i_ifnull, i_iald, i_bald, i_zald, i_lald, i_aald, i_iast, i_bast, i_zast, i_last, i_alen, i_iret, i_lret, i_aret, i_vret, i_oinit, i_cast, i_tsw, i_cases, i_mmin, i_mmax, i_lmin, i_throw, nb0, nb1, nint, nby0, rf_s, rf_n, of_r, of_n, tk_orf_rf, tk_c2, tk_ls, Value.category, tk_isR_ref, tk_isR_rf, tk_isR_null, z_q_L_s_I, z_q_K_s_I, z_q_I_s_I, z_q_J_s_I, z_q_R_s_I, z_q_n_s_I, z_q_aI_s_I, z_q_aJ_s_I, z_q_aR_s_I, z_q_L_s_J, z_q_K_s_J, z_q_I_s_J, z_q_J_s_J, z_q_R_s_J, z_q_n_s_J, z_q_aI_s_J, z_q_aJ_s_J, z_q_aR_s_J, z_q_L_s_R, z_q_K_s_R, z_q_I_s_R, z_q_J_s_R, z_q_R_s_R, z_q_n_s_R, z_q_aI_s_R, z_q_aJ_s_R, z_q_aR_s_R, z_q_L_s_aI, z_q_K_s_aI, z_q_I_s_aI, z_q_J_s_aI, z_q_R_s_aI, z_q_n_s_aI, z_q_aI_s_aI, z_q_aJ_s_aI, z_q_aR_s_aI, z_q_L_s_aJ, z_q_K_s_aJ, z_q_I_s_aJ, z_q_J_s_aJ, z_q_R_s_aJ, z_q_n_s_aJ, z_q_aI_s_aJ, z_q_aJ_s_aJ, z_q_aR_s_aJ, z_q_L_s_aR, z_q_K_s_aR, z_q_I_s_aR, z_q_J_s_aR, z_q_R_s_aR, z_q_n_s_aR, z_q_aI_s_aR, z_q_aJ_s_aR, z_q_aR_s_aR, z_q_L_s_new, z_q_K_s_new, z_q_I_s_new, z_q_J_s_new, z_q_R_s_new, z_q_n_s_new, z_q_aI_s_new, z_q_aJ_s_new, z_q_aR_s_new, z_q_L_s_arr, z_q_K_s_arr, z_q_I_s_arr, z_q_J_s_arr, z_q_R_s_arr, z_q_n_s_arr, z_q_aI_s_arr, z_q_aJ_s_arr, z_q_aR_s_arr, h1, h2, hI, hJ, hn, a15, b15, c15, d15, a16, b16, c16, d16, x15, x16, n1, hin, ek, nI_clamp (show n < 2 ^ 31 by omega)]
    refine ⟨hcs, hss, H f1 f2 hf _ ρ R (RS.cast ?_ hV)⟩
    rw [e1, e2]
    unfold emV
    exact (((hR.iA t15 _).iA t16 _).iI 17 _)
  have step : ∀ k (T : nT) ρ S R V (K : tk_K) ls cs ss, RS B m ρ S T R V → T k = some (15, n) → n ≤ 20000 → cs + 1 ≤ mc → ss + 2 * n ≤ ms → (∀ ρ' S' R' f, RS B m ρ' S' (va_up T k (some (15, 2 * n))) R' (wA V k f) → (∀ j, j < n → f j = vA V k j) → K ls [] S' (cs + 1) (ss + 2 * n)) → i_callS Z mX12_longer 1 d mc ms (i_putR 13 k K) ls [.ref (R k), .ref m] S cs ss := by
    intro k T ρ S R V K ls cs ss hR hT hn2 hc hs h
    obtain ⟨h1, h2, h3⟩ := hR.1.1
    obtain ⟨a1, a2, a3, a4, -⟩ := hR.1.2 k _ _ hT
    have hA := hR.2.1.2.2.1 k _ _ hT (by decide)
    refine ⟨by simp, by simp [Value.category], 0, 1, 2 * n, by omega, by omega, by omega, ?_⟩
    refine r_longer a2 a3 a4 (by omega) (by omega) (by omega) (fun a f ha hf => ?_)
    have hma : m ≠ a := fun z => ha (z ▸ h1)
    simp -implicitDefEqProofs [i_aload, i_iload, i_lload, i_istore, i_lstore, i_astore, i_iinc, i_push, i_getI, i_getJ, i_getR, i_putI, i_putJ, i_putR, i_iadd, i_isub, i_imul, i_iand, i_ior, i_ixor, i_ishl, i_ishr, i_iushr, i_idiv, i_irem, i_ladd, i_lsub, i_lmul, i_land, i_lor, i_lxor, i_ldiv, i_lrem, i_lshl, i_lshr, i_lcmp, i_ineg, i_lneg, i_i2l, i_l2i, i_i2b, i_i2c, i_dup, i_pop, i_dup_x1, i_dup2, i_icmp_eq, i_icmp_lt, i_icmp_ge, i_icmp_gt, i_icmp_le, i_if_eq, i_if_lt, i_if_ge, i_if_gt, i_if_le, i_goto, i_ifnull, i_iald, i_bald, i_zald, i_lald, i_aald, i_iast, i_bast, i_zast, i_last, i_alen, i_iret, i_lret, i_aret, i_vret, i_oinit, i_cast, i_tsw, i_cases, i_mmin, i_mmax, i_lmin, i_throw, nb0, nb1, nint, nby0, rf_s, rf_n, of_r, of_n, tk_orf_rf, tk_c2, tk_ls, Value.category, tk_isR_ref, tk_isR_rf, tk_isR_null, z_q_L_s_I, z_q_K_s_I, z_q_I_s_I, z_q_J_s_I, z_q_R_s_I, z_q_n_s_I, z_q_aI_s_I, z_q_aJ_s_I, z_q_aR_s_I, z_q_L_s_J, z_q_K_s_J, z_q_I_s_J, z_q_J_s_J, z_q_R_s_J, z_q_n_s_J, z_q_aI_s_J, z_q_aJ_s_J, z_q_aR_s_J, z_q_L_s_R, z_q_K_s_R, z_q_I_s_R, z_q_J_s_R, z_q_R_s_R, z_q_n_s_R, z_q_aI_s_R, z_q_aJ_s_R, z_q_aR_s_R, z_q_L_s_aI, z_q_K_s_aI, z_q_I_s_aI, z_q_J_s_aI, z_q_R_s_aI, z_q_n_s_aI, z_q_aI_s_aI, z_q_aJ_s_aI, z_q_aR_s_aI, z_q_L_s_aJ, z_q_K_s_aJ, z_q_I_s_aJ, z_q_J_s_aJ, z_q_R_s_aJ, z_q_n_s_aJ, z_q_aI_s_aJ, z_q_aJ_s_aJ, z_q_aR_s_aJ, z_q_L_s_aR, z_q_K_s_aR, z_q_I_s_aR, z_q_J_s_aR, z_q_R_s_aR, z_q_n_s_aR, z_q_aI_s_aR, z_q_aJ_s_aR, z_q_aR_s_aR, z_q_L_s_new, z_q_K_s_new, z_q_I_s_new, z_q_J_s_new, z_q_R_s_new, z_q_n_s_new, z_q_aI_s_new, z_q_aJ_s_new, z_q_aR_s_new, z_q_L_s_arr, z_q_K_s_arr, z_q_I_s_arr, z_q_J_s_arr, z_q_R_s_arr, z_q_n_s_arr, z_q_aI_s_arr, z_q_aJ_s_arr, z_q_aR_s_arr, h1, h2, hma]
    exact h _ _ _ f (hR.grow hT ha f) (fun j hj => by rw [hf j hj, hA])
  obtain ⟨h1, h2, h3⟩ := hR.1.1
  obtain ⟨hI, hJ, hA, hL⟩ := hR.2.1
  have t15 : rLk (cp 400 hw) cl 15 = some (15, cp 400 hw) := rfl
  obtain ⟨a15, b15, c15, d15, -⟩ := hR.1.2 15 _ _ t15
  rcases Nat.lt_or_ge n (cp 400 hw) with hlt | hge2
  · have hz : ¬ nI n = nI (cp 400 hw) := fun z => by
      have := (nI_eq (by omega) (by omega)).mp z
      omega
    simp -implicitDefEqProofs [t_X12_emits_0, i_aload, i_iload, i_lload, i_istore, i_lstore, i_astore, i_iinc, i_push, i_getI, i_getJ, i_getR, i_putI, i_putJ, i_putR, i_iadd, i_isub, i_imul, i_iand, i_ior, i_ixor, i_ishl, i_ishr, i_iushr, i_idiv, i_irem, i_ladd, i_lsub, i_lmul, i_land, i_lor, i_lxor, i_ldiv, i_lrem, i_lshl, i_lshr, i_lcmp, i_ineg, i_lneg, i_i2l, i_l2i, i_i2b, i_i2c, i_dup, i_pop, i_dup_x1, i_dup2, i_icmp_eq, i_icmp_lt, i_icmp_ge, i_icmp_gt, i_icmp_le, i_if_eq, i_if_lt, i_if_ge, i_if_gt, i_if_le, i_goto, i_ifnull, i_iald, i_bald, i_zald, i_lald, i_aald, i_iast, i_bast, i_zast, i_last, i_alen, i_iret, i_lret, i_aret, i_vret, i_oinit, i_cast, i_tsw, i_cases, i_mmin, i_mmax, i_lmin, i_throw, nb0, nb1, nint, nby0, rf_s, rf_n, of_r, of_n, tk_orf_rf, tk_c2, tk_ls, Value.category, tk_isR_ref, tk_isR_rf, tk_isR_null, z_q_L_s_I, z_q_K_s_I, z_q_I_s_I, z_q_J_s_I, z_q_R_s_I, z_q_n_s_I, z_q_aI_s_I, z_q_aJ_s_I, z_q_aR_s_I, z_q_L_s_J, z_q_K_s_J, z_q_I_s_J, z_q_J_s_J, z_q_R_s_J, z_q_n_s_J, z_q_aI_s_J, z_q_aJ_s_J, z_q_aR_s_J, z_q_L_s_R, z_q_K_s_R, z_q_I_s_R, z_q_J_s_R, z_q_R_s_R, z_q_n_s_R, z_q_aI_s_R, z_q_aJ_s_R, z_q_aR_s_R, z_q_L_s_aI, z_q_K_s_aI, z_q_I_s_aI, z_q_J_s_aI, z_q_R_s_aI, z_q_n_s_aI, z_q_aI_s_aI, z_q_aJ_s_aI, z_q_aR_s_aI, z_q_L_s_aJ, z_q_K_s_aJ, z_q_I_s_aJ, z_q_J_s_aJ, z_q_R_s_aJ, z_q_n_s_aJ, z_q_aI_s_aJ, z_q_aJ_s_aJ, z_q_aR_s_aJ, z_q_L_s_aR, z_q_K_s_aR, z_q_I_s_aR, z_q_J_s_aR, z_q_R_s_aR, z_q_n_s_aR, z_q_aI_s_aR, z_q_aJ_s_aR, z_q_aR_s_aR, z_q_L_s_new, z_q_K_s_new, z_q_I_s_new, z_q_J_s_new, z_q_R_s_new, z_q_n_s_new, z_q_aI_s_new, z_q_aJ_s_new, z_q_aR_s_new, z_q_L_s_arr, z_q_K_s_arr, z_q_I_s_arr, z_q_J_s_arr, z_q_R_s_arr, z_q_n_s_arr, z_q_aI_s_arr, z_q_aJ_s_arr, z_q_aR_s_arr, h1, h2, hI, hn, a15, b15, c15, d15, hz]
    have hin := cp_max hlt hn1
    rw [← hin.1] at hR
    exact body ρ S R V _ _ 0 0 (by omega) (by omega) hR hn rfl rfl (fun j hj => ⟨rfl, rfl⟩) rfl
  · have hnh : n = hw := by omega
    have hmx : max hw (n + 1) = n + 1 := by omega
    have hnc : n = cp 400 hw := by omega
    have hful := cp_full (b := 400) (n := hw) (by omega) (by omega) (by omega)
    have hz : nI n = nI (cp 400 hw) := by rw [← hnc]
    simp -implicitDefEqProofs [t_X12_emits_0, i_aload, i_iload, i_lload, i_istore, i_lstore, i_astore, i_iinc, i_push, i_getI, i_getJ, i_getR, i_putI, i_putJ, i_putR, i_iadd, i_isub, i_imul, i_iand, i_ior, i_ixor, i_ishl, i_ishr, i_iushr, i_idiv, i_irem, i_ladd, i_lsub, i_lmul, i_land, i_lor, i_lxor, i_ldiv, i_lrem, i_lshl, i_lshr, i_lcmp, i_ineg, i_lneg, i_i2l, i_l2i, i_i2b, i_i2c, i_dup, i_pop, i_dup_x1, i_dup2, i_icmp_eq, i_icmp_lt, i_icmp_ge, i_icmp_gt, i_icmp_le, i_if_eq, i_if_lt, i_if_ge, i_if_gt, i_if_le, i_goto, i_ifnull, i_iald, i_bald, i_zald, i_lald, i_aald, i_iast, i_bast, i_zast, i_last, i_alen, i_iret, i_lret, i_aret, i_vret, i_oinit, i_cast, i_tsw, i_cases, i_mmin, i_mmax, i_lmin, i_throw, nb0, nb1, nint, nby0, rf_s, rf_n, of_r, of_n, tk_orf_rf, tk_c2, tk_ls, Value.category, tk_isR_ref, tk_isR_rf, tk_isR_null, z_q_L_s_I, z_q_K_s_I, z_q_I_s_I, z_q_J_s_I, z_q_R_s_I, z_q_n_s_I, z_q_aI_s_I, z_q_aJ_s_I, z_q_aR_s_I, z_q_L_s_J, z_q_K_s_J, z_q_I_s_J, z_q_J_s_J, z_q_R_s_J, z_q_n_s_J, z_q_aI_s_J, z_q_aJ_s_J, z_q_aR_s_J, z_q_L_s_R, z_q_K_s_R, z_q_I_s_R, z_q_J_s_R, z_q_R_s_R, z_q_n_s_R, z_q_aI_s_R, z_q_aJ_s_R, z_q_aR_s_R, z_q_L_s_aI, z_q_K_s_aI, z_q_I_s_aI, z_q_J_s_aI, z_q_R_s_aI, z_q_n_s_aI, z_q_aI_s_aI, z_q_aJ_s_aI, z_q_aR_s_aI, z_q_L_s_aJ, z_q_K_s_aJ, z_q_I_s_aJ, z_q_J_s_aJ, z_q_R_s_aJ, z_q_n_s_aJ, z_q_aI_s_aJ, z_q_aJ_s_aJ, z_q_aR_s_aJ, z_q_L_s_aR, z_q_K_s_aR, z_q_I_s_aR, z_q_J_s_aR, z_q_R_s_aR, z_q_n_s_aR, z_q_aI_s_aR, z_q_aJ_s_aR, z_q_aR_s_aR, z_q_L_s_new, z_q_K_s_new, z_q_I_s_new, z_q_J_s_new, z_q_R_s_new, z_q_n_s_new, z_q_aI_s_new, z_q_aJ_s_new, z_q_aR_s_new, z_q_L_s_arr, z_q_K_s_arr, z_q_I_s_arr, z_q_J_s_arr, z_q_R_s_arr, z_q_n_s_arr, z_q_aI_s_arr, z_q_aJ_s_arr, z_q_aR_s_arr, h1, h2, hI, hn, a15, b15, c15, d15, hz]
    have ehin : 2 * n = cp 400 (max hw (n + 1)) := by rw [hmx, hnh]; exact hful.1.symm
    rw [hmx, hnh, hful.2] at hmc hms
    have d1 : lv 400 hw + 1 - lv 400 hw = 1 := by omega
    rw [d1] at hmc hms
    have t15 : rLk (cp 400 hw) cl 15 = some (15, n) := by rw [← hnc]; rfl
    refine step 15 _ _ _ _ _ _ _ _ _ hR t15 (by omega) (by omega) (by omega) (fun ρ1 S1 R1 f1 g1 w1 => ?_)
    have t16 : va_up (rLk (cp 400 hw) cl) 15 (some (15, 2 * n)) 16 = some (15, n) := by rw [← hnc]; rfl
    obtain ⟨u1, u2, u3⟩ := g1.1.1
    obtain ⟨a16, -⟩ := g1.1.2 16 _ _ t16
    simp -implicitDefEqProofs [i_aload, i_iload, i_lload, i_istore, i_lstore, i_astore, i_iinc, i_push, i_getI, i_getJ, i_getR, i_putI, i_putJ, i_putR, i_iadd, i_isub, i_imul, i_iand, i_ior, i_ixor, i_ishl, i_ishr, i_iushr, i_idiv, i_irem, i_ladd, i_lsub, i_lmul, i_land, i_lor, i_lxor, i_ldiv, i_lrem, i_lshl, i_lshr, i_lcmp, i_ineg, i_lneg, i_i2l, i_l2i, i_i2b, i_i2c, i_dup, i_pop, i_dup_x1, i_dup2, i_icmp_eq, i_icmp_lt, i_icmp_ge, i_icmp_gt, i_icmp_le, i_if_eq, i_if_lt, i_if_ge, i_if_gt, i_if_le, i_goto, i_ifnull, i_iald, i_bald, i_zald, i_lald, i_aald, i_iast, i_bast, i_zast, i_last, i_alen, i_iret, i_lret, i_aret, i_vret, i_oinit, i_cast, i_tsw, i_cases, i_mmin, i_mmax, i_lmin, i_throw, nb0, nb1, nint, nby0, rf_s, rf_n, of_r, of_n, tk_orf_rf, tk_c2, tk_ls, Value.category, tk_isR_ref, tk_isR_rf, tk_isR_null, z_q_L_s_I, z_q_K_s_I, z_q_I_s_I, z_q_J_s_I, z_q_R_s_I, z_q_n_s_I, z_q_aI_s_I, z_q_aJ_s_I, z_q_aR_s_I, z_q_L_s_J, z_q_K_s_J, z_q_I_s_J, z_q_J_s_J, z_q_R_s_J, z_q_n_s_J, z_q_aI_s_J, z_q_aJ_s_J, z_q_aR_s_J, z_q_L_s_R, z_q_K_s_R, z_q_I_s_R, z_q_J_s_R, z_q_R_s_R, z_q_n_s_R, z_q_aI_s_R, z_q_aJ_s_R, z_q_aR_s_R, z_q_L_s_aI, z_q_K_s_aI, z_q_I_s_aI, z_q_J_s_aI, z_q_R_s_aI, z_q_n_s_aI, z_q_aI_s_aI, z_q_aJ_s_aI, z_q_aR_s_aI, z_q_L_s_aJ, z_q_K_s_aJ, z_q_I_s_aJ, z_q_J_s_aJ, z_q_R_s_aJ, z_q_n_s_aJ, z_q_aI_s_aJ, z_q_aJ_s_aJ, z_q_aR_s_aJ, z_q_L_s_aR, z_q_K_s_aR, z_q_I_s_aR, z_q_J_s_aR, z_q_R_s_aR, z_q_n_s_aR, z_q_aI_s_aR, z_q_aJ_s_aR, z_q_aR_s_aR, z_q_L_s_new, z_q_K_s_new, z_q_I_s_new, z_q_J_s_new, z_q_R_s_new, z_q_n_s_new, z_q_aI_s_new, z_q_aJ_s_new, z_q_aR_s_new, z_q_L_s_arr, z_q_K_s_arr, z_q_I_s_arr, z_q_J_s_arr, z_q_R_s_arr, z_q_n_s_arr, z_q_aI_s_arr, z_q_aJ_s_arr, z_q_aR_s_arr, u1, u2, a16]
    refine step 16 _ _ _ _ _ _ _ _ _ g1 t16 (by omega) (by omega) (by omega) (fun ρ2 S2 R2 f2 g2 w2 => ?_)
    have g5 := g2.castT (T' := rLk (cp 400 (max hw (n + 1))) cl) (by rw [rLk_cc, ehin])
    refine body ρ2 S2 R2 _ f1 f2 _ _ (by omega) (by omega) g5 (by simp [vI_wA, hn]) (by simp [vA_wA]) (by simp [vA_wA]) (fun j hj => ⟨w1 j hj, w2 j hj⟩) ?_
    refine vR_ext (fun k => rfl) rfl (fun k => ?_) (fun k => rfl)
    simp only [emV, vA_wJ, vA_wI, vA_wA]
    by_cases h16 : k = 16
    · subst h16; simp
    by_cases h15 : k = 15
    · subst h15; simp
    simp [h16, h15]
end REFE2

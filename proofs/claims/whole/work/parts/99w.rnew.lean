/-! by program: THE REFERENCE, a new one -/
section RNEW
variable {Z : tk_Z} {d mc ms : Nat} {QR : tk_R} {m : Nat} {B : bS} {V : vR} {ρ : Nat → Nat} {S : tk_S} {R : Nat → Nat} {T : nT}
def vZ : vR := (fun _ => 0, 0, fun _ _ => 0, fun _ _ => 0)
theorem mkrow {K : tk_K} {ls : List (Option Value)} {kd N j cs ss : Nat} {n : Int32} (h0 : ls[0]? = some (some (.ref m))) (hn : n = nI N) (hN : N ≤ 10000) (hR : RS B m ρ S T R V) (hk : T j = none) (hz : kd ≠ 16 → vA V j = fun _ => 0) (hz2 : kd = 16 → vL V j = fun _ => 0) (hc : cs + 1 ≤ mc) (hs : ss + N ≤ ms)
    (h : ∀ ρ' S' R', RS B m ρ' S' (va_up T j (some (kd, N))) R' V → K ls [] S' (cs + 1) (ss + N)) : i_aload 0 (i_push (.int n) (i_newa mc ms kd (i_putR 13 j K))) ls [] S cs ss := by
  obtain ⟨h1, h2, h3⟩ := hR.1.1
  subst hn
  have c0 : (nI N).toNatClampNeg = N := nI_clamp (by omega)
  have p0 : ¬ nI N < 0 := nI_pos (by omega)
  have e : i_aload 0 (i_push (.int (nI N)) (i_newa mc ms kd (i_putR 13 j K))) ls [] S cs ss = i_newa mc ms kd (i_putR 13 j K) ls [.int (nI N), .ref m] S cs ss := by
    simp -implicitDefEqProofs [i_aload, i_push, nb0, nb1, nint, nby0, rf_s, rf_n, of_r, of_n, tk_orf_rf, tk_c2, tk_ls, Value.category, tk_isR_ref, tk_isR_rf, tk_isR_null, h0]
  rw [e]
  refine ⟨p0, by rw [c0]; omega, hc, by rw [c0]; exact hs, fun a ha => ?_⟩
  rw [c0]
  have hma : m ≠ a := fun z => ha (z ▸ h1)
  simp -implicitDefEqProofs [i_aload, i_iload, i_lload, i_istore, i_lstore, i_astore, i_iinc, i_push, i_getI, i_getJ, i_getR, i_putI, i_putJ, i_putR, i_iadd, i_isub, i_imul, i_iand, i_ior, i_ixor, i_ishl, i_ishr, i_iushr, i_idiv, i_irem, i_ladd, i_lsub, i_lmul, i_land, i_lor, i_lxor, i_ldiv, i_lrem, i_lshl, i_lshr, i_lcmp, i_ineg, i_lneg, i_i2l, i_l2i, i_i2b, i_i2c, i_dup, i_pop, i_dup_x1, i_dup2, i_icmp_eq, i_icmp_lt, i_icmp_ge, i_icmp_gt, i_icmp_le, i_if_eq, i_if_lt, i_if_ge, i_if_gt, i_if_le, i_goto, i_ifnull, i_iald, i_bald, i_zald, i_lald, i_aald, i_iast, i_bast, i_zast, i_last, i_alen, i_iret, i_lret, i_aret, i_vret, i_oinit, i_cast, i_tsw, i_cases, i_mmin, i_mmax, i_lmin, i_throw, nb0, nb1, nint, nby0, rf_s, rf_n, of_r, of_n, tk_orf_rf, tk_c2, tk_ls, Value.category, tk_isR_ref, tk_isR_rf, tk_isR_null, z_q_L_s_I, z_q_K_s_I, z_q_I_s_I, z_q_J_s_I, z_q_R_s_I, z_q_n_s_I, z_q_aI_s_I, z_q_aJ_s_I, z_q_aR_s_I, z_q_L_s_J, z_q_K_s_J, z_q_I_s_J, z_q_J_s_J, z_q_R_s_J, z_q_n_s_J, z_q_aI_s_J, z_q_aJ_s_J, z_q_aR_s_J, z_q_L_s_R, z_q_K_s_R, z_q_I_s_R, z_q_J_s_R, z_q_R_s_R, z_q_n_s_R, z_q_aI_s_R, z_q_aJ_s_R, z_q_aR_s_R, z_q_L_s_aI, z_q_K_s_aI, z_q_I_s_aI, z_q_J_s_aI, z_q_R_s_aI, z_q_n_s_aI, z_q_aI_s_aI, z_q_aJ_s_aI, z_q_aR_s_aI, z_q_L_s_aJ, z_q_K_s_aJ, z_q_I_s_aJ, z_q_J_s_aJ, z_q_R_s_aJ, z_q_n_s_aJ, z_q_aI_s_aJ, z_q_aJ_s_aJ, z_q_aR_s_aJ, z_q_L_s_aR, z_q_K_s_aR, z_q_I_s_aR, z_q_J_s_aR, z_q_R_s_aR, z_q_n_s_aR, z_q_aI_s_aR, z_q_aJ_s_aR, z_q_aR_s_aR, z_q_L_s_new, z_q_K_s_new, z_q_I_s_new, z_q_J_s_new, z_q_R_s_new, z_q_n_s_new, z_q_aI_s_new, z_q_aJ_s_new, z_q_aR_s_new, z_q_L_s_arr, z_q_K_s_arr, z_q_I_s_arr, z_q_J_s_arr, z_q_R_s_arr, z_q_n_s_arr, z_q_aI_s_arr, z_q_aJ_s_arr, z_q_aR_s_arr, h1, h2, hma]
  exact h _ _ _ (hR.mk hk ha hz hz2)
theorem mkint {K : tk_K} {ls : List (Option Value)} {j cs ss : Nat} {n : Int32} (h0 : ls[0]? = some (some (.ref m))) (hR : RS B m ρ S T R V) (h : ∀ S', RS B m ρ S' T R (wI V j n) → K ls [] S' cs ss) : i_aload 0 (i_push (.int n) (i_putI 13 j K)) ls [] S cs ss := by
  obtain ⟨h1, h2, h3⟩ := hR.1.1
  simp -implicitDefEqProofs [i_aload, i_iload, i_lload, i_istore, i_lstore, i_astore, i_iinc, i_push, i_getI, i_getJ, i_getR, i_putI, i_putJ, i_putR, i_iadd, i_isub, i_imul, i_iand, i_ior, i_ixor, i_ishl, i_ishr, i_iushr, i_idiv, i_irem, i_ladd, i_lsub, i_lmul, i_land, i_lor, i_lxor, i_ldiv, i_lrem, i_lshl, i_lshr, i_lcmp, i_ineg, i_lneg, i_i2l, i_l2i, i_i2b, i_i2c, i_dup, i_pop, i_dup_x1, i_dup2, i_icmp_eq, i_icmp_lt, i_icmp_ge, i_icmp_gt, i_icmp_le, i_if_eq, i_if_lt, i_if_ge, i_if_gt, i_if_le, i_goto, i_ifnull, i_iald, i_bald, i_zald, i_lald, i_aald, i_iast, i_bast, i_zast, i_last, i_alen, i_iret, i_lret, i_aret, i_vret, i_oinit, i_cast, i_tsw, i_cases, i_mmin, i_mmax, i_lmin, i_throw, nb0, nb1, nint, nby0, rf_s, rf_n, of_r, of_n, tk_orf_rf, tk_c2, tk_ls, Value.category, tk_isR_ref, tk_isR_rf, tk_isR_null, h0, h1, h2]
  exact h _ (hR.iI j n)
def vZ0 : vR := wI (wI vZ 6 (-1)) 37 (-1)
theorem rLk_0 : ((va_up (va_up (va_up (va_up (va_up (va_up (va_up (va_up (va_up (va_up (va_up (va_up (va_up (va_up (va_up (va_up (va_up (va_up (va_up (va_up (va_up (va_up (va_up (va_up (va_up (va_up (va_up (va_up (va_up (va_up (va_up (va_up (va_up (va_up (va_up (va_up (va_up (va_up (va_up (va_up (va_up (va_up (fun _ => none) 1 (some (14, 2000))) 8 (some (15, 12))) 9 (some (15, 12))) 10 (some (15, 480))) 11 (some (15, 480))) 12 (some (15, 480))) 13 (some (15, 481))) 14 (some (15, 480))) 15 (some (15, 400))) 16 (some (15, 400))) 19 (some (15, 60))) 20 (some (15, 60))) 21 (some (15, 60))) 22 (some (15, 60))) 23 (some (15, 480))) 24 (some (15, 480))) 26 (some (15, 12))) 27 (some (16, 12))) 29 (some (15, 8))) 30 (some (15, 8))) 34 (some (17, 64))) 36 (some (15, 40))) 38 (some (15, 600))) 39 (some (15, 600))) 40 (some (15, 600))) 41 (some (15, 600))) 44 (some (16, 8))) 46 (some (15, 8))) 47 (some (15, 80))) 48 (some (15, 80))) 49 (some (15, 80))) 50 (some (15, 8))) 51 (some (15, 8))) 52 (some (15, 8))) 53 (some (15, 8))) 54 (some (15, 8))) 55 (some (15, 10))) 56 (some (15, 10))) 57 (some (15, 10))) 58 (some (16, 10))) 59 (some (16, 10))) 60 (some (16, 10))) : nT) = rLk 400 600 := by
  have lo : ∀ k, k < 61 → (va_up (va_up (va_up (va_up (va_up (va_up (va_up (va_up (va_up (va_up (va_up (va_up (va_up (va_up (va_up (va_up (va_up (va_up (va_up (va_up (va_up (va_up (va_up (va_up (va_up (va_up (va_up (va_up (va_up (va_up (va_up (va_up (va_up (va_up (va_up (va_up (va_up (va_up (va_up (va_up (va_up (va_up (fun _ => none) 1 (some (14, 2000))) 8 (some (15, 12))) 9 (some (15, 12))) 10 (some (15, 480))) 11 (some (15, 480))) 12 (some (15, 480))) 13 (some (15, 481))) 14 (some (15, 480))) 15 (some (15, 400))) 16 (some (15, 400))) 19 (some (15, 60))) 20 (some (15, 60))) 21 (some (15, 60))) 22 (some (15, 60))) 23 (some (15, 480))) 24 (some (15, 480))) 26 (some (15, 12))) 27 (some (16, 12))) 29 (some (15, 8))) 30 (some (15, 8))) 34 (some (17, 64))) 36 (some (15, 40))) 38 (some (15, 600))) 39 (some (15, 600))) 40 (some (15, 600))) 41 (some (15, 600))) 44 (some (16, 8))) 46 (some (15, 8))) 47 (some (15, 80))) 48 (some (15, 80))) 49 (some (15, 80))) 50 (some (15, 8))) 51 (some (15, 8))) 52 (some (15, 8))) 53 (some (15, 8))) 54 (some (15, 8))) 55 (some (15, 10))) 56 (some (15, 10))) 57 (some (15, 10))) 58 (some (16, 10))) 59 (some (16, 10))) 60 (some (16, 10))) k = rLk 400 600 k := by decide +kernel
  funext k
  rcases Nat.lt_or_ge k 61 with h | h
  · exact lo k h
  · have hr : rLk 400 600 k = none := by
      unfold rLk
      split <;> first | rfl | omega
    rw [hr]
    unfold va_up
    repeat rw [if_neg (by omega)]
set_option maxRecDepth 100000 in
set_option maxHeartbeats 4000000 in
theorem rr_new (hd : 1 ≤ d) (hm : m ∈ q_L S) (hk : q_K S m = 13) (hρ : ρ m = 100) (hI0 : ∀ j, q_I S 13 j m = 0) (hJ0 : q_J S 13 43 m = 0) (hmc : 42 ≤ mc) (hms : 9325 ≤ ms)
    (H : okV (ρ, S) m (rLk 400 600) QR none vZ0) : tk_M Z mX12_init d mc ms [.ref m] S QR tk_noX := by
  refine M_X12_init (Nat.le_of_ble_eq_true rfl) (fun E hE => hE _ _ _ _ _ ?_)
  show t_X12_init_0 Z d mc ms QR E [some (.ref m)] [] S 0 0
  have hR : RS (ρ, S) m ρ S (fun _ => none) (fun _ => 0) vZ := ⟨⟨⟨hm, hk, hρ⟩, fun k kd cap h => by cases h⟩, ⟨hI0, hJ0, fun k kd cap h => by (cases h), fun k cap h => by (cases h)⟩, bF.rfl'⟩
  unfold t_X12_init_0
  have oinit : ∀ K, K [some (.ref m)] [] S 0 0 → i_aload 0 (i_oinit d K) [some (.ref m)] [] S 0 0 := fun K h => by
    simp -implicitDefEqProofs [i_aload, i_iload, i_lload, i_istore, i_lstore, i_astore, i_iinc, i_push, i_getI, i_getJ, i_getR, i_putI, i_putJ, i_putR, i_iadd, i_isub, i_imul, i_iand, i_ior, i_ixor, i_ishl, i_ishr, i_iushr, i_idiv, i_irem, i_ladd, i_lsub, i_lmul, i_land, i_lor, i_lxor, i_ldiv, i_lrem, i_lshl, i_lshr, i_lcmp, i_ineg, i_lneg, i_i2l, i_l2i, i_i2b, i_i2c, i_dup, i_pop, i_dup_x1, i_dup2, i_icmp_eq, i_icmp_lt, i_icmp_ge, i_icmp_gt, i_icmp_le, i_if_eq, i_if_lt, i_if_ge, i_if_gt, i_if_le, i_goto, i_ifnull, i_iald, i_bald, i_zald, i_lald, i_aald, i_iast, i_bast, i_zast, i_last, i_alen, i_iret, i_lret, i_aret, i_vret, i_oinit, i_cast, i_tsw, i_cases, i_mmin, i_mmax, i_lmin, i_throw, nb0, nb1, nint, nby0, rf_s, rf_n, of_r, of_n, tk_orf_rf, tk_c2, tk_ls, Value.category, tk_isR_ref, tk_isR_rf, tk_isR_null]
    exact ⟨hd, h⟩
  refine oinit _ ?_
  clear oinit hm hk hρ hI0 hJ0
  have hmc0 := hmc
  have hms0 := hms
  refine mkrow (N := 2000) rfl rfl (by omega) hR rfl (fun _ => rfl) (fun _ => rfl) (by omega) (by omega) (fun ρ S R hR => ?_)
  refine mkint rfl hR (fun S hR => ?_)
  refine mkrow (N := 12) rfl rfl (by omega) hR rfl (fun _ => rfl) (fun _ => rfl) (by omega) (by omega) (fun ρ S R hR => ?_)
  refine mkrow (N := 12) rfl rfl (by omega) hR rfl (fun _ => rfl) (fun _ => rfl) (by omega) (by omega) (fun ρ S R hR => ?_)
  refine mkrow (N := 480) rfl rfl (by omega) hR rfl (fun _ => rfl) (fun _ => rfl) (by omega) (by omega) (fun ρ S R hR => ?_)
  refine mkrow (N := 480) rfl rfl (by omega) hR rfl (fun _ => rfl) (fun _ => rfl) (by omega) (by omega) (fun ρ S R hR => ?_)
  refine mkrow (N := 480) rfl rfl (by omega) hR rfl (fun _ => rfl) (fun _ => rfl) (by omega) (by omega) (fun ρ S R hR => ?_)
  refine mkrow (N := 481) rfl rfl (by omega) hR rfl (fun _ => rfl) (fun _ => rfl) (by omega) (by omega) (fun ρ S R hR => ?_)
  refine mkrow (N := 480) rfl rfl (by omega) hR rfl (fun _ => rfl) (fun _ => rfl) (by omega) (by omega) (fun ρ S R hR => ?_)
  refine mkrow (N := 400) rfl rfl (by omega) hR rfl (fun _ => rfl) (fun _ => rfl) (by omega) (by omega) (fun ρ S R hR => ?_)
  refine mkrow (N := 400) rfl rfl (by omega) hR rfl (fun _ => rfl) (fun _ => rfl) (by omega) (by omega) (fun ρ S R hR => ?_)
  refine mkrow (N := 60) rfl rfl (by omega) hR rfl (fun _ => rfl) (fun _ => rfl) (by omega) (by omega) (fun ρ S R hR => ?_)
  refine mkrow (N := 60) rfl rfl (by omega) hR rfl (fun _ => rfl) (fun _ => rfl) (by omega) (by omega) (fun ρ S R hR => ?_)
  refine mkrow (N := 60) rfl rfl (by omega) hR rfl (fun _ => rfl) (fun _ => rfl) (by omega) (by omega) (fun ρ S R hR => ?_)
  refine mkrow (N := 60) rfl rfl (by omega) hR rfl (fun _ => rfl) (fun _ => rfl) (by omega) (by omega) (fun ρ S R hR => ?_)
  refine mkrow (N := 480) rfl rfl (by omega) hR rfl (fun _ => rfl) (fun _ => rfl) (by omega) (by omega) (fun ρ S R hR => ?_)
  refine mkrow (N := 480) rfl rfl (by omega) hR rfl (fun _ => rfl) (fun _ => rfl) (by omega) (by omega) (fun ρ S R hR => ?_)
  refine mkrow (N := 12) rfl rfl (by omega) hR rfl (fun _ => rfl) (fun _ => rfl) (by omega) (by omega) (fun ρ S R hR => ?_)
  refine mkrow (N := 12) rfl rfl (by omega) hR rfl (fun _ => rfl) (fun _ => rfl) (by omega) (by omega) (fun ρ S R hR => ?_)
  refine mkrow (N := 8) rfl rfl (by omega) hR rfl (fun _ => rfl) (fun _ => rfl) (by omega) (by omega) (fun ρ S R hR => ?_)
  refine mkrow (N := 8) rfl rfl (by omega) hR rfl (fun _ => rfl) (fun _ => rfl) (by omega) (by omega) (fun ρ S R hR => ?_)
  refine mkrow (N := 64) rfl rfl (by omega) hR rfl (fun _ => rfl) (fun _ => rfl) (by omega) (by omega) (fun ρ S R hR => ?_)
  refine mkrow (N := 40) rfl rfl (by omega) hR rfl (fun _ => rfl) (fun _ => rfl) (by omega) (by omega) (fun ρ S R hR => ?_)
  refine mkint rfl hR (fun S hR => ?_)
  refine mkrow (N := 600) rfl rfl (by omega) hR rfl (fun _ => rfl) (fun _ => rfl) (by omega) (by omega) (fun ρ S R hR => ?_)
  refine mkrow (N := 600) rfl rfl (by omega) hR rfl (fun _ => rfl) (fun _ => rfl) (by omega) (by omega) (fun ρ S R hR => ?_)
  refine mkrow (N := 600) rfl rfl (by omega) hR rfl (fun _ => rfl) (fun _ => rfl) (by omega) (by omega) (fun ρ S R hR => ?_)
  refine mkrow (N := 600) rfl rfl (by omega) hR rfl (fun _ => rfl) (fun _ => rfl) (by omega) (by omega) (fun ρ S R hR => ?_)
  refine mkrow (N := 8) rfl rfl (by omega) hR rfl (fun _ => rfl) (fun _ => rfl) (by omega) (by omega) (fun ρ S R hR => ?_)
  refine mkrow (N := 8) rfl rfl (by omega) hR rfl (fun _ => rfl) (fun _ => rfl) (by omega) (by omega) (fun ρ S R hR => ?_)
  refine mkrow (N := 80) rfl rfl (by omega) hR rfl (fun _ => rfl) (fun _ => rfl) (by omega) (by omega) (fun ρ S R hR => ?_)
  refine mkrow (N := 80) rfl rfl (by omega) hR rfl (fun _ => rfl) (fun _ => rfl) (by omega) (by omega) (fun ρ S R hR => ?_)
  refine mkrow (N := 80) rfl rfl (by omega) hR rfl (fun _ => rfl) (fun _ => rfl) (by omega) (by omega) (fun ρ S R hR => ?_)
  refine mkrow (N := 8) rfl rfl (by omega) hR rfl (fun _ => rfl) (fun _ => rfl) (by omega) (by omega) (fun ρ S R hR => ?_)
  refine mkrow (N := 8) rfl rfl (by omega) hR rfl (fun _ => rfl) (fun _ => rfl) (by omega) (by omega) (fun ρ S R hR => ?_)
  refine mkrow (N := 8) rfl rfl (by omega) hR rfl (fun _ => rfl) (fun _ => rfl) (by omega) (by omega) (fun ρ S R hR => ?_)
  refine mkrow (N := 8) rfl rfl (by omega) hR rfl (fun _ => rfl) (fun _ => rfl) (by omega) (by omega) (fun ρ S R hR => ?_)
  refine mkrow (N := 8) rfl rfl (by omega) hR rfl (fun _ => rfl) (fun _ => rfl) (by omega) (by omega) (fun ρ S R hR => ?_)
  refine mkrow (N := 10) rfl rfl (by omega) hR rfl (fun _ => rfl) (fun _ => rfl) (by omega) (by omega) (fun ρ S R hR => ?_)
  refine mkrow (N := 10) rfl rfl (by omega) hR rfl (fun _ => rfl) (fun _ => rfl) (by omega) (by omega) (fun ρ S R hR => ?_)
  refine mkrow (N := 10) rfl rfl (by omega) hR rfl (fun _ => rfl) (fun _ => rfl) (by omega) (by omega) (fun ρ S R hR => ?_)
  refine mkrow (N := 10) rfl rfl (by omega) hR rfl (fun _ => rfl) (fun _ => rfl) (by omega) (by omega) (fun ρ S R hR => ?_)
  refine mkrow (N := 10) rfl rfl (by omega) hR rfl (fun _ => rfl) (fun _ => rfl) (by omega) (by omega) (fun ρ S R hR => ?_)
  refine mkrow (N := 10) rfl rfl (by omega) hR rfl (fun _ => rfl) (fun _ => rfl) (by omega) (by omega) (fun ρ S R hR => ?_)
  have hR2 := RS.castT hR rLk_0
  simp -implicitDefEqProofs [i_aload, i_iload, i_lload, i_istore, i_lstore, i_astore, i_iinc, i_push, i_getI, i_getJ, i_getR, i_putI, i_putJ, i_putR, i_iadd, i_isub, i_imul, i_iand, i_ior, i_ixor, i_ishl, i_ishr, i_iushr, i_idiv, i_irem, i_ladd, i_lsub, i_lmul, i_land, i_lor, i_lxor, i_ldiv, i_lrem, i_lshl, i_lshr, i_lcmp, i_ineg, i_lneg, i_i2l, i_l2i, i_i2b, i_i2c, i_dup, i_pop, i_dup_x1, i_dup2, i_icmp_eq, i_icmp_lt, i_icmp_ge, i_icmp_gt, i_icmp_le, i_if_eq, i_if_lt, i_if_ge, i_if_gt, i_if_le, i_goto, i_ifnull, i_iald, i_bald, i_zald, i_lald, i_aald, i_iast, i_bast, i_zast, i_last, i_alen, i_iret, i_lret, i_aret, i_vret, i_oinit, i_cast, i_tsw, i_cases, i_mmin, i_mmax, i_lmin, i_throw, nb0, nb1, nint, nby0, rf_s, rf_n, of_r, of_n, tk_orf_rf, tk_c2, tk_ls, Value.category, tk_isR_ref, tk_isR_rf, tk_isR_null]
  refine ⟨hmc0, hms0, H _ _ _ hR2⟩
end RNEW

/-! THE REFERENCE: a line of the journal -/
section REFG2
variable {Z : tk_Z} {d mc ms : Nat} {S : tk_S} {QR : tk_R} {ρ : Nat → Nat} {m : Nat} {B : bS} {R : Nat → Nat} {V : vR}
/-- the numbers behind a line more, f1 to f4 what the rows held -/
def lineV (V : vR) (n : Nat) (kind who : Int32) (sum : Int64) (f1 f2 f3 f4 : Nat → Int32) : vR := wJ (wI (wA (wA (wA (wA V 38 (upd f1 n (vI V 32))) 39 (upd f2 n kind)) 40 (upd f3 n who)) 41 (upd f4 n sum.toInt32)) 42 (nI (n + 1))) (vJ V + sum)
theorem rLk_cl {cc cl cl' : Nat} : va_up (va_up (va_up (va_up (rLk cc cl) 38 (some (15, cl'))) 39 (some (15, cl'))) 40 (some (15, cl'))) 41 (some (15, cl')) = rLk cc cl' := by
  funext k
  unfold va_up
  by_cases h41 : k = 41
  · subst h41; rfl
  by_cases h40 : k = 40
  · subst h40; rfl
  by_cases h39 : k = 39
  · subst h39; rfl
  by_cases h38 : k = 38
  · subst h38; rfl
  rw [if_neg h41, if_neg h40, if_neg h39, if_neg h38]
  unfold rLk
  split <;> first | rfl | omega
theorem rLk_cc {cc cc' cl : Nat} : va_up (va_up (rLk cc cl) 15 (some (15, cc'))) 16 (some (15, cc')) = rLk cc' cl := by
  funext k
  unfold va_up
  by_cases h41 : k = 16
  · subst h41; rfl
  by_cases h40 : k = 15
  · subst h40; rfl
  rw [if_neg h41, if_neg h40]
  unfold rLk
  split <;> first | rfl | omega
set_option maxHeartbeats 4000000 in
theorem r_line {n cc : Nat} {kind who : Int32} {sum : Int64} (hd : 1 ≤ d) (hR : RS B m ρ S (rLk cc (cp 600 n)) R V) (hn : vI V 42 = nI n) (hn2 : n < 12000) (hmc : 4 * (lv 600 (n + 1) - lv 600 n) ≤ mc) (hms : 80000 * (lv 600 (n + 1) - lv 600 n) ≤ ms)
    (H : ∀ f1 f2 f3 f4 : Nat → Int32, (∀ j, j < n → f1 j = vA V 38 j ∧ f2 j = vA V 39 j ∧ f3 j = vA V 40 j ∧ f4 j = vA V 41 j) → okV B m (rLk cc (cp 600 (n + 1))) QR none (lineV V n kind who sum f1 f2 f3 f4)) : tk_M Z mX12_line d mc ms [.ref m, .int kind, .int who, .long sum] S QR tk_noX := by
  refine M_X12_line (Nat.le_of_ble_eq_true rfl) (fun E hE => hE.1 _ _ _ _ _ ?_)
  show t_X12_line_0 Z d mc ms QR E [some (.ref m), some (.int kind), some (.int who), some (.long sum), none] [] S 0 0
  have hge := cp_ge (b := 600) (n := n) (by omega)
  have hge1 := cp_ge (b := 600) (n := n + 1) (by omega)
  have body : ∀ (ρ : Nat → Nat) (S : tk_S) (R : Nat → Nat) (V1 : vR) (f1 f2 f3 f4 : Nat → Int32) cs ss, cs ≤ mc → ss ≤ ms → RS B m ρ S (rLk cc (cp 600 (n + 1))) R V1 → vI V1 42 = nI n → vI V1 32 = vI V 32 → vA V1 38 = f1 → vA V1 39 = f2 → vA V1 40 = f3 → vA V1 41 = f4 → (∀ j, j < n → f1 j = vA V 38 j ∧ f2 j = vA V 39 j ∧ f3 j = vA V 40 j ∧ f4 j = vA V 41 j) → lineV V1 n kind who sum f1 f2 f3 f4 = lineV V n kind who sum f1 f2 f3 f4 → E 56 [some (.ref m), some (.int kind), some (.int who), some (.long sum), none] [] S cs ss := by
    intro ρ S R V1 f1 f2 f3 f4 cs ss hcs hss hR hn h32 e1 e2 e3 e4 hf hV
    refine hE.2 _ _ _ _ _ ?_
    obtain ⟨h1, h2, h3⟩ := hR.1.1
    obtain ⟨hI, hJ, hA, hL⟩ := hR.2.1
    have t38 : rLk cc (cp 600 (n + 1)) 38 = some (15, cp 600 (n + 1)) := rfl
    have t39 : rLk cc (cp 600 (n + 1)) 39 = some (15, cp 600 (n + 1)) := rfl
    have t40 : rLk cc (cp 600 (n + 1)) 40 = some (15, cp 600 (n + 1)) := rfl
    have t41 : rLk cc (cp 600 (n + 1)) 41 = some (15, cp 600 (n + 1)) := rfl
    obtain ⟨a38, b38, c38, d38, -⟩ := hR.1.2 38 _ _ t38
    obtain ⟨a39, b39, c39, d39, -⟩ := hR.1.2 39 _ _ t39
    obtain ⟨a40, b40, c40, d40, -⟩ := hR.1.2 40 _ _ t40
    obtain ⟨a41, b41, c41, d41, -⟩ := hR.1.2 41 _ _ t41
    have x38 := hA 38 _ _ t38 (by decide)
    have x39 := hA 39 _ _ t39 (by decide)
    have x40 := hA 40 _ _ t40 (by decide)
    have x41 := hA 41 _ _ t41 (by decide)
    have n1 := hR.1.ne t39 t38 (by decide)
    have n2 := hR.1.ne t40 t38 (by decide)
    have n3 := hR.1.ne t41 t38 (by decide)
    have n4 := hR.1.ne t40 t39 (by decide)
    have n5 := hR.1.ne t41 t39 (by decide)
    have n6 := hR.1.ne t41 t40 (by decide)
    have hin : vp_in (nI n) (cp 600 (n + 1)) := vp_in_nI (by omega) (by omega)
    have ek : nI n + 1 = nI (n + 1) := nI_add n 1
    simp -implicitDefEqProofs [t_X12_line_56, i_aload, i_iload, i_lload, i_istore, i_lstore, i_astore, i_iinc, i_push, i_getI, i_getJ, i_getR, i_putI, i_putJ, i_putR, i_iadd, i_isub, i_imul, i_iand, i_ior, i_ixor, i_ishl, i_ishr, i_iushr, i_idiv, i_irem, i_ladd, i_lsub, i_lmul, i_land, i_lor, i_lxor, i_ldiv, i_lrem, i_lshl, i_lshr, i_lcmp, i_ineg, i_lneg, i_i2l, i_l2i, i_i2b, i_i2c, i_dup, i_pop, i_dup_x1, i_dup2, i_icmp_eq, i_icmp_lt, i_icmp_ge, i_icmp_gt, i_icmp_le, i_if_eq, i_if_lt, i_if_ge, i_if_gt, i_if_le, i_goto, i_ifnull, i_iald, i_bald, i_zald, i_lald, i_aald, i_iast, i_bast, i_zast, i_last, i_alen, i_iret, i_lret, i_aret, i_vret, i_oinit, i_cast, i_tsw, i_cases, i_mmin, i_mmax, i_lmin, i_throw, nb0, nb1, nint, nby0, rf_s, rf_n, of_r, of_n, tk_orf_rf, tk_c2, tk_ls, Value.category, tk_isR_ref, tk_isR_rf, tk_isR_null, z_q_L_s_I, z_q_K_s_I, z_q_I_s_I, z_q_J_s_I, z_q_R_s_I, z_q_n_s_I, z_q_aI_s_I, z_q_aJ_s_I, z_q_aR_s_I, z_q_L_s_J, z_q_K_s_J, z_q_I_s_J, z_q_J_s_J, z_q_R_s_J, z_q_n_s_J, z_q_aI_s_J, z_q_aJ_s_J, z_q_aR_s_J, z_q_L_s_R, z_q_K_s_R, z_q_I_s_R, z_q_J_s_R, z_q_R_s_R, z_q_n_s_R, z_q_aI_s_R, z_q_aJ_s_R, z_q_aR_s_R, z_q_L_s_aI, z_q_K_s_aI, z_q_I_s_aI, z_q_J_s_aI, z_q_R_s_aI, z_q_n_s_aI, z_q_aI_s_aI, z_q_aJ_s_aI, z_q_aR_s_aI, z_q_L_s_aJ, z_q_K_s_aJ, z_q_I_s_aJ, z_q_J_s_aJ, z_q_R_s_aJ, z_q_n_s_aJ, z_q_aI_s_aJ, z_q_aJ_s_aJ, z_q_aR_s_aJ, z_q_L_s_aR, z_q_K_s_aR, z_q_I_s_aR, z_q_J_s_aR, z_q_R_s_aR, z_q_n_s_aR, z_q_aI_s_aR, z_q_aJ_s_aR, z_q_aR_s_aR, z_q_L_s_new, z_q_K_s_new, z_q_I_s_new, z_q_J_s_new, z_q_R_s_new, z_q_n_s_new, z_q_aI_s_new, z_q_aJ_s_new, z_q_aR_s_new, z_q_L_s_arr, z_q_K_s_arr, z_q_I_s_arr, z_q_J_s_arr, z_q_R_s_arr, z_q_n_s_arr, z_q_aI_s_arr, z_q_aJ_s_arr, z_q_aR_s_arr, h1, h2, hI, hJ, hn, a38, b38, c38, d38, a39, b39, c39, d39, a40, b40, c40, d40, a41, b41, c41, d41, x38, x39, x40, x41, n1, n2, n3, n4, n5, n6, hin, ek, nI_clamp (show n < 2 ^ 31 by omega)]
    refine ⟨hcs, hss, H f1 f2 f3 f4 hf _ ρ R (RS.cast ?_ hV)⟩
    rw [e1, e2, e3, e4]
    unfold lineV
    exact (((((hR.iA t38 _).iA t39 _).iA t40 _).iA t41 _).iI 42 _).iJ _
  have step : ∀ k (T : nT) ρ S R V (K : tk_K) ls cs ss, RS B m ρ S T R V → T k = some (15, n) → cs + 1 ≤ mc → ss + 2 * n ≤ ms → (∀ ρ' S' R' f, RS B m ρ' S' (va_up T k (some (15, 2 * n))) R' (wA V k f) → (∀ j, j < n → f j = vA V k j) → K ls [] S' (cs + 1) (ss + 2 * n)) → i_callS Z mX12_longer 1 d mc ms (i_putR 13 k K) ls [.ref (R k), .ref m] S cs ss := by
    intro k T ρ S R V K ls cs ss hR hT hc hs h
    obtain ⟨h1, h2, h3⟩ := hR.1.1
    obtain ⟨a1, a2, a3, a4, -⟩ := hR.1.2 k _ _ hT
    have hA := hR.2.1.2.2.1 k _ _ hT (by decide)
    refine ⟨by simp, by simp [Value.category], 0, 1, 2 * n, by omega, by omega, by omega, ?_⟩
    refine r_longer a2 a3 a4 (by omega) (by omega) (by omega) (fun a f ha hf => ?_)
    have hma : m ≠ a := fun z => ha (z ▸ h1)
    simp -implicitDefEqProofs [i_aload, i_iload, i_lload, i_istore, i_lstore, i_astore, i_iinc, i_push, i_getI, i_getJ, i_getR, i_putI, i_putJ, i_putR, i_iadd, i_isub, i_imul, i_iand, i_ior, i_ixor, i_ishl, i_ishr, i_iushr, i_idiv, i_irem, i_ladd, i_lsub, i_lmul, i_land, i_lor, i_lxor, i_ldiv, i_lrem, i_lshl, i_lshr, i_lcmp, i_ineg, i_lneg, i_i2l, i_l2i, i_i2b, i_i2c, i_dup, i_pop, i_dup_x1, i_dup2, i_icmp_eq, i_icmp_lt, i_icmp_ge, i_icmp_gt, i_icmp_le, i_if_eq, i_if_lt, i_if_ge, i_if_gt, i_if_le, i_goto, i_ifnull, i_iald, i_bald, i_zald, i_lald, i_aald, i_iast, i_bast, i_zast, i_last, i_alen, i_iret, i_lret, i_aret, i_vret, i_oinit, i_cast, i_tsw, i_cases, i_mmin, i_mmax, i_lmin, i_throw, nb0, nb1, nint, nby0, rf_s, rf_n, of_r, of_n, tk_orf_rf, tk_c2, tk_ls, Value.category, tk_isR_ref, tk_isR_rf, tk_isR_null, z_q_L_s_I, z_q_K_s_I, z_q_I_s_I, z_q_J_s_I, z_q_R_s_I, z_q_n_s_I, z_q_aI_s_I, z_q_aJ_s_I, z_q_aR_s_I, z_q_L_s_J, z_q_K_s_J, z_q_I_s_J, z_q_J_s_J, z_q_R_s_J, z_q_n_s_J, z_q_aI_s_J, z_q_aJ_s_J, z_q_aR_s_J, z_q_L_s_R, z_q_K_s_R, z_q_I_s_R, z_q_J_s_R, z_q_R_s_R, z_q_n_s_R, z_q_aI_s_R, z_q_aJ_s_R, z_q_aR_s_R, z_q_L_s_aI, z_q_K_s_aI, z_q_I_s_aI, z_q_J_s_aI, z_q_R_s_aI, z_q_n_s_aI, z_q_aI_s_aI, z_q_aJ_s_aI, z_q_aR_s_aI, z_q_L_s_aJ, z_q_K_s_aJ, z_q_I_s_aJ, z_q_J_s_aJ, z_q_R_s_aJ, z_q_n_s_aJ, z_q_aI_s_aJ, z_q_aJ_s_aJ, z_q_aR_s_aJ, z_q_L_s_aR, z_q_K_s_aR, z_q_I_s_aR, z_q_J_s_aR, z_q_R_s_aR, z_q_n_s_aR, z_q_aI_s_aR, z_q_aJ_s_aR, z_q_aR_s_aR, z_q_L_s_new, z_q_K_s_new, z_q_I_s_new, z_q_J_s_new, z_q_R_s_new, z_q_n_s_new, z_q_aI_s_new, z_q_aJ_s_new, z_q_aR_s_new, z_q_L_s_arr, z_q_K_s_arr, z_q_I_s_arr, z_q_J_s_arr, z_q_R_s_arr, z_q_n_s_arr, z_q_aI_s_arr, z_q_aJ_s_arr, z_q_aR_s_arr, h1, h2, hma]
    exact h _ _ _ f (hR.grow hT ha f) (fun j hj => by rw [hf j hj, hA])
  obtain ⟨h1, h2, h3⟩ := hR.1.1
  obtain ⟨hI, hJ, hA, hL⟩ := hR.2.1
  have t38 : rLk cc (cp 600 n) 38 = some (15, cp 600 n) := rfl
  have t39 : rLk cc (cp 600 n) 39 = some (15, cp 600 n) := rfl
  have t40 : rLk cc (cp 600 n) 40 = some (15, cp 600 n) := rfl
  have t41 : rLk cc (cp 600 n) 41 = some (15, cp 600 n) := rfl
  obtain ⟨a38, b38, c38, d38, -⟩ := hR.1.2 38 _ _ t38
  obtain ⟨a39, b39, c39, d39, -⟩ := hR.1.2 39 _ _ t39
  obtain ⟨a40, b40, c40, d40, -⟩ := hR.1.2 40 _ _ t40
  obtain ⟨a41, b41, c41, d41, -⟩ := hR.1.2 41 _ _ t41
  rcases Nat.lt_or_ge n (cp 600 n) with hlt | hge2
  · have hz : ¬ nI n = nI (cp 600 n) := fun z => by
      have := (nI_eq (by omega) (by omega)).mp z
      omega
    simp -implicitDefEqProofs [t_X12_line_0, i_aload, i_iload, i_lload, i_istore, i_lstore, i_astore, i_iinc, i_push, i_getI, i_getJ, i_getR, i_putI, i_putJ, i_putR, i_iadd, i_isub, i_imul, i_iand, i_ior, i_ixor, i_ishl, i_ishr, i_iushr, i_idiv, i_irem, i_ladd, i_lsub, i_lmul, i_land, i_lor, i_lxor, i_ldiv, i_lrem, i_lshl, i_lshr, i_lcmp, i_ineg, i_lneg, i_i2l, i_l2i, i_i2b, i_i2c, i_dup, i_pop, i_dup_x1, i_dup2, i_icmp_eq, i_icmp_lt, i_icmp_ge, i_icmp_gt, i_icmp_le, i_if_eq, i_if_lt, i_if_ge, i_if_gt, i_if_le, i_goto, i_ifnull, i_iald, i_bald, i_zald, i_lald, i_aald, i_iast, i_bast, i_zast, i_last, i_alen, i_iret, i_lret, i_aret, i_vret, i_oinit, i_cast, i_tsw, i_cases, i_mmin, i_mmax, i_lmin, i_throw, nb0, nb1, nint, nby0, rf_s, rf_n, of_r, of_n, tk_orf_rf, tk_c2, tk_ls, Value.category, tk_isR_ref, tk_isR_rf, tk_isR_null, z_q_L_s_I, z_q_K_s_I, z_q_I_s_I, z_q_J_s_I, z_q_R_s_I, z_q_n_s_I, z_q_aI_s_I, z_q_aJ_s_I, z_q_aR_s_I, z_q_L_s_J, z_q_K_s_J, z_q_I_s_J, z_q_J_s_J, z_q_R_s_J, z_q_n_s_J, z_q_aI_s_J, z_q_aJ_s_J, z_q_aR_s_J, z_q_L_s_R, z_q_K_s_R, z_q_I_s_R, z_q_J_s_R, z_q_R_s_R, z_q_n_s_R, z_q_aI_s_R, z_q_aJ_s_R, z_q_aR_s_R, z_q_L_s_aI, z_q_K_s_aI, z_q_I_s_aI, z_q_J_s_aI, z_q_R_s_aI, z_q_n_s_aI, z_q_aI_s_aI, z_q_aJ_s_aI, z_q_aR_s_aI, z_q_L_s_aJ, z_q_K_s_aJ, z_q_I_s_aJ, z_q_J_s_aJ, z_q_R_s_aJ, z_q_n_s_aJ, z_q_aI_s_aJ, z_q_aJ_s_aJ, z_q_aR_s_aJ, z_q_L_s_aR, z_q_K_s_aR, z_q_I_s_aR, z_q_J_s_aR, z_q_R_s_aR, z_q_n_s_aR, z_q_aI_s_aR, z_q_aJ_s_aR, z_q_aR_s_aR, z_q_L_s_new, z_q_K_s_new, z_q_I_s_new, z_q_J_s_new, z_q_R_s_new, z_q_n_s_new, z_q_aI_s_new, z_q_aJ_s_new, z_q_aR_s_new, z_q_L_s_arr, z_q_K_s_arr, z_q_I_s_arr, z_q_J_s_arr, z_q_R_s_arr, z_q_n_s_arr, z_q_aI_s_arr, z_q_aJ_s_arr, z_q_aR_s_arr, h1, h2, hI, hn, a38, b38, c38, d38, hz]
    have hin := cp_in hlt
    rw [← hin.1] at hR
    exact body ρ S R V _ _ _ _ 0 0 (by omega) (by omega) hR hn rfl rfl rfl rfl rfl (fun j hj => ⟨rfl, rfl, rfl, rfl⟩) rfl
  · have hnc : n = cp 600 n := by omega
    have hful := cp_full (b := 600) (n := n) (by omega) hnc (by omega)
    have hz : nI n = nI (cp 600 n) := by rw [← hnc]
    simp -implicitDefEqProofs [t_X12_line_0, i_aload, i_iload, i_lload, i_istore, i_lstore, i_astore, i_iinc, i_push, i_getI, i_getJ, i_getR, i_putI, i_putJ, i_putR, i_iadd, i_isub, i_imul, i_iand, i_ior, i_ixor, i_ishl, i_ishr, i_iushr, i_idiv, i_irem, i_ladd, i_lsub, i_lmul, i_land, i_lor, i_lxor, i_ldiv, i_lrem, i_lshl, i_lshr, i_lcmp, i_ineg, i_lneg, i_i2l, i_l2i, i_i2b, i_i2c, i_dup, i_pop, i_dup_x1, i_dup2, i_icmp_eq, i_icmp_lt, i_icmp_ge, i_icmp_gt, i_icmp_le, i_if_eq, i_if_lt, i_if_ge, i_if_gt, i_if_le, i_goto, i_ifnull, i_iald, i_bald, i_zald, i_lald, i_aald, i_iast, i_bast, i_zast, i_last, i_alen, i_iret, i_lret, i_aret, i_vret, i_oinit, i_cast, i_tsw, i_cases, i_mmin, i_mmax, i_lmin, i_throw, nb0, nb1, nint, nby0, rf_s, rf_n, of_r, of_n, tk_orf_rf, tk_c2, tk_ls, Value.category, tk_isR_ref, tk_isR_rf, tk_isR_null, z_q_L_s_I, z_q_K_s_I, z_q_I_s_I, z_q_J_s_I, z_q_R_s_I, z_q_n_s_I, z_q_aI_s_I, z_q_aJ_s_I, z_q_aR_s_I, z_q_L_s_J, z_q_K_s_J, z_q_I_s_J, z_q_J_s_J, z_q_R_s_J, z_q_n_s_J, z_q_aI_s_J, z_q_aJ_s_J, z_q_aR_s_J, z_q_L_s_R, z_q_K_s_R, z_q_I_s_R, z_q_J_s_R, z_q_R_s_R, z_q_n_s_R, z_q_aI_s_R, z_q_aJ_s_R, z_q_aR_s_R, z_q_L_s_aI, z_q_K_s_aI, z_q_I_s_aI, z_q_J_s_aI, z_q_R_s_aI, z_q_n_s_aI, z_q_aI_s_aI, z_q_aJ_s_aI, z_q_aR_s_aI, z_q_L_s_aJ, z_q_K_s_aJ, z_q_I_s_aJ, z_q_J_s_aJ, z_q_R_s_aJ, z_q_n_s_aJ, z_q_aI_s_aJ, z_q_aJ_s_aJ, z_q_aR_s_aJ, z_q_L_s_aR, z_q_K_s_aR, z_q_I_s_aR, z_q_J_s_aR, z_q_R_s_aR, z_q_n_s_aR, z_q_aI_s_aR, z_q_aJ_s_aR, z_q_aR_s_aR, z_q_L_s_new, z_q_K_s_new, z_q_I_s_new, z_q_J_s_new, z_q_R_s_new, z_q_n_s_new, z_q_aI_s_new, z_q_aJ_s_new, z_q_aR_s_new, z_q_L_s_arr, z_q_K_s_arr, z_q_I_s_arr, z_q_J_s_arr, z_q_R_s_arr, z_q_n_s_arr, z_q_aI_s_arr, z_q_aJ_s_arr, z_q_aR_s_arr, h1, h2, hI, hn, a38, b38, c38, d38, hz]
    have ehin : 2 * n = cp 600 (n + 1) := hful.1.symm
    rw [hful.2] at hmc hms
    have d1 : lv 600 n + 1 - lv 600 n = 1 := by omega
    rw [d1] at hmc hms
    have t38 : rLk cc (cp 600 n) 38 = some (15, n) := by rw [← hnc]; rfl
    refine step 38 _ _ _ _ _ _ _ _ _ hR t38 (by omega) (by omega) (fun ρ1 S1 R1 f1 g1 w1 => ?_)
    have t39 : va_up (rLk cc (cp 600 n)) 38 (some (15, 2 * n)) 39 = some (15, n) := by rw [← hnc]; rfl
    obtain ⟨u1, u2, u3⟩ := g1.1.1
    obtain ⟨a39, -⟩ := g1.1.2 39 _ _ t39
    simp -implicitDefEqProofs [i_aload, i_iload, i_lload, i_istore, i_lstore, i_astore, i_iinc, i_push, i_getI, i_getJ, i_getR, i_putI, i_putJ, i_putR, i_iadd, i_isub, i_imul, i_iand, i_ior, i_ixor, i_ishl, i_ishr, i_iushr, i_idiv, i_irem, i_ladd, i_lsub, i_lmul, i_land, i_lor, i_lxor, i_ldiv, i_lrem, i_lshl, i_lshr, i_lcmp, i_ineg, i_lneg, i_i2l, i_l2i, i_i2b, i_i2c, i_dup, i_pop, i_dup_x1, i_dup2, i_icmp_eq, i_icmp_lt, i_icmp_ge, i_icmp_gt, i_icmp_le, i_if_eq, i_if_lt, i_if_ge, i_if_gt, i_if_le, i_goto, i_ifnull, i_iald, i_bald, i_zald, i_lald, i_aald, i_iast, i_bast, i_zast, i_last, i_alen, i_iret, i_lret, i_aret, i_vret, i_oinit, i_cast, i_tsw, i_cases, i_mmin, i_mmax, i_lmin, i_throw, nb0, nb1, nint, nby0, rf_s, rf_n, of_r, of_n, tk_orf_rf, tk_c2, tk_ls, Value.category, tk_isR_ref, tk_isR_rf, tk_isR_null, z_q_L_s_I, z_q_K_s_I, z_q_I_s_I, z_q_J_s_I, z_q_R_s_I, z_q_n_s_I, z_q_aI_s_I, z_q_aJ_s_I, z_q_aR_s_I, z_q_L_s_J, z_q_K_s_J, z_q_I_s_J, z_q_J_s_J, z_q_R_s_J, z_q_n_s_J, z_q_aI_s_J, z_q_aJ_s_J, z_q_aR_s_J, z_q_L_s_R, z_q_K_s_R, z_q_I_s_R, z_q_J_s_R, z_q_R_s_R, z_q_n_s_R, z_q_aI_s_R, z_q_aJ_s_R, z_q_aR_s_R, z_q_L_s_aI, z_q_K_s_aI, z_q_I_s_aI, z_q_J_s_aI, z_q_R_s_aI, z_q_n_s_aI, z_q_aI_s_aI, z_q_aJ_s_aI, z_q_aR_s_aI, z_q_L_s_aJ, z_q_K_s_aJ, z_q_I_s_aJ, z_q_J_s_aJ, z_q_R_s_aJ, z_q_n_s_aJ, z_q_aI_s_aJ, z_q_aJ_s_aJ, z_q_aR_s_aJ, z_q_L_s_aR, z_q_K_s_aR, z_q_I_s_aR, z_q_J_s_aR, z_q_R_s_aR, z_q_n_s_aR, z_q_aI_s_aR, z_q_aJ_s_aR, z_q_aR_s_aR, z_q_L_s_new, z_q_K_s_new, z_q_I_s_new, z_q_J_s_new, z_q_R_s_new, z_q_n_s_new, z_q_aI_s_new, z_q_aJ_s_new, z_q_aR_s_new, z_q_L_s_arr, z_q_K_s_arr, z_q_I_s_arr, z_q_J_s_arr, z_q_R_s_arr, z_q_n_s_arr, z_q_aI_s_arr, z_q_aJ_s_arr, z_q_aR_s_arr, u1, u2, a39]
    refine step 39 _ _ _ _ _ _ _ _ _ g1 t39 (by omega) (by omega) (fun ρ2 S2 R2 f2 g2 w2 => ?_)
    have t40 : va_up (va_up (rLk cc (cp 600 n)) 38 (some (15, 2 * n))) 39 (some (15, 2 * n)) 40 = some (15, n) := by rw [← hnc]; rfl
    obtain ⟨u1, u2, u3⟩ := g2.1.1
    obtain ⟨a40, -⟩ := g2.1.2 40 _ _ t40
    simp -implicitDefEqProofs [i_aload, i_iload, i_lload, i_istore, i_lstore, i_astore, i_iinc, i_push, i_getI, i_getJ, i_getR, i_putI, i_putJ, i_putR, i_iadd, i_isub, i_imul, i_iand, i_ior, i_ixor, i_ishl, i_ishr, i_iushr, i_idiv, i_irem, i_ladd, i_lsub, i_lmul, i_land, i_lor, i_lxor, i_ldiv, i_lrem, i_lshl, i_lshr, i_lcmp, i_ineg, i_lneg, i_i2l, i_l2i, i_i2b, i_i2c, i_dup, i_pop, i_dup_x1, i_dup2, i_icmp_eq, i_icmp_lt, i_icmp_ge, i_icmp_gt, i_icmp_le, i_if_eq, i_if_lt, i_if_ge, i_if_gt, i_if_le, i_goto, i_ifnull, i_iald, i_bald, i_zald, i_lald, i_aald, i_iast, i_bast, i_zast, i_last, i_alen, i_iret, i_lret, i_aret, i_vret, i_oinit, i_cast, i_tsw, i_cases, i_mmin, i_mmax, i_lmin, i_throw, nb0, nb1, nint, nby0, rf_s, rf_n, of_r, of_n, tk_orf_rf, tk_c2, tk_ls, Value.category, tk_isR_ref, tk_isR_rf, tk_isR_null, z_q_L_s_I, z_q_K_s_I, z_q_I_s_I, z_q_J_s_I, z_q_R_s_I, z_q_n_s_I, z_q_aI_s_I, z_q_aJ_s_I, z_q_aR_s_I, z_q_L_s_J, z_q_K_s_J, z_q_I_s_J, z_q_J_s_J, z_q_R_s_J, z_q_n_s_J, z_q_aI_s_J, z_q_aJ_s_J, z_q_aR_s_J, z_q_L_s_R, z_q_K_s_R, z_q_I_s_R, z_q_J_s_R, z_q_R_s_R, z_q_n_s_R, z_q_aI_s_R, z_q_aJ_s_R, z_q_aR_s_R, z_q_L_s_aI, z_q_K_s_aI, z_q_I_s_aI, z_q_J_s_aI, z_q_R_s_aI, z_q_n_s_aI, z_q_aI_s_aI, z_q_aJ_s_aI, z_q_aR_s_aI, z_q_L_s_aJ, z_q_K_s_aJ, z_q_I_s_aJ, z_q_J_s_aJ, z_q_R_s_aJ, z_q_n_s_aJ, z_q_aI_s_aJ, z_q_aJ_s_aJ, z_q_aR_s_aJ, z_q_L_s_aR, z_q_K_s_aR, z_q_I_s_aR, z_q_J_s_aR, z_q_R_s_aR, z_q_n_s_aR, z_q_aI_s_aR, z_q_aJ_s_aR, z_q_aR_s_aR, z_q_L_s_new, z_q_K_s_new, z_q_I_s_new, z_q_J_s_new, z_q_R_s_new, z_q_n_s_new, z_q_aI_s_new, z_q_aJ_s_new, z_q_aR_s_new, z_q_L_s_arr, z_q_K_s_arr, z_q_I_s_arr, z_q_J_s_arr, z_q_R_s_arr, z_q_n_s_arr, z_q_aI_s_arr, z_q_aJ_s_arr, z_q_aR_s_arr, u1, u2, a40]
    refine step 40 _ _ _ _ _ _ _ _ _ g2 t40 (by omega) (by omega) (fun ρ3 S3 R3 f3 g3 w3 => ?_)
    have t41 : va_up (va_up (va_up (rLk cc (cp 600 n)) 38 (some (15, 2 * n))) 39 (some (15, 2 * n))) 40 (some (15, 2 * n)) 41 = some (15, n) := by rw [← hnc]; rfl
    obtain ⟨u1, u2, u3⟩ := g3.1.1
    obtain ⟨a41, -⟩ := g3.1.2 41 _ _ t41
    simp -implicitDefEqProofs [i_aload, i_iload, i_lload, i_istore, i_lstore, i_astore, i_iinc, i_push, i_getI, i_getJ, i_getR, i_putI, i_putJ, i_putR, i_iadd, i_isub, i_imul, i_iand, i_ior, i_ixor, i_ishl, i_ishr, i_iushr, i_idiv, i_irem, i_ladd, i_lsub, i_lmul, i_land, i_lor, i_lxor, i_ldiv, i_lrem, i_lshl, i_lshr, i_lcmp, i_ineg, i_lneg, i_i2l, i_l2i, i_i2b, i_i2c, i_dup, i_pop, i_dup_x1, i_dup2, i_icmp_eq, i_icmp_lt, i_icmp_ge, i_icmp_gt, i_icmp_le, i_if_eq, i_if_lt, i_if_ge, i_if_gt, i_if_le, i_goto, i_ifnull, i_iald, i_bald, i_zald, i_lald, i_aald, i_iast, i_bast, i_zast, i_last, i_alen, i_iret, i_lret, i_aret, i_vret, i_oinit, i_cast, i_tsw, i_cases, i_mmin, i_mmax, i_lmin, i_throw, nb0, nb1, nint, nby0, rf_s, rf_n, of_r, of_n, tk_orf_rf, tk_c2, tk_ls, Value.category, tk_isR_ref, tk_isR_rf, tk_isR_null, z_q_L_s_I, z_q_K_s_I, z_q_I_s_I, z_q_J_s_I, z_q_R_s_I, z_q_n_s_I, z_q_aI_s_I, z_q_aJ_s_I, z_q_aR_s_I, z_q_L_s_J, z_q_K_s_J, z_q_I_s_J, z_q_J_s_J, z_q_R_s_J, z_q_n_s_J, z_q_aI_s_J, z_q_aJ_s_J, z_q_aR_s_J, z_q_L_s_R, z_q_K_s_R, z_q_I_s_R, z_q_J_s_R, z_q_R_s_R, z_q_n_s_R, z_q_aI_s_R, z_q_aJ_s_R, z_q_aR_s_R, z_q_L_s_aI, z_q_K_s_aI, z_q_I_s_aI, z_q_J_s_aI, z_q_R_s_aI, z_q_n_s_aI, z_q_aI_s_aI, z_q_aJ_s_aI, z_q_aR_s_aI, z_q_L_s_aJ, z_q_K_s_aJ, z_q_I_s_aJ, z_q_J_s_aJ, z_q_R_s_aJ, z_q_n_s_aJ, z_q_aI_s_aJ, z_q_aJ_s_aJ, z_q_aR_s_aJ, z_q_L_s_aR, z_q_K_s_aR, z_q_I_s_aR, z_q_J_s_aR, z_q_R_s_aR, z_q_n_s_aR, z_q_aI_s_aR, z_q_aJ_s_aR, z_q_aR_s_aR, z_q_L_s_new, z_q_K_s_new, z_q_I_s_new, z_q_J_s_new, z_q_R_s_new, z_q_n_s_new, z_q_aI_s_new, z_q_aJ_s_new, z_q_aR_s_new, z_q_L_s_arr, z_q_K_s_arr, z_q_I_s_arr, z_q_J_s_arr, z_q_R_s_arr, z_q_n_s_arr, z_q_aI_s_arr, z_q_aJ_s_arr, z_q_aR_s_arr, u1, u2, a41]
    refine step 41 _ _ _ _ _ _ _ _ _ g3 t41 (by omega) (by omega) (fun ρ4 S4 R4 f4 g4 w4 => ?_)
    have g5 := g4.castT (T' := rLk cc (cp 600 (n + 1))) (by rw [rLk_cl, ehin])
    refine body ρ4 S4 R4 _ f1 f2 f3 f4 _ _ (by omega) (by omega) g5 (by simp [vI_wA, hn]) (by simp [vI_wA]) (by simp [vA_wA]) (by simp [vA_wA]) (by simp [vA_wA]) (by simp [vA_wA]) (fun j hj => ⟨w1 j hj, w2 j hj, w3 j hj, w4 j hj⟩) ?_
    refine vR_ext (fun k => rfl) rfl (fun k => ?_) (fun k => rfl)
    simp only [lineV, vA_wJ, vA_wI, vA_wA]
    by_cases h41 : k = 41
    · subst h41; simp [vI_wA]
    by_cases h40 : k = 40
    · subst h40; simp [vI_wA]
    by_cases h39 : k = 39
    · subst h39; simp [vI_wA]
    by_cases h38 : k = 38
    · subst h38; simp [vI_wA]
    simp [h41, h40, h39, h38]
end REFG2

/-! THE CLASS'S CALLS: days, mending -/
section PUB8
variable {Z : tk_Z} {d mc ms : Nat} {S : tk_S} {QR : tk_R} {QX : String → tk_S → Prop} {ρ : Nat → Nat} {x : Nat} {gh : gH} {M : Mt}
/-- what moves when a day goes by -/
def movW (M : Mt) : mW := (M.2.2.2.2.2.2.1.2.2.2.2, M.2.2.2.2.2.1.2, M.2.2.2.1.2.2.2.1, M.2.2.2.1.2.2.2.2.2.2.1, M.2.2.2.1.2.2.2.2.2.2.2.1, M.2.2.2.2.2.2.2.1)
def movN (M : Mt) : mW := moveM (M.2.2.2.2.2.2.2.2.1 + 1) M.2.2.2.1.1 M.2.2.2.2.2.2.1.1 M.2.2.2.1.2.2.2.2.1 M.2.2.2.1.2.2.2.2.2.1 M.2.2.2.2.2.2.1.2.1 M.2.2.2.2.2.2.1.2.2.1 M.2.2.2.2.2.2.1.2.2.2.1 (movW M)
/-- a day goes by -/
def dayM (M : Mt) : Mt := (M.1, M.2.1, M.2.2.1, (M.2.2.2.1.1, M.2.2.2.1.2.1, M.2.2.2.1.2.2.1, (movN M).2.2.1, M.2.2.2.1.2.2.2.2.1, M.2.2.2.1.2.2.2.2.2.1, (movN M).2.2.2.1, (movN M).2.2.2.2.1, M.2.2.2.1.2.2.2.2.2.2.2.2), M.2.2.2.2.1, (M.2.2.2.2.2.1.1, (movN M).2.1), (M.2.2.2.2.2.2.1.1, M.2.2.2.2.2.2.1.2.1, M.2.2.2.2.2.2.1.2.2.1, M.2.2.2.2.2.2.1.2.2.2.1, (movN M).1), (movN M).2.2.2.2.2, (M.2.2.2.2.2.2.2.2.1 + 1, M.2.2.2.2.2.2.2.2.2))
/-- what a day asks of the numbers -/
def dayOK (M : Mt) : Prop := (∀ i, M.2.2.2.1.2.2.2.2.2.2.2.1 i ≤ 1000) ∧ (∀ i, M.2.2.2.1.2.2.2.2.2.2.1 i ≤ 10090) ∧ (dayM M).2.2.2.2.2.2.2.1.1 < 12000 ∧ M.2.2.2.2.2.2.2.1.1 ≤ (dayM M).2.2.2.2.2.2.2.1.1 ∧ ((M.2.2.2.2.2.2.2.2.1 + 1) % 365 = 0 → ∀ m, m < 4 → 0 ≤ (ranksM (M.2.2.2.2.2.2.2.2.1 + 1) M.2.2.2.2.2.2.1.1 M.2.2.2.2.2.2.1.2.2.2.1 m (growM M.2.2.2.2.2.2.1.2.1 M.2.2.2.2.2.2.1.2.2.1 M.2.2.2.2.2.2.1.1 M.2.2.2.2.2.2.1.2.2.2.2, M.2.2.2.2.2.2.2.1)).2.2.1)
theorem m_dayC (hd : 8 ≤ d) (hZ : Z.2.2.2.2.2.1 ∉ q_L S) (hC : CI Z ρ S x gh M) (hM : dayOK M) (ht9 : M.2.2.2.2.2.2.2.2.1 ≤ 9998)
    (hmc : 5 * (lvl (dayM M).2.2.2.2.2.2.2.1.1 - lvl M.2.2.2.2.2.2.2.1.1) ≤ mc) (hms : 60000 * (lvl (dayM M).2.2.2.2.2.2.2.1.1 - lvl M.2.2.2.2.2.2.2.1.1) ≤ ms)
    (H : ∀ S' ρ', FO ρ ρ' S S' → CI Z ρ' S' x gh (dayM M) → Z.2.2.2.2.2.1 ∉ q_L S' → QR none S') : tk_M Z mX11_moveOn d mc ms [.ref x] S QR tk_noX := by
  have hM0 := hM
  have hC0 := hC
  obtain ⟨fS, fG, fV, p, p2, fF, fL, bl⟩ := gh
  obtain ⟨⟨tn, tg, tp⟩, acts, ⟨nS, pr, wo⟩, ⟨nG, os, ps, ls, re, su, du, le, nb, bf, br, bs⟩, ⟨nV, kd, wh, be, bi, pa, pd, la⟩, ⟨nF, mo⟩, ⟨nL, lsu, lra, lrk, ldu⟩, J, ⟨td, dry, lc⟩⟩ := M
  obtain ⟨cD0, cT0, cK0, cA0, cS0, cG0, cV0, cF0, cL0, cJ0⟩ := hC
  obtain ⟨hx, hk, hρ, htd, ht, hdry, hlc⟩ := cD0
  obtain ⟨o1, o2, o3, o4, o5⟩ := hM
  refine tk_M.out (m_moveOn (w := (ldu, mo, ls, du, le, J)) hd hZ hx hk hρ htd ht9 cG0 cF0 cL0 cJ0 o1 o2 o3 o5 hmc hms (fun S' ρ' hB hG hF hL hJ hZ' => ?_))
  have s1 : ∀ b, b ∈ q_L S → ρ b ∉ [1, 4, 21, 41, 48, 49] → sameAt S S' b := fun b hb hn => by
    have h1 : b ≠ x := fun z => hn (by rw [z, hρ]; simp)
    exact (s_I_same hb h1).trans (hB.2.2 b hb (fun z => hn (by
      simp only [List.mem_cons, List.not_mem_nil, or_false] at z ⊢
      omega)))
  have sx := hB.2.2 x hx (by rw [hρ]; simp)
  have xr1 : xr S S' x := ⟨sx.1, sx.2.1, fun k => sx.2.2.2.2.1 12 k⟩
  refine H S' ρ' (FO.of hB.1 hB.2.1 s1 (by simp)) ⟨⟨sx.1, sx.2.1.trans hk, (hB.2.1 x hx).trans hρ, (sx.2.2.1 12 9).trans (by simp -implicitDefEqProofs [z_q_L_s_I, z_q_K_s_I, z_q_I_s_I, z_q_J_s_I, z_q_R_s_I, z_q_n_s_I, z_q_aI_s_I, z_q_aJ_s_I, z_q_aR_s_I, z_q_L_s_J, z_q_K_s_J, z_q_I_s_J, z_q_J_s_J, z_q_R_s_J, z_q_n_s_J, z_q_aI_s_J, z_q_aJ_s_J, z_q_aR_s_J, z_q_L_s_R, z_q_K_s_R, z_q_I_s_R, z_q_J_s_R, z_q_R_s_R, z_q_n_s_R, z_q_aI_s_R, z_q_aJ_s_R, z_q_aR_s_R, z_q_L_s_aI, z_q_K_s_aI, z_q_I_s_aI, z_q_J_s_aI, z_q_R_s_aI, z_q_n_s_aI, z_q_aI_s_aI, z_q_aJ_s_aI, z_q_aR_s_aI, z_q_L_s_aJ, z_q_K_s_aJ, z_q_I_s_aJ, z_q_J_s_aJ, z_q_R_s_aJ, z_q_n_s_aJ, z_q_aI_s_aJ, z_q_aJ_s_aJ, z_q_aR_s_aJ, z_q_L_s_aR, z_q_K_s_aR, z_q_I_s_aR, z_q_J_s_aR, z_q_R_s_aR, z_q_n_s_aR, z_q_aI_s_aR, z_q_aJ_s_aR, z_q_aR_s_aR, z_q_L_s_new, z_q_K_s_new, z_q_I_s_new, z_q_J_s_new, z_q_R_s_new, z_q_n_s_new, z_q_aI_s_new, z_q_aJ_s_new, z_q_aR_s_new, z_q_L_s_arr, z_q_K_s_arr, z_q_I_s_arr, z_q_J_s_arr, z_q_R_s_arr, z_q_n_s_arr, z_q_aI_s_arr, z_q_aJ_s_arr, z_q_aR_s_arr]), ?_, (sx.2.2.1 12 10).trans (by simpa -implicitDefEqProofs [z_q_L_s_I, z_q_K_s_I, z_q_I_s_I, z_q_J_s_I, z_q_R_s_I, z_q_n_s_I, z_q_aI_s_I, z_q_aJ_s_I, z_q_aR_s_I, z_q_L_s_J, z_q_K_s_J, z_q_I_s_J, z_q_J_s_J, z_q_R_s_J, z_q_n_s_J, z_q_aI_s_J, z_q_aJ_s_J, z_q_aR_s_J, z_q_L_s_R, z_q_K_s_R, z_q_I_s_R, z_q_J_s_R, z_q_R_s_R, z_q_n_s_R, z_q_aI_s_R, z_q_aJ_s_R, z_q_aR_s_R, z_q_L_s_aI, z_q_K_s_aI, z_q_I_s_aI, z_q_J_s_aI, z_q_R_s_aI, z_q_n_s_aI, z_q_aI_s_aI, z_q_aJ_s_aI, z_q_aR_s_aI, z_q_L_s_aJ, z_q_K_s_aJ, z_q_I_s_aJ, z_q_J_s_aJ, z_q_R_s_aJ, z_q_n_s_aJ, z_q_aI_s_aJ, z_q_aJ_s_aJ, z_q_aR_s_aJ, z_q_L_s_aR, z_q_K_s_aR, z_q_I_s_aR, z_q_J_s_aR, z_q_R_s_aR, z_q_n_s_aR, z_q_aI_s_aR, z_q_aJ_s_aR, z_q_aR_s_aR, z_q_L_s_new, z_q_K_s_new, z_q_I_s_new, z_q_J_s_new, z_q_R_s_new, z_q_n_s_new, z_q_aI_s_new, z_q_aJ_s_new, z_q_aR_s_new, z_q_L_s_arr, z_q_K_s_arr, z_q_I_s_arr, z_q_J_s_arr, z_q_R_s_arr, z_q_n_s_arr, z_q_aI_s_arr, z_q_aJ_s_arr, z_q_aR_s_arr] using hdry), (sx.2.2.1 12 11).trans (by simpa -implicitDefEqProofs [z_q_L_s_I, z_q_K_s_I, z_q_I_s_I, z_q_J_s_I, z_q_R_s_I, z_q_n_s_I, z_q_aI_s_I, z_q_aJ_s_I, z_q_aR_s_I, z_q_L_s_J, z_q_K_s_J, z_q_I_s_J, z_q_J_s_J, z_q_R_s_J, z_q_n_s_J, z_q_aI_s_J, z_q_aJ_s_J, z_q_aR_s_J, z_q_L_s_R, z_q_K_s_R, z_q_I_s_R, z_q_J_s_R, z_q_R_s_R, z_q_n_s_R, z_q_aI_s_R, z_q_aJ_s_R, z_q_aR_s_R, z_q_L_s_aI, z_q_K_s_aI, z_q_I_s_aI, z_q_J_s_aI, z_q_R_s_aI, z_q_n_s_aI, z_q_aI_s_aI, z_q_aJ_s_aI, z_q_aR_s_aI, z_q_L_s_aJ, z_q_K_s_aJ, z_q_I_s_aJ, z_q_J_s_aJ, z_q_R_s_aJ, z_q_n_s_aJ, z_q_aI_s_aJ, z_q_aJ_s_aJ, z_q_aR_s_aJ, z_q_L_s_aR, z_q_K_s_aR, z_q_I_s_aR, z_q_J_s_aR, z_q_R_s_aR, z_q_n_s_aR, z_q_aI_s_aR, z_q_aJ_s_aR, z_q_aR_s_aR, z_q_L_s_new, z_q_K_s_new, z_q_I_s_new, z_q_J_s_new, z_q_R_s_new, z_q_n_s_new, z_q_aI_s_new, z_q_aJ_s_new, z_q_aR_s_new, z_q_L_s_arr, z_q_K_s_arr, z_q_I_s_arr, z_q_J_s_arr, z_q_R_s_arr, z_q_n_s_arr, z_q_aI_s_arr, z_q_aJ_s_arr, z_q_aR_s_arr] using hlc)⟩, cT0.same xr1 (sm.no s1 (by simp)) hB.2.1, cK0.same xr1 (sm.no s1 (by simp)) hB.2.1, cA0.same hZ xr1 (sm.no s1 (by simp)) hB.2.1, cS0.same hZ xr1 (sm.no s1 (by simp)) hB.2.1, hG, cV0.same hZ xr1 (sm.no s1 (by simp)) hB.2.1, hF, hL, hJ⟩ hZ'
  show td + 1 ≤ 9999
  have : td ≤ 9998 := ht9
  omega
def daysM : Nat → Mt → Mt
  | 0, M => M
  | n + 1, M => dayM (daysM n M)
theorem daysM_td : ∀ n (M : Mt), (daysM n M).2.2.2.2.2.2.2.2.1 = M.2.2.2.2.2.2.2.2.1 + n := by
  intro n M
  induction n with
  | zero => rfl
  | succ n ih =>
    show (daysM n M).2.2.2.2.2.2.2.2.1 + 1 = _
    rw [ih]
    omega
set_option maxHeartbeats 4000000 in
theorem c_wait {i : Int32} (hst : Z.1.stackTraces = false) (hd : 9 ≤ d) (hZ : Z.2.2.2.2.2.1 ∉ q_L S) (hC : CI Z ρ S x gh M) (hM : ∀ n : Nat, i = nI n → n ≤ 1000 → M.2.2.2.2.2.2.2.2.1 + n ≤ 9999 → ∀ k, k < n → dayOK (daysM k M))
    (hmc : ∀ n : Nat, i = nI n → n ≤ 1000 → 1 + 5 * (lvl (daysM n M).2.2.2.2.2.2.2.1.1 - lvl M.2.2.2.2.2.2.2.1.1) ≤ mc) (hms : ∀ n : Nat, i = nI n → n ≤ 1000 → 6 + 60000 * (lvl (daysM n M).2.2.2.2.2.2.2.1.1 - lvl M.2.2.2.2.2.2.2.1.1) ≤ ms) (hmc1 : 1 ≤ mc) (hms6 : 6 ≤ ms)
    (H1 : ¬ (0 ≤ i ∧ i ≤ 1000) ∨ ¬ (nI M.2.2.2.2.2.2.2.2.1 + i ≤ 9999) → QX "java/lang/IllegalArgumentException" S)
    (H0 : ∀ n : Nat, i = nI n → n ≤ 1000 → M.2.2.2.2.2.2.2.2.1 + n ≤ 9999 → okC Z ρ S x QR (.int (nI (M.2.2.2.2.2.2.2.2.1 + n))) (daysM n M)) : tk_M Z mX11_wait d mc ms [.ref x, .int i] S QR QX := by
  have hx := hC.1.1
  have hk := hC.1.2.1
  have htd := hC.1.2.2.2.1
  have ht9 := hC.1.2.2.2.2.1
  refine M_X11_wait hst (by omega) (Nat.le_of_ble_eq_true rfl) (fun E hE => hE.1 _ _ _ _ _ ?_)
  show t_X11_wait_0 Z d mc ms QR QX E [some (.ref x), some (.int i), none] [] S 0 0
  simp -implicitDefEqProofs [t_X11_wait_0, i_aload, i_iload, i_lload, i_istore, i_lstore, i_astore, i_iinc, i_push, i_getI, i_getJ, i_getR, i_putI, i_putJ, i_putR, i_iadd, i_isub, i_imul, i_iand, i_ior, i_ixor, i_ishl, i_ishr, i_iushr, i_idiv, i_irem, i_ladd, i_lsub, i_lmul, i_land, i_lor, i_lxor, i_ldiv, i_lrem, i_lshl, i_lshr, i_lcmp, i_ineg, i_lneg, i_i2l, i_l2i, i_i2b, i_i2c, i_dup, i_pop, i_dup_x1, i_dup2, i_icmp_eq, i_icmp_lt, i_icmp_ge, i_icmp_gt, i_icmp_le, i_if_eq, i_if_lt, i_if_ge, i_if_gt, i_if_le, i_goto, i_ifnull, i_iald, i_bald, i_zald, i_lald, i_aald, i_iast, i_bast, i_zast, i_last, i_alen, i_iret, i_lret, i_aret, i_vret, i_oinit, i_cast, i_tsw, i_cases, i_mmin, i_mmax, i_lmin, i_throw, nb0, nb1, nint, nby0, rf_s, rf_n, of_r, of_n, tk_orf_rf, tk_c2, tk_ls, Value.category, tk_isR_ref, tk_isR_rf, tk_isR_null]
  refine w_callS (by omega) (by simp) (fun z1 => ?_) (fun z1 => ?_)
  · simp -implicitDefEqProofs [i_aload, i_iload, i_lload, i_istore, i_lstore, i_astore, i_iinc, i_push, i_getI, i_getJ, i_getR, i_putI, i_putJ, i_putR, i_iadd, i_isub, i_imul, i_iand, i_ior, i_ixor, i_ishl, i_ishr, i_iushr, i_idiv, i_irem, i_ladd, i_lsub, i_lmul, i_land, i_lor, i_lxor, i_ldiv, i_lrem, i_lshl, i_lshr, i_lcmp, i_ineg, i_lneg, i_i2l, i_l2i, i_i2b, i_i2c, i_dup, i_pop, i_dup_x1, i_dup2, i_icmp_eq, i_icmp_lt, i_icmp_ge, i_icmp_gt, i_icmp_le, i_if_eq, i_if_lt, i_if_ge, i_if_gt, i_if_le, i_goto, i_ifnull, i_iald, i_bald, i_zald, i_lald, i_aald, i_iast, i_bast, i_zast, i_last, i_alen, i_iret, i_lret, i_aret, i_vret, i_oinit, i_cast, i_tsw, i_cases, i_mmin, i_mmax, i_lmin, i_throw, nb0, nb1, nint, nby0, rf_s, rf_n, of_r, of_n, tk_orf_rf, tk_c2, tk_ls, Value.category, tk_isR_ref, tk_isR_rf, tk_isR_null]
    exact ⟨by omega, by omega, H1 (Or.inl z1)⟩
  obtain ⟨n, hn, rfl⟩ := nI_of2 (M := 1000) (n := 1000) rfl (Int32.not_lt.mpr z1.1) z1.2
  have e1 : nI M.2.2.2.2.2.2.2.2.1 + nI n = nI (M.2.2.2.2.2.2.2.2.1 + n) := nI_add _ _
  have ht9' : M.2.2.2.2.2.2.2.2.1 ≤ 9999 := ht9
  have hcmp : (nI (M.2.2.2.2.2.2.2.2.1 + n) ≤ 9999 ↔ M.2.2.2.2.2.2.2.2.1 + n ≤ 9999) := nI_leI (b := 9999) (by omega) (by omega)
  have hmc := hmc n rfl hn
  have hms := hms n rfl hn
  rw [e1] at H1
  have mono : ∀ j k, k + j = n → M.2.2.2.2.2.2.2.2.1 + n ≤ 9999 → (daysM k M).2.2.2.2.2.2.2.1.1 ≤ (daysM n M).2.2.2.2.2.2.2.1.1 := by
    intro j
    induction j with
    | zero => intro k hk2 _; rw [show k = n by omega]; exact Nat.le_refl _
    | succ j ih =>
      intro k hk2 h9
      exact Nat.le_trans (hM n rfl hn h9 k (by omega)).2.2.2.1 (ih (k + 1) (by omega) h9)
  have mono0 : ∀ k, k ≤ n → M.2.2.2.2.2.2.2.2.1 + n ≤ 9999 → M.2.2.2.2.2.2.2.1.1 ≤ (daysM k M).2.2.2.2.2.2.2.1.1 := by
    intro k
    induction k with
    | zero => intro _ _; exact Nat.le_refl _
    | succ k ih =>
      intro hk2 h9
      exact Nat.le_trans (ih (by omega) h9) (hM n rfl hn h9 k (by omega)).2.2.2.1
  have loop : ∀ m k S1 ρ1 cs ss, m + k = n → M.2.2.2.2.2.2.2.2.1 + n ≤ 9999 → FO ρ ρ1 S S1 → CI Z ρ1 S1 x gh (daysM k M) → Z.2.2.2.2.2.1 ∉ q_L S1 → cs ≤ 5 * (lvl (daysM k M).2.2.2.2.2.2.2.1.1 - lvl M.2.2.2.2.2.2.2.1.1) → ss ≤ 60000 * (lvl (daysM k M).2.2.2.2.2.2.2.1.1 - lvl M.2.2.2.2.2.2.2.1.1) → E 35 [some (.ref x), some (.int (nI n)), some (.int (nI k))] [] S1 cs ss := by
    intro m
    induction m with
    | zero =>
      intro k S1 ρ1 cs ss hm h9 hF hC1 hZ1 hcs hss
      refine hE.2 _ _ _ _ _ ?_
      have hk2 : k = n := by omega
      subst hk2
      have hx1 : x ∈ q_L S1 := hC1.1.1
      have hk1 : q_K S1 x = 12 := hC1.1.2.1
      have ht1 : q_I S1 12 9 x = nI (daysM k M).2.2.2.2.2.2.2.2.1 := hC1.1.2.2.2.1
      rw [daysM_td] at ht1
      simp -implicitDefEqProofs [t_X11_wait_35, i_aload, i_iload, i_lload, i_istore, i_lstore, i_astore, i_iinc, i_push, i_getI, i_getJ, i_getR, i_putI, i_putJ, i_putR, i_iadd, i_isub, i_imul, i_iand, i_ior, i_ixor, i_ishl, i_ishr, i_iushr, i_idiv, i_irem, i_ladd, i_lsub, i_lmul, i_land, i_lor, i_lxor, i_ldiv, i_lrem, i_lshl, i_lshr, i_lcmp, i_ineg, i_lneg, i_i2l, i_l2i, i_i2b, i_i2c, i_dup, i_pop, i_dup_x1, i_dup2, i_icmp_eq, i_icmp_lt, i_icmp_ge, i_icmp_gt, i_icmp_le, i_if_eq, i_if_lt, i_if_ge, i_if_gt, i_if_le, i_goto, i_ifnull, i_iald, i_bald, i_zald, i_lald, i_aald, i_iast, i_bast, i_zast, i_last, i_alen, i_iret, i_lret, i_aret, i_vret, i_oinit, i_cast, i_tsw, i_cases, i_mmin, i_mmax, i_lmin, i_throw, nb0, nb1, nint, nby0, rf_s, rf_n, of_r, of_n, tk_orf_rf, tk_c2, tk_ls, Value.category, tk_isR_ref, tk_isR_rf, tk_isR_null, hx1, hk1, ht1]
      exact ⟨by omega, by omega, H0 k rfl hn h9 S1 ρ1 gh hF hC1⟩
    | succ m ih =>
      intro k S1 ρ1 cs ss hm h9 hF hC1 hZ1 hcs hss
      refine hE.2 _ _ _ _ _ ?_
      have hx1 : x ∈ q_L S1 := hC1.1.1
      have hk1 : q_K S1 x = 12 := hC1.1.2.1
      have z : ¬ nI n ≤ nI k := nI_ge (by omega) (by omega)
      have ek : nI k + 1 = nI (k + 1) := nI_add k 1
      have l1 := lvl_mono (mono0 k (by omega) h9)
      have l2 := lvl_mono (hM n rfl hn h9 k (by omega)).2.2.2.1
      have l3 := lvl_mono (mono m (k + 1) (by omega) h9)
      have hst2 : daysM (k + 1) M = dayM (daysM k M) := rfl
      simp -implicitDefEqProofs [t_X11_wait_35, i_aload, i_iload, i_lload, i_istore, i_lstore, i_astore, i_iinc, i_push, i_getI, i_getJ, i_getR, i_putI, i_putJ, i_putR, i_iadd, i_isub, i_imul, i_iand, i_ior, i_ixor, i_ishl, i_ishr, i_iushr, i_idiv, i_irem, i_ladd, i_lsub, i_lmul, i_land, i_lor, i_lxor, i_ldiv, i_lrem, i_lshl, i_lshr, i_lcmp, i_ineg, i_lneg, i_i2l, i_l2i, i_i2b, i_i2c, i_dup, i_pop, i_dup_x1, i_dup2, i_icmp_eq, i_icmp_lt, i_icmp_ge, i_icmp_gt, i_icmp_le, i_if_eq, i_if_lt, i_if_ge, i_if_gt, i_if_le, i_goto, i_ifnull, i_iald, i_bald, i_zald, i_lald, i_aald, i_iast, i_bast, i_zast, i_last, i_alen, i_iret, i_lret, i_aret, i_vret, i_oinit, i_cast, i_tsw, i_cases, i_mmin, i_mmax, i_lmin, i_throw, nb0, nb1, nint, nby0, rf_s, rf_n, of_r, of_n, tk_orf_rf, tk_c2, tk_ls, Value.category, tk_isR_ref, tk_isR_rf, tk_isR_null, z]
      refine ⟨by simp, hx1, hk1, by simp [Value.category], 8, 5 * (lvl (dayM (daysM k M)).2.2.2.2.2.2.2.1.1 - lvl (daysM k M).2.2.2.2.2.2.2.1.1), 60000 * (lvl (dayM (daysM k M)).2.2.2.2.2.2.2.1.1 - lvl (daysM k M).2.2.2.2.2.2.2.1.1), by omega, ?_, ?_, ?_⟩
      · rw [← hst2] at l2 ⊢
        omega
      · rw [← hst2] at l2 ⊢
        omega
      refine m_dayC (Nat.le_refl 8) hZ1 hC1 (hM n rfl hn h9 k (by omega)) (by rw [daysM_td]; omega) (Nat.le_refl _) (Nat.le_refl _) (fun S2 ρ2 F2 c2 hZ2 => ?_)
      simp -implicitDefEqProofs [i_aload, i_iload, i_lload, i_istore, i_lstore, i_astore, i_iinc, i_push, i_getI, i_getJ, i_getR, i_putI, i_putJ, i_putR, i_iadd, i_isub, i_imul, i_iand, i_ior, i_ixor, i_ishl, i_ishr, i_iushr, i_idiv, i_irem, i_ladd, i_lsub, i_lmul, i_land, i_lor, i_lxor, i_ldiv, i_lrem, i_lshl, i_lshr, i_lcmp, i_ineg, i_lneg, i_i2l, i_l2i, i_i2b, i_i2c, i_dup, i_pop, i_dup_x1, i_dup2, i_icmp_eq, i_icmp_lt, i_icmp_ge, i_icmp_gt, i_icmp_le, i_if_eq, i_if_lt, i_if_ge, i_if_gt, i_if_le, i_goto, i_ifnull, i_iald, i_bald, i_zald, i_lald, i_aald, i_iast, i_bast, i_zast, i_last, i_alen, i_iret, i_lret, i_aret, i_vret, i_oinit, i_cast, i_tsw, i_cases, i_mmin, i_mmax, i_lmin, i_throw, nb0, nb1, nint, nby0, rf_s, rf_n, of_r, of_n, tk_orf_rf, tk_c2, tk_ls, Value.category, tk_isR_ref, tk_isR_rf, tk_isR_null, ek]
      rw [← hst2] at l2 ⊢
      refine ih (k + 1) S2 ρ2 _ _ (by omega) h9 ⟨hF.1.trans F2.1, fun b hb => (F2.2.1 b (hF.1 b hb)).trans (hF.2.1 b hb), fun b hb hr => (hF.2.2 b hb hr).trans (F2.2.2 b (hF.1 b hb) (by rw [hF.2.1 b hb]; exact hr))⟩ c2 hZ2 (by omega) (by omega)
  simp -implicitDefEqProofs [i_aload, i_iload, i_lload, i_istore, i_lstore, i_astore, i_iinc, i_push, i_getI, i_getJ, i_getR, i_putI, i_putJ, i_putR, i_iadd, i_isub, i_imul, i_iand, i_ior, i_ixor, i_ishl, i_ishr, i_iushr, i_idiv, i_irem, i_ladd, i_lsub, i_lmul, i_land, i_lor, i_lxor, i_ldiv, i_lrem, i_lshl, i_lshr, i_lcmp, i_ineg, i_lneg, i_i2l, i_l2i, i_i2b, i_i2c, i_dup, i_pop, i_dup_x1, i_dup2, i_icmp_eq, i_icmp_lt, i_icmp_ge, i_icmp_gt, i_icmp_le, i_if_eq, i_if_lt, i_if_ge, i_if_gt, i_if_le, i_goto, i_ifnull, i_iald, i_bald, i_zald, i_lald, i_aald, i_iast, i_bast, i_zast, i_last, i_alen, i_iret, i_lret, i_aret, i_vret, i_oinit, i_cast, i_tsw, i_cases, i_mmin, i_mmax, i_lmin, i_throw, nb0, nb1, nint, nby0, rf_s, rf_n, of_r, of_n, tk_orf_rf, tk_c2, tk_ls, Value.category, tk_isR_ref, tk_isR_rf, tk_isR_null, hx, hk, htd, e1]
  refine ⟨fun w => ?_, fun w => ?_⟩
  · exact loop n 0 S ρ 0 0 rfl (hcmp.mp w) FO.rfl' hC hZ (Nat.zero_le _) (Nat.zero_le _)
  · exact ⟨by omega, by omega, H1 (Or.inr (Int32.not_le.mpr w))⟩
end PUB8

/-! THE LAW'S LOOP, from an empty pool -/
section LOOP
variable {Z : tk_Z} {d mc ms b L x m r : Nat} {xs : Nat → Int32} {E : tk_E}
theorem tsw_all {y : Int32} {ls : List (Option Value)} {st : List Value} {S : tk_S} {cs ss : Nat} {Kd : tk_K} (hd : Kd ls st S cs ss) : ∀ (Ks : List (Int32 × tk_K)), (∀ q ∈ Ks, q.2 ls st S cs ss) → i_cases y Ks Kd ls st S cs ss := by
  intro Ks
  induction Ks with
  | nil => intro _; exact hd
  | cons q Ks ih =>
    intro h
    obtain ⟨v, K⟩ := q
    exact ⟨fun _ => h (v, K) List.mem_cons_self, fun _ => ih (fun q hq => h q (List.mem_cons_of_mem _ hq))⟩
theorem LC.mono {c : Nat} {S : tk_S} {cs ss : Nat} {M : Mt} (h : LC Z c x m r S cs ss M) : LC Z (c + 1) x m r S cs ss M := by
  obtain ⟨ρ, R, V, gh, hw, k, hC, hR, hI, hO, hIV, hJV, hk, hkw, hhw, hcs, hss⟩ := h
  exact ⟨ρ, R, V, gh, hw, k, hC, hR, hI, hO, hIV.mono (Nat.le_succ c), hJV, hk, hkw, hhw, by omega, by omega⟩
set_option maxHeartbeats 4000000 in
theorem law_loop (hE : T_Law Z d mc ms b L xs E) (hd : d = 2000) (hmc : mc = 601024) (hms : ms = 7293034) (hst : Z.1.stackTraces = false) (hL2 : L ≤ 3072) : ∀ n c S cs ss M l5 l6 l7, 6 * (c + n) ≤ L → L < 6 * (c + n) + 6 → Z.2.2.2.2.2.1 ∉ q_L S → LC Z c x m r S cs ss M →
    E 23 [some (.ref b), some (.ref x), some (.ref m), some (.ref r), some (.int (nI (6 * c))), l5, l6, l7] [] S cs ss := by
  intro n
  induction n with
  | zero =>
    intro c S cs ss M l5 l6 l7 h1 h2 hZ h
    refine hE.2.2.1 _ _ _ _ _ ?_
    have gt : nI L - 6 < nI (6 * c) := by
      rw [Int32.lt_iff_toInt_lt, Int32.toInt_sub, nI_toInt (by omega), nI_toInt (by omega), show (6 : Int32).toInt = 6 from rfl]
      rw [Int.bmod_eq_of_le (by omega) (by omega)]
      omega
    simp -implicitDefEqProofs [t_Law_23, i_iload, i_aload, i_xlen, i_push, i_isub, i_icmp_gt, gt, tk_isR_ref]
    obtain ⟨ρ, R, V, gh, hw, k, hC, hR, hI, hO, hIV, hJV, hk, hkw, hhw, hcs, hss⟩ := h
    have a1 := lvl_le (jnM M)
    have a2 := lv_le 600 (jnM M)
    have a3 := lv_le 400 hw
    exact ⟨rfl, by omega, by omega⟩
  | succ n ih =>
    intro c S cs ss M l5 l6 l7 h1 h2 hZ h
    have hL : 6 * c + 6 ≤ L := by omega
    have next : NX Z b c x m r E := fun S cs ss M l5 l6 l7 hZ h => by
      refine hE.2.2.2.2.2.2.2.2.2.2.2.2.2.2.2.2.2.2.2.2.2.2.2.2.2.2.2.2 _ _ _ _ _ ?_
      have e6 : nI (6 * c) + 6 = nI (6 * (c + 1)) := by
        rw [show 6 * (c + 1) = 6 * c + 6 by omega]
        exact nI_add (6 * c) 6
      simp -implicitDefEqProofs [t_Law_1635, i_iinc, i_goto, tk_c2, Value.category, e6]
      exact ih (c + 1) S cs ss M l5 l6 l7 (by omega) (by omega) hZ h
    refine hE.2.2.1 _ _ _ _ _ ?_
    have ngt : ¬ nI L - 6 < nI (6 * c) := by
      rw [Int32.lt_iff_toInt_lt, Int32.toInt_sub, nI_toInt (by omega), nI_toInt (by omega), show (6 : Int32).toInt = 6 from rfl]
      rw [Int.bmod_eq_of_le (by omega) (by omega)]
      omega
    have v0 : vp_in (nI (6 * c)) L := vp_in_nI (by omega) (by omega)
    have k0 : (nI (6 * c)).toNatClampNeg = 6 * c := nI_clamp (by omega)
    simp -implicitDefEqProofs [t_Law_23, i_iload, i_aload, i_xlen, i_push, i_isub, i_icmp_gt, i_xld, i_iand, ngt, v0, k0, tk_isR_ref]
    show i_cases _ _ _ _ _ _ _ _
    refine tsw_all (next S cs ss M l5 l6 l7 hZ h.mono) _ (fun q hq => ?_)
    simp only [List.mem_cons, List.not_mem_nil, or_false] at hq
    rcases hq with rfl | rfl | rfl | rfl | rfl | rfl | rfl | rfl | rfl | rfl | rfl | rfl | rfl | rfl | rfl | rfl | rfl | rfl | rfl | rfl | rfl | rfl | rfl | rfl | rfl
    · exact k_feed hE hd hmc hms hst hL hL2 hZ h next
    · exact k_act hE hd hmc hms hst hL hL2 hZ h next
    · exact k_fault hE hd hmc hms hst hL hL2 hZ h next
    · exact k_stretch hE hd hmc hms hst hL hL2 hZ h next
    · exact k_gate hE hd hmc hms hst hL hL2 hZ h next
    · exact k_traveller hE hd hmc hms hst hL hL2 hZ h next
    · exact k_pass hE hd hmc hms hst hL hL2 hZ h next
    · exact k_clause hE hd hmc hms hst hL hL2 hZ h next
    · exact k_asked hE hd hmc hms hst hL hL2 hZ h next
    · exact k_force hE hd hmc hms hst hL hL2 hZ h next
    · exact k_wait hE hd hmc hms hst hL hL2 hZ h next
    · exact k_rain hE hd hmc hms hst hL hL2 hZ h next
    · exact k_mend hE hd hmc hms hst hL hL2 hZ h next
    · exact k_farmer hE hd hmc hms hst hL hL2 hZ h next
    · exact k_bid hE hd hmc hms hst hL hL2 hZ h next
    · exact k_let hE hd hmc hms hst hL hL2 hZ h next
    · exact k_gateTold hE hd hmc hms hst hL hL2 hZ h next
    · exact k_borrow hE hd hmc hms hst hL hL2 hZ h next
    · exact k_repay hE hd hmc hms hst hL hL2 hZ h next
    · exact k_loan hE hd hmc hms hst hL hL2 hZ h next
    · exact k_money hE hd hmc hms hst hL hL2 hZ h next
    · exact k_wear hE hd hmc hms hst hL hL2 hZ h next
    · exact k_box hE hd hmc hms hst hL hL2 hZ h next
    · exact k_journal hE hd hmc hms hst hL hL2 hZ h next
    · exact k_count hE hd hmc hms hst hL hL2 hZ h next
/-- nothing yet -/
def S00 : tk_S := ([], fun _ => 0, fun _ _ _ => 0, fun _ _ _ => 0, fun _ _ _ => none, fun _ => 0, fun _ _ => 0, fun _ _ => 0, fun _ _ => none)
theorem RS.mv {ρ ρ' : Nat → Nat} {S S' : tk_S} {T : nT} {R : Nat → Nat} {V : vR} (hR : RS (ρ, S) m ρ S T R V) (f3 : ∀ b, b ∈ q_L S → sameAt S S' b) (f2 : rx ρ ρ' S) : RS (ρ', S') m ρ' S' T R V := by
  obtain ⟨⟨⟨h1, h2, h3⟩, hA⟩, ⟨v1, v2, v3, v4⟩, -⟩ := hR
  have sm := f3 m h1
  have sr : ∀ k kd cap, T k = some (kd, cap) → sameAt S S' (R k) := fun k kd cap hT => f3 _ (hA k kd cap hT).2.1
  refine ⟨⟨⟨sm.1, sm.2.1.trans h2, (f2 m h1).trans h3⟩, fun k kd cap hT => ?_⟩, ⟨fun k => (sm.2.2.1 13 k).trans (v1 k), (sm.2.2.2.1 13 43).trans v2, fun k kd cap hT hk => (sr k kd cap hT).2.2.2.2.2.2.1.trans (v3 k kd cap hT hk), fun k cap hT => (sr k 16 cap hT).2.2.2.2.2.2.2.1.trans (v4 k cap hT)⟩, bF.rfl'⟩
  obtain ⟨a1, a2, a3, a4, a5⟩ := hA k kd cap hT
  have s := sr k kd cap hT
  exact ⟨(sm.2.2.2.2.1 13 k).trans a1, s.1, s.2.1.trans a3, s.2.2.2.2.2.1.trans a4, (f2 _ a2).trans a5⟩
theorem RI.new : RI vZ0 0 M0 := by
  refine ⟨⟨rfl, rfl, rfl⟩, ⟨rfl, Nat.zero_le _, rfl, fun a A h => by simp at h⟩, ⟨rfl, rfl, rfl⟩, ⟨rfl, rfl, fun g => rfl, fun g hg => absurd hg (Nat.not_lt_zero _)⟩, ⟨rfl, Nat.zero_le _, rfl, rfl, rfl, rfl, fun j hj => absurd hj (Nat.not_lt_zero _), fun t ht => absurd ht (Nat.not_lt_zero _)⟩, ⟨rfl, rfl⟩, ⟨rfl, rfl, rfl, rfl, rfl⟩, ⟨rfl, rfl, fun j hj => absurd hj (Nat.not_lt_zero _)⟩, ⟨rfl, rfl, rfl⟩⟩
set_option maxHeartbeats 4000000 in
theorem law_start (hE : T_Law Z d mc ms b L xs E) (hd : d = 2000) (hmc : mc = 601024) (hms : ms = 7293034) (hst : Z.1.stackTraces = false) (hL2 : L ≤ 3072) : E 0 [some (.ref b), none, none, none, none, none, none, none] [] S00 0 0 := by
  refine hE.2.1 _ _ _ _ _ ?_
  simp -implicitDefEqProofs [t_Law_0, i_aload, i_iload, i_lload, i_istore, i_lstore, i_astore, i_iinc, i_push, i_getI, i_getJ, i_getR, i_putI, i_putJ, i_putR, i_iadd, i_isub, i_imul, i_iand, i_ior, i_ixor, i_ishl, i_ishr, i_iushr, i_idiv, i_irem, i_ladd, i_lsub, i_lmul, i_land, i_lor, i_lxor, i_ldiv, i_lrem, i_lshl, i_lshr, i_lcmp, i_ineg, i_lneg, i_i2l, i_l2i, i_i2b, i_i2c, i_dup, i_pop, i_dup_x1, i_dup2, i_icmp_eq, i_icmp_lt, i_icmp_ge, i_icmp_gt, i_icmp_le, i_if_eq, i_if_lt, i_if_ge, i_if_gt, i_if_le, i_goto, i_ifnull, i_iald, i_bald, i_zald, i_lald, i_aald, i_iast, i_bast, i_zast, i_last, i_alen, i_iret, i_lret, i_aret, i_vret, i_oinit, i_cast, i_tsw, i_cases, i_mmin, i_mmax, i_lmin, i_throw, nb0, nb1, nint, nby0, rf_s, rf_n, of_r, of_n, tk_orf_rf, tk_c2, tk_ls, Value.category, tk_isR_ref, tk_isR_rf, tk_isR_null, i_new]
  refine ⟨by omega, by omega, fun x hx => ?_⟩
  refine ⟨by simp, by simp [Value.category], 1900, 18, 4413, by omega, by omega, by omega, ?_⟩
  refine tk_M.out (c_new (ρ := fun _ => 1) (by simp -implicitDefEqProofs [z_q_L_s_I, z_q_K_s_I, z_q_I_s_I, z_q_J_s_I, z_q_R_s_I, z_q_n_s_I, z_q_aI_s_I, z_q_aJ_s_I, z_q_aR_s_I, z_q_L_s_J, z_q_K_s_J, z_q_I_s_J, z_q_J_s_J, z_q_R_s_J, z_q_n_s_J, z_q_aI_s_J, z_q_aJ_s_J, z_q_aR_s_J, z_q_L_s_R, z_q_K_s_R, z_q_I_s_R, z_q_J_s_R, z_q_R_s_R, z_q_n_s_R, z_q_aI_s_R, z_q_aJ_s_R, z_q_aR_s_R, z_q_L_s_aI, z_q_K_s_aI, z_q_I_s_aI, z_q_J_s_aI, z_q_R_s_aI, z_q_n_s_aI, z_q_aI_s_aI, z_q_aJ_s_aI, z_q_aR_s_aI, z_q_L_s_aJ, z_q_K_s_aJ, z_q_I_s_aJ, z_q_J_s_aJ, z_q_R_s_aJ, z_q_n_s_aJ, z_q_aI_s_aJ, z_q_aJ_s_aJ, z_q_aR_s_aJ, z_q_L_s_aR, z_q_K_s_aR, z_q_I_s_aR, z_q_J_s_aR, z_q_R_s_aR, z_q_n_s_aR, z_q_aI_s_aR, z_q_aJ_s_aR, z_q_aR_s_aR, z_q_L_s_new, z_q_K_s_new, z_q_I_s_new, z_q_J_s_new, z_q_R_s_new, z_q_n_s_new, z_q_aI_s_new, z_q_aJ_s_new, z_q_aR_s_new, z_q_L_s_arr, z_q_K_s_arr, z_q_I_s_arr, z_q_J_s_arr, z_q_R_s_arr, z_q_n_s_arr, z_q_aI_s_arr, z_q_aJ_s_arr, z_q_aR_s_arr]) (by simp -implicitDefEqProofs [z_q_L_s_I, z_q_K_s_I, z_q_I_s_I, z_q_J_s_I, z_q_R_s_I, z_q_n_s_I, z_q_aI_s_I, z_q_aJ_s_I, z_q_aR_s_I, z_q_L_s_J, z_q_K_s_J, z_q_I_s_J, z_q_J_s_J, z_q_R_s_J, z_q_n_s_J, z_q_aI_s_J, z_q_aJ_s_J, z_q_aR_s_J, z_q_L_s_R, z_q_K_s_R, z_q_I_s_R, z_q_J_s_R, z_q_R_s_R, z_q_n_s_R, z_q_aI_s_R, z_q_aJ_s_R, z_q_aR_s_R, z_q_L_s_aI, z_q_K_s_aI, z_q_I_s_aI, z_q_J_s_aI, z_q_R_s_aI, z_q_n_s_aI, z_q_aI_s_aI, z_q_aJ_s_aI, z_q_aR_s_aI, z_q_L_s_aJ, z_q_K_s_aJ, z_q_I_s_aJ, z_q_J_s_aJ, z_q_R_s_aJ, z_q_n_s_aJ, z_q_aI_s_aJ, z_q_aJ_s_aJ, z_q_aR_s_aJ, z_q_L_s_aR, z_q_K_s_aR, z_q_I_s_aR, z_q_J_s_aR, z_q_R_s_aR, z_q_n_s_aR, z_q_aI_s_aR, z_q_aJ_s_aR, z_q_aR_s_aR, z_q_L_s_new, z_q_K_s_new, z_q_I_s_new, z_q_J_s_new, z_q_R_s_new, z_q_n_s_new, z_q_aI_s_new, z_q_aJ_s_new, z_q_aR_s_new, z_q_L_s_arr, z_q_K_s_arr, z_q_I_s_arr, z_q_J_s_arr, z_q_R_s_arr, z_q_n_s_arr, z_q_aI_s_arr, z_q_aJ_s_arr, z_q_aR_s_arr]) rfl (by omega) (Nat.le_refl _) (Nat.le_refl _) (fun S1 ρ1 gh1 g1 r1 s1 C1 hZ1 => ?_))
  simp -implicitDefEqProofs [i_aload, i_iload, i_lload, i_istore, i_lstore, i_astore, i_iinc, i_push, i_getI, i_getJ, i_getR, i_putI, i_putJ, i_putR, i_iadd, i_isub, i_imul, i_iand, i_ior, i_ixor, i_ishl, i_ishr, i_iushr, i_idiv, i_irem, i_ladd, i_lsub, i_lmul, i_land, i_lor, i_lxor, i_ldiv, i_lrem, i_lshl, i_lshr, i_lcmp, i_ineg, i_lneg, i_i2l, i_l2i, i_i2b, i_i2c, i_dup, i_pop, i_dup_x1, i_dup2, i_icmp_eq, i_icmp_lt, i_icmp_ge, i_icmp_gt, i_icmp_le, i_if_eq, i_if_lt, i_if_ge, i_if_gt, i_if_le, i_goto, i_ifnull, i_iald, i_bald, i_zald, i_lald, i_aald, i_iast, i_bast, i_zast, i_last, i_alen, i_iret, i_lret, i_aret, i_vret, i_oinit, i_cast, i_tsw, i_cases, i_mmin, i_mmax, i_lmin, i_throw, nb0, nb1, nint, nby0, rf_s, rf_n, of_r, of_n, tk_orf_rf, tk_c2, tk_ls, Value.category, tk_isR_ref, tk_isR_rf, tk_isR_null, i_new]
  refine ⟨by omega, by omega, fun m hm => ?_⟩
  have C2 : CI Z (va_up ρ1 m 100) (s_new S1 13 m) x gh1 M0 := C1.move hZ1 (fun b hb _ => new_same hb hm) (fun b hb => if_neg (fun (z : b = m) => hm (z ▸ hb)))
  refine ⟨by simp, by simp [Value.category], 1900, 42, 9325, by omega, by omega, by omega, ?_⟩
  refine tk_M.out (rr_new (ρ := va_up ρ1 m 100) (by omega) (by simp -implicitDefEqProofs [z_q_L_s_I, z_q_K_s_I, z_q_I_s_I, z_q_J_s_I, z_q_R_s_I, z_q_n_s_I, z_q_aI_s_I, z_q_aJ_s_I, z_q_aR_s_I, z_q_L_s_J, z_q_K_s_J, z_q_I_s_J, z_q_J_s_J, z_q_R_s_J, z_q_n_s_J, z_q_aI_s_J, z_q_aJ_s_J, z_q_aR_s_J, z_q_L_s_R, z_q_K_s_R, z_q_I_s_R, z_q_J_s_R, z_q_R_s_R, z_q_n_s_R, z_q_aI_s_R, z_q_aJ_s_R, z_q_aR_s_R, z_q_L_s_aI, z_q_K_s_aI, z_q_I_s_aI, z_q_J_s_aI, z_q_R_s_aI, z_q_n_s_aI, z_q_aI_s_aI, z_q_aJ_s_aI, z_q_aR_s_aI, z_q_L_s_aJ, z_q_K_s_aJ, z_q_I_s_aJ, z_q_J_s_aJ, z_q_R_s_aJ, z_q_n_s_aJ, z_q_aI_s_aJ, z_q_aJ_s_aJ, z_q_aR_s_aJ, z_q_L_s_aR, z_q_K_s_aR, z_q_I_s_aR, z_q_J_s_aR, z_q_R_s_aR, z_q_n_s_aR, z_q_aI_s_aR, z_q_aJ_s_aR, z_q_aR_s_aR, z_q_L_s_new, z_q_K_s_new, z_q_I_s_new, z_q_J_s_new, z_q_R_s_new, z_q_n_s_new, z_q_aI_s_new, z_q_aJ_s_new, z_q_aR_s_new, z_q_L_s_arr, z_q_K_s_arr, z_q_I_s_arr, z_q_J_s_arr, z_q_R_s_arr, z_q_n_s_arr, z_q_aI_s_arr, z_q_aJ_s_arr, z_q_aR_s_arr]) (by simp -implicitDefEqProofs [z_q_L_s_I, z_q_K_s_I, z_q_I_s_I, z_q_J_s_I, z_q_R_s_I, z_q_n_s_I, z_q_aI_s_I, z_q_aJ_s_I, z_q_aR_s_I, z_q_L_s_J, z_q_K_s_J, z_q_I_s_J, z_q_J_s_J, z_q_R_s_J, z_q_n_s_J, z_q_aI_s_J, z_q_aJ_s_J, z_q_aR_s_J, z_q_L_s_R, z_q_K_s_R, z_q_I_s_R, z_q_J_s_R, z_q_R_s_R, z_q_n_s_R, z_q_aI_s_R, z_q_aJ_s_R, z_q_aR_s_R, z_q_L_s_aI, z_q_K_s_aI, z_q_I_s_aI, z_q_J_s_aI, z_q_R_s_aI, z_q_n_s_aI, z_q_aI_s_aI, z_q_aJ_s_aI, z_q_aR_s_aI, z_q_L_s_aJ, z_q_K_s_aJ, z_q_I_s_aJ, z_q_J_s_aJ, z_q_R_s_aJ, z_q_n_s_aJ, z_q_aI_s_aJ, z_q_aJ_s_aJ, z_q_aR_s_aJ, z_q_L_s_aR, z_q_K_s_aR, z_q_I_s_aR, z_q_J_s_aR, z_q_R_s_aR, z_q_n_s_aR, z_q_aI_s_aR, z_q_aJ_s_aR, z_q_aR_s_aR, z_q_L_s_new, z_q_K_s_new, z_q_I_s_new, z_q_J_s_new, z_q_R_s_new, z_q_n_s_new, z_q_aI_s_new, z_q_aJ_s_new, z_q_aR_s_new, z_q_L_s_arr, z_q_K_s_arr, z_q_I_s_arr, z_q_J_s_arr, z_q_R_s_arr, z_q_n_s_arr, z_q_aI_s_arr, z_q_aJ_s_arr, z_q_aR_s_arr]) (if_pos rfl) (fun j => by simp -implicitDefEqProofs [z_q_L_s_I, z_q_K_s_I, z_q_I_s_I, z_q_J_s_I, z_q_R_s_I, z_q_n_s_I, z_q_aI_s_I, z_q_aJ_s_I, z_q_aR_s_I, z_q_L_s_J, z_q_K_s_J, z_q_I_s_J, z_q_J_s_J, z_q_R_s_J, z_q_n_s_J, z_q_aI_s_J, z_q_aJ_s_J, z_q_aR_s_J, z_q_L_s_R, z_q_K_s_R, z_q_I_s_R, z_q_J_s_R, z_q_R_s_R, z_q_n_s_R, z_q_aI_s_R, z_q_aJ_s_R, z_q_aR_s_R, z_q_L_s_aI, z_q_K_s_aI, z_q_I_s_aI, z_q_J_s_aI, z_q_R_s_aI, z_q_n_s_aI, z_q_aI_s_aI, z_q_aJ_s_aI, z_q_aR_s_aI, z_q_L_s_aJ, z_q_K_s_aJ, z_q_I_s_aJ, z_q_J_s_aJ, z_q_R_s_aJ, z_q_n_s_aJ, z_q_aI_s_aJ, z_q_aJ_s_aJ, z_q_aR_s_aJ, z_q_L_s_aR, z_q_K_s_aR, z_q_I_s_aR, z_q_J_s_aR, z_q_R_s_aR, z_q_n_s_aR, z_q_aI_s_aR, z_q_aJ_s_aR, z_q_aR_s_aR, z_q_L_s_new, z_q_K_s_new, z_q_I_s_new, z_q_J_s_new, z_q_R_s_new, z_q_n_s_new, z_q_aI_s_new, z_q_aJ_s_new, z_q_aR_s_new, z_q_L_s_arr, z_q_K_s_arr, z_q_I_s_arr, z_q_J_s_arr, z_q_R_s_arr, z_q_n_s_arr, z_q_aI_s_arr, z_q_aJ_s_arr, z_q_aR_s_arr]) (by simp -implicitDefEqProofs [z_q_L_s_I, z_q_K_s_I, z_q_I_s_I, z_q_J_s_I, z_q_R_s_I, z_q_n_s_I, z_q_aI_s_I, z_q_aJ_s_I, z_q_aR_s_I, z_q_L_s_J, z_q_K_s_J, z_q_I_s_J, z_q_J_s_J, z_q_R_s_J, z_q_n_s_J, z_q_aI_s_J, z_q_aJ_s_J, z_q_aR_s_J, z_q_L_s_R, z_q_K_s_R, z_q_I_s_R, z_q_J_s_R, z_q_R_s_R, z_q_n_s_R, z_q_aI_s_R, z_q_aJ_s_R, z_q_aR_s_R, z_q_L_s_aI, z_q_K_s_aI, z_q_I_s_aI, z_q_J_s_aI, z_q_R_s_aI, z_q_n_s_aI, z_q_aI_s_aI, z_q_aJ_s_aI, z_q_aR_s_aI, z_q_L_s_aJ, z_q_K_s_aJ, z_q_I_s_aJ, z_q_J_s_aJ, z_q_R_s_aJ, z_q_n_s_aJ, z_q_aI_s_aJ, z_q_aJ_s_aJ, z_q_aR_s_aJ, z_q_L_s_aR, z_q_K_s_aR, z_q_I_s_aR, z_q_J_s_aR, z_q_R_s_aR, z_q_n_s_aR, z_q_aI_s_aR, z_q_aJ_s_aR, z_q_aR_s_aR, z_q_L_s_new, z_q_K_s_new, z_q_I_s_new, z_q_J_s_new, z_q_R_s_new, z_q_n_s_new, z_q_aI_s_new, z_q_aJ_s_new, z_q_aR_s_new, z_q_L_s_arr, z_q_K_s_arr, z_q_I_s_arr, z_q_J_s_arr, z_q_R_s_arr, z_q_n_s_arr, z_q_aI_s_arr, z_q_aJ_s_arr, z_q_aR_s_arr]) (Nat.le_refl _) (Nat.le_refl _) (fun S3 ρ3 R3 hR3 hZ3 => ?_))
  obtain ⟨f1, f2, f3⟩ := hR3.2.2
  have hZ2 : Z.2.2.2.2.2.1 ∉ q_L (s_new S1 13 m) := fun z => hZ3 (f1 _ z)
  have C3 : CI Z ρ3 S3 x gh1 M0 := C2.move hZ2 (fun b hb hlt => f3 b hb (show va_up ρ1 m 100 b < 100 by omega)) f2
  simp -implicitDefEqProofs [i_aload, i_iload, i_lload, i_istore, i_lstore, i_astore, i_iinc, i_push, i_getI, i_getJ, i_getR, i_putI, i_putJ, i_putR, i_iadd, i_isub, i_imul, i_iand, i_ior, i_ixor, i_ishl, i_ishr, i_iushr, i_idiv, i_irem, i_ladd, i_lsub, i_lmul, i_land, i_lor, i_lxor, i_ldiv, i_lrem, i_lshl, i_lshr, i_lcmp, i_ineg, i_lneg, i_i2l, i_l2i, i_i2b, i_i2c, i_dup, i_pop, i_dup_x1, i_dup2, i_icmp_eq, i_icmp_lt, i_icmp_ge, i_icmp_gt, i_icmp_le, i_if_eq, i_if_lt, i_if_ge, i_if_gt, i_if_le, i_goto, i_ifnull, i_iald, i_bald, i_zald, i_lald, i_aald, i_iast, i_bast, i_zast, i_last, i_alen, i_iret, i_lret, i_aret, i_vret, i_oinit, i_cast, i_tsw, i_cases, i_mmin, i_mmax, i_lmin, i_throw, nb0, nb1, nint, nby0, rf_s, rf_n, of_r, of_n, tk_orf_rf, tk_c2, tk_ls, Value.category, tk_isR_ref, tk_isR_rf, tk_isR_null, i_newa]
  refine ⟨by omega, by omega, fun r hr => ?_⟩
  have go : ∀ b, b ∈ q_L S3 → sameAt S3 (s_arr S3 16 r 1) b := fun b hb => s_arr_same hb hr
  have gx : rx ρ3 (va_up ρ3 r 100) S3 := fun b hb => if_neg (fun (z : b = r) => hr (z ▸ hb))
  have C4 : CI Z (va_up ρ3 r 100) (s_arr S3 16 r 1) x gh1 M0 := C3.move hZ3 (fun b hb _ => go b hb) gx
  have R4 := hR3.own.mv go gx
  have O4 : oR (va_up ρ3 r 100) (s_arr S3 16 r 1) r 100 := ⟨by simp -implicitDefEqProofs [z_q_L_s_I, z_q_K_s_I, z_q_I_s_I, z_q_J_s_I, z_q_R_s_I, z_q_n_s_I, z_q_aI_s_I, z_q_aJ_s_I, z_q_aR_s_I, z_q_L_s_J, z_q_K_s_J, z_q_I_s_J, z_q_J_s_J, z_q_R_s_J, z_q_n_s_J, z_q_aI_s_J, z_q_aJ_s_J, z_q_aR_s_J, z_q_L_s_R, z_q_K_s_R, z_q_I_s_R, z_q_J_s_R, z_q_R_s_R, z_q_n_s_R, z_q_aI_s_R, z_q_aJ_s_R, z_q_aR_s_R, z_q_L_s_aI, z_q_K_s_aI, z_q_I_s_aI, z_q_J_s_aI, z_q_R_s_aI, z_q_n_s_aI, z_q_aI_s_aI, z_q_aJ_s_aI, z_q_aR_s_aI, z_q_L_s_aJ, z_q_K_s_aJ, z_q_I_s_aJ, z_q_J_s_aJ, z_q_R_s_aJ, z_q_n_s_aJ, z_q_aI_s_aJ, z_q_aJ_s_aJ, z_q_aR_s_aJ, z_q_L_s_aR, z_q_K_s_aR, z_q_I_s_aR, z_q_J_s_aR, z_q_R_s_aR, z_q_n_s_aR, z_q_aI_s_aR, z_q_aJ_s_aR, z_q_aR_s_aR, z_q_L_s_new, z_q_K_s_new, z_q_I_s_new, z_q_J_s_new, z_q_R_s_new, z_q_n_s_new, z_q_aI_s_new, z_q_aJ_s_new, z_q_aR_s_new, z_q_L_s_arr, z_q_K_s_arr, z_q_I_s_arr, z_q_J_s_arr, z_q_R_s_arr, z_q_n_s_arr, z_q_aI_s_arr, z_q_aJ_s_arr, z_q_aR_s_arr], by simp -implicitDefEqProofs [z_q_L_s_I, z_q_K_s_I, z_q_I_s_I, z_q_J_s_I, z_q_R_s_I, z_q_n_s_I, z_q_aI_s_I, z_q_aJ_s_I, z_q_aR_s_I, z_q_L_s_J, z_q_K_s_J, z_q_I_s_J, z_q_J_s_J, z_q_R_s_J, z_q_n_s_J, z_q_aI_s_J, z_q_aJ_s_J, z_q_aR_s_J, z_q_L_s_R, z_q_K_s_R, z_q_I_s_R, z_q_J_s_R, z_q_R_s_R, z_q_n_s_R, z_q_aI_s_R, z_q_aJ_s_R, z_q_aR_s_R, z_q_L_s_aI, z_q_K_s_aI, z_q_I_s_aI, z_q_J_s_aI, z_q_R_s_aI, z_q_n_s_aI, z_q_aI_s_aI, z_q_aJ_s_aI, z_q_aR_s_aI, z_q_L_s_aJ, z_q_K_s_aJ, z_q_I_s_aJ, z_q_J_s_aJ, z_q_R_s_aJ, z_q_n_s_aJ, z_q_aI_s_aJ, z_q_aJ_s_aJ, z_q_aR_s_aJ, z_q_L_s_aR, z_q_K_s_aR, z_q_I_s_aR, z_q_J_s_aR, z_q_R_s_aR, z_q_n_s_aR, z_q_aI_s_aR, z_q_aJ_s_aR, z_q_aR_s_aR, z_q_L_s_new, z_q_K_s_new, z_q_I_s_new, z_q_J_s_new, z_q_R_s_new, z_q_n_s_new, z_q_aI_s_new, z_q_aJ_s_new, z_q_aR_s_new, z_q_L_s_arr, z_q_K_s_arr, z_q_I_s_arr, z_q_J_s_arr, z_q_R_s_arr, z_q_n_s_arr, z_q_aI_s_arr, z_q_aJ_s_arr, z_q_aR_s_arr], by simp -implicitDefEqProofs [z_q_L_s_I, z_q_K_s_I, z_q_I_s_I, z_q_J_s_I, z_q_R_s_I, z_q_n_s_I, z_q_aI_s_I, z_q_aJ_s_I, z_q_aR_s_I, z_q_L_s_J, z_q_K_s_J, z_q_I_s_J, z_q_J_s_J, z_q_R_s_J, z_q_n_s_J, z_q_aI_s_J, z_q_aJ_s_J, z_q_aR_s_J, z_q_L_s_R, z_q_K_s_R, z_q_I_s_R, z_q_J_s_R, z_q_R_s_R, z_q_n_s_R, z_q_aI_s_R, z_q_aJ_s_R, z_q_aR_s_R, z_q_L_s_aI, z_q_K_s_aI, z_q_I_s_aI, z_q_J_s_aI, z_q_R_s_aI, z_q_n_s_aI, z_q_aI_s_aI, z_q_aJ_s_aI, z_q_aR_s_aI, z_q_L_s_aJ, z_q_K_s_aJ, z_q_I_s_aJ, z_q_J_s_aJ, z_q_R_s_aJ, z_q_n_s_aJ, z_q_aI_s_aJ, z_q_aJ_s_aJ, z_q_aR_s_aJ, z_q_L_s_aR, z_q_K_s_aR, z_q_I_s_aR, z_q_J_s_aR, z_q_R_s_aR, z_q_n_s_aR, z_q_aI_s_aR, z_q_aJ_s_aR, z_q_aR_s_aR, z_q_L_s_new, z_q_K_s_new, z_q_I_s_new, z_q_J_s_new, z_q_R_s_new, z_q_n_s_new, z_q_aI_s_new, z_q_aJ_s_new, z_q_aR_s_new, z_q_L_s_arr, z_q_K_s_arr, z_q_I_s_arr, z_q_J_s_arr, z_q_R_s_arr, z_q_n_s_arr, z_q_aI_s_arr, z_q_aJ_s_arr, z_q_aR_s_arr], if_pos rfl⟩
  refine hE.1 _ _ _ _ _ _ (fun hZ4 => ?_)
  have g := law_loop (x := x) (m := m) (r := r) hE hd hmc hms hst hL2 (L / 6) 0 (s_arr S3 16 r 1) 63 13813 M0 none none none (by omega) (by omega) hZ4 ⟨_, R3, vZ0, gh1, 0, 0, C4, R4, RI.new, O4, IV.new, JV.new, Nat.zero_le _, Nat.zero_le _, by omega, by omega, by omega⟩
  rw [Nat.mul_zero, nI_0] at g
  exact g
end LOOP

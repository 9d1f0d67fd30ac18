/-! THE RECKONER: facts, sums -/
section RECK
variable {Z : tk_Z} {d mc ms : Nat} {S : tk_S} {QR : tk_R}
theorem m_note {a q k : Nat} {f : Int32} (ha : a ∈ q_L S) (hk : q_K S a = 9) (hr : q_R S 9 2 a = some q) (hq : q ∈ q_L S) (hqk : q_K S q = 15) (hqn : q_n S q = 10) (hkn : k < 10)
    (h : QR none (s_aI S q (upd (q_aI S q) k f))) : tk_M Z mX8_note d mc ms [.ref a, .int (nI (267 + k)), .int f] S QR tk_noX := by
  refine M_X8_note (Nat.le_of_ble_eq_true rfl) (fun E hE => hE _ _ _ _ _ ?_)
  show t_X8_note_0 Z d mc ms QR E [some (.ref a), some (.int (nI (267 + k))), some (.int f), none] [] S 0 0
  have e1 : nI (267 + k) - 267 = nI k := by
    rw [Nat.add_comm, ← nI_add]
    exact Int32.add_sub_cancel _ _
  have z0 : ¬ nI k < 0 := nI_nlt (b := 0) (Nat.zero_le k) (by omega)
  have z : ¬ nI 10 ≤ nI k := nI_ge (by omega) (by omega)
  have hin : vp_in (nI k) 10 := vp_in_nI (by omega) (by omega)
  have hc : (nI k).toNatClampNeg = k := nI_clamp (by omega)
  simp -implicitDefEqProofs [t_X8_note_0, i_aload, i_iload, i_lload, i_istore, i_lstore, i_astore, i_iinc, i_push, i_getI, i_getJ, i_getR, i_putI, i_putJ, i_putR, i_iadd, i_isub, i_imul, i_iand, i_ior, i_ixor, i_ishl, i_ishr, i_iushr, i_idiv, i_irem, i_ladd, i_lsub, i_lmul, i_land, i_lor, i_lxor, i_ldiv, i_lrem, i_lshl, i_lshr, i_lcmp, i_ineg, i_lneg, i_i2l, i_l2i, i_i2b, i_i2c, i_dup, i_pop, i_dup_x1, i_dup2, i_icmp_eq, i_icmp_lt, i_icmp_ge, i_icmp_gt, i_icmp_le, i_if_eq, i_if_lt, i_if_ge, i_if_gt, i_if_le, i_goto, i_ifnull, i_iald, i_bald, i_zald, i_lald, i_aald, i_iast, i_bast, i_zast, i_last, i_alen, i_iret, i_lret, i_aret, i_vret, i_oinit, i_cast, i_tsw, i_cases, i_mmin, i_mmax, i_lmin, i_throw, nb0, nb1, nint, nby0, rf_s, rf_n, of_r, of_n, tk_orf_rf, tk_c2, tk_ls, Value.category, tk_isR_ref, tk_isR_rf, tk_isR_null, ha, hk, hr, hq, hqk, hqn, e1, z0, z, hin, hc]
  exact h
/-- what a clause asks ahead of what TIMES makes of it -/
def aheadOf (manner first beasts : Int32) : Int64 := if 1000000 < (if manner = 261 then first.toInt64 * beasts.toInt64 else if manner = 262 then first.toInt64 * ((beasts + 19) / 20).toInt64 else first.toInt64) then 1000000 else if manner = 261 then first.toInt64 * beasts.toInt64 else if manner = 262 then first.toInt64 * ((beasts + 19) / 20).toInt64 else first.toInt64
theorem m_ahead {a b : Nat} (hd : 1 ≤ d) (ha : a ∈ q_L S) (hk : q_K S a = 4) (hb : b ∈ q_L S) (hbk : q_K S b = 11)
    (h : QR (some (.long (aheadOf (q_I S 4 1 a) (q_I S 4 2 a) (q_I S 11 2 b)))) S) : tk_M Z mX8_ahead d mc ms [.ref a, .ref b] S QR tk_noX := by
  refine M_X8_ahead (Nat.le_of_ble_eq_true rfl) (fun E hE => hE _ _ _ _ _ ?_)
  show t_X8_ahead_0 Z d mc ms QR E [some (.ref a), some (.ref b), none, none] [] S 0 0
  simp -implicitDefEqProofs [t_X8_ahead_0, i_aload, i_iload, i_lload, i_istore, i_lstore, i_astore, i_iinc, i_push, i_getI, i_getJ, i_getR, i_putI, i_putJ, i_putR, i_iadd, i_isub, i_imul, i_iand, i_ior, i_ixor, i_ishl, i_ishr, i_iushr, i_idiv, i_irem, i_ladd, i_lsub, i_lmul, i_land, i_lor, i_lxor, i_ldiv, i_lrem, i_lshl, i_lshr, i_lcmp, i_ineg, i_lneg, i_i2l, i_l2i, i_i2b, i_i2c, i_dup, i_pop, i_dup_x1, i_dup2, i_icmp_eq, i_icmp_lt, i_icmp_ge, i_icmp_gt, i_icmp_le, i_if_eq, i_if_lt, i_if_ge, i_if_gt, i_if_le, i_goto, i_ifnull, i_iald, i_bald, i_zald, i_lald, i_aald, i_iast, i_bast, i_zast, i_last, i_alen, i_iret, i_lret, i_aret, i_vret, i_oinit, i_cast, i_tsw, i_cases, i_mmin, i_mmax, i_lmin, i_throw, nb0, nb1, nint, nby0, rf_s, rf_n, of_r, of_n, tk_orf_rf, tk_c2, tk_ls, Value.category, tk_isR_ref, tk_isR_rf, tk_isR_null, ha, hk, hb, hbk]
  unfold aheadOf at h
  refine ⟨fun w => ⟨hd, ?_⟩, fun w => ⟨fun w2 => ⟨hd, ?_⟩, fun w2 => ⟨hd, ?_⟩⟩⟩
  · simp only [if_pos w] at h; exact h
  · simp only [if_neg w, if_pos w2] at h; exact h
  · simp only [if_neg w, if_neg w2] at h; exact h
theorem m_keep {a c q2 t n : Nat} (ha : a ∈ q_L S) (hk : q_K S a = 9) (hc : c ∈ q_L S) (hck : q_K S c = 4) (hr : q_R S 9 3 a = some q2) (hq : q2 ∈ q_L S) (hqk : q_K S q2 = 15) (hqn : q_n S q2 = 40) (ht : q_I S 9 4 a = nI t) (htn : t < 40)
    (h : QR none (if q_I S 4 0 c = 258 then s_I (s_aI S q2 (upd (q_aI S q2) t (nI n))) 9 4 a (nI (t + 1)) else if q_I S 4 1 c = 263 then s_I S 9 6 a (if q_I S 9 6 a = -1 then nI n else q_I S 9 6 a) else s_I S 9 5 a (if q_I S 9 5 a = -1 then nI n else q_I S 9 5 a))) : tk_M Z mX8_keep d mc ms [.ref a, .ref c, .int (nI n)] S QR tk_noX := by
  refine M_X8_keep (Nat.le_of_ble_eq_true rfl) (fun E hE => hE _ _ _ _ _ ?_)
  show t_X8_keep_0 Z d mc ms QR E [some (.ref a), some (.ref c), some (.int (nI n))] [] S 0 0
  have z0 : ¬ nI t < 0 := nI_nlt (b := 0) (Nat.zero_le t) (by omega)
  have z : ¬ nI 40 ≤ nI t := nI_ge (by omega) (by omega)
  have hin : vp_in (nI t) 40 := vp_in_nI (by omega) (by omega)
  have hcl : (nI t).toNatClampNeg = t := nI_clamp (by omega)
  simp -implicitDefEqProofs [t_X8_keep_0, i_aload, i_iload, i_lload, i_istore, i_lstore, i_astore, i_iinc, i_push, i_getI, i_getJ, i_getR, i_putI, i_putJ, i_putR, i_iadd, i_isub, i_imul, i_iand, i_ior, i_ixor, i_ishl, i_ishr, i_iushr, i_idiv, i_irem, i_ladd, i_lsub, i_lmul, i_land, i_lor, i_lxor, i_ldiv, i_lrem, i_lshl, i_lshr, i_lcmp, i_ineg, i_lneg, i_i2l, i_l2i, i_i2b, i_i2c, i_dup, i_pop, i_dup_x1, i_dup2, i_icmp_eq, i_icmp_lt, i_icmp_ge, i_icmp_gt, i_icmp_le, i_if_eq, i_if_lt, i_if_ge, i_if_gt, i_if_le, i_goto, i_ifnull, i_iald, i_bald, i_zald, i_lald, i_aald, i_iast, i_bast, i_zast, i_last, i_alen, i_iret, i_lret, i_aret, i_vret, i_oinit, i_cast, i_tsw, i_cases, i_mmin, i_mmax, i_lmin, i_throw, nb0, nb1, nint, nby0, rf_s, rf_n, of_r, of_n, tk_orf_rf, tk_c2, tk_ls, Value.category, tk_isR_ref, tk_isR_rf, tk_isR_null, z_q_L_s_I, z_q_K_s_I, z_q_I_s_I, z_q_J_s_I, z_q_R_s_I, z_q_n_s_I, z_q_aI_s_I, z_q_aJ_s_I, z_q_aR_s_I, z_q_L_s_J, z_q_K_s_J, z_q_I_s_J, z_q_J_s_J, z_q_R_s_J, z_q_n_s_J, z_q_aI_s_J, z_q_aJ_s_J, z_q_aR_s_J, z_q_L_s_R, z_q_K_s_R, z_q_I_s_R, z_q_J_s_R, z_q_R_s_R, z_q_n_s_R, z_q_aI_s_R, z_q_aJ_s_R, z_q_aR_s_R, z_q_L_s_aI, z_q_K_s_aI, z_q_I_s_aI, z_q_J_s_aI, z_q_R_s_aI, z_q_n_s_aI, z_q_aI_s_aI, z_q_aJ_s_aI, z_q_aR_s_aI, z_q_L_s_aJ, z_q_K_s_aJ, z_q_I_s_aJ, z_q_J_s_aJ, z_q_R_s_aJ, z_q_n_s_aJ, z_q_aI_s_aJ, z_q_aJ_s_aJ, z_q_aR_s_aJ, z_q_L_s_aR, z_q_K_s_aR, z_q_I_s_aR, z_q_J_s_aR, z_q_R_s_aR, z_q_n_s_aR, z_q_aI_s_aR, z_q_aJ_s_aR, z_q_aR_s_aR, z_q_L_s_new, z_q_K_s_new, z_q_I_s_new, z_q_J_s_new, z_q_R_s_new, z_q_n_s_new, z_q_aI_s_new, z_q_aJ_s_new, z_q_aR_s_new, z_q_L_s_arr, z_q_K_s_arr, z_q_I_s_arr, z_q_J_s_arr, z_q_R_s_arr, z_q_n_s_arr, z_q_aI_s_arr, z_q_aJ_s_arr, z_q_aR_s_arr, ha, hk, hc, hck, hr, hq, hqk, hqn, ht, z0, z, hin, hcl]
  refine ⟨fun w => ?_, fun w => ⟨fun w2 => ⟨fun w3 => ?_, fun w3 => ?_⟩, fun w2 => ⟨fun w3 => ?_, fun w3 => ?_⟩⟩⟩
  · rw [if_pos w] at h; rw [show nI t + 1 = nI (t + 1) from nI_add t 1]; exact h
  · rw [if_neg w, if_pos w2, if_pos w3] at h; exact h
  · rw [if_neg w, if_pos w2, if_neg w3] at h; exact h
  · rw [if_neg w, if_neg w2, if_pos w3] at h; exact h
  · rw [if_neg w, if_neg w2, if_neg w3] at h; exact h
theorem upd_upd_note (S : tk_S) (q k1 k2 : Nat) (x y : Int32) : s_aI (s_aI S q (upd (q_aI S q) k1 x)) q (upd (q_aI (s_aI S q (upd (q_aI S q) k1 x)) q) k2 y) = s_aI S q (upd (upd (q_aI S q) k1 x) k2 y) := by
  rw [s_aI_aI]
  simp -implicitDefEqProofs [z_q_L_s_I, z_q_K_s_I, z_q_I_s_I, z_q_J_s_I, z_q_R_s_I, z_q_n_s_I, z_q_aI_s_I, z_q_aJ_s_I, z_q_aR_s_I, z_q_L_s_J, z_q_K_s_J, z_q_I_s_J, z_q_J_s_J, z_q_R_s_J, z_q_n_s_J, z_q_aI_s_J, z_q_aJ_s_J, z_q_aR_s_J, z_q_L_s_R, z_q_K_s_R, z_q_I_s_R, z_q_J_s_R, z_q_R_s_R, z_q_n_s_R, z_q_aI_s_R, z_q_aJ_s_R, z_q_aR_s_R, z_q_L_s_aI, z_q_K_s_aI, z_q_I_s_aI, z_q_J_s_aI, z_q_R_s_aI, z_q_n_s_aI, z_q_aI_s_aI, z_q_aJ_s_aI, z_q_aR_s_aI, z_q_L_s_aJ, z_q_K_s_aJ, z_q_I_s_aJ, z_q_J_s_aJ, z_q_R_s_aJ, z_q_n_s_aJ, z_q_aI_s_aJ, z_q_aJ_s_aJ, z_q_aR_s_aJ, z_q_L_s_aR, z_q_K_s_aR, z_q_I_s_aR, z_q_J_s_aR, z_q_R_s_aR, z_q_n_s_aR, z_q_aI_s_aR, z_q_aJ_s_aR, z_q_aR_s_aR, z_q_L_s_new, z_q_K_s_new, z_q_I_s_new, z_q_J_s_new, z_q_R_s_new, z_q_n_s_new, z_q_aI_s_new, z_q_aJ_s_new, z_q_aR_s_new, z_q_L_s_arr, z_q_K_s_arr, z_q_I_s_arr, z_q_J_s_arr, z_q_R_s_arr, z_q_n_s_arr, z_q_aI_s_arr, z_q_aJ_s_arr, z_q_aR_s_arr]
/-- the ten facts of a traveller at a gate on a day -/
def factsOf (S : tk_S) (b : Nat) (g : Nat → Int32) (gate day last : Int32) : Nat → Int32 := upd (upd (upd (upd (upd (upd (upd (upd (upd (upd g 0 (q_I S 11 3 b &&& 1)) 1 (q_I S 11 3 b >>> 1 &&& 1)) 2 (q_I S 11 3 b >>> 2 &&& 1)) 3 (q_I S 11 3 b >>> 3 &&& 1)) 4 (if last = day then 1 else 0)) 5 (q_I S 11 1 b)) 6 (q_I S 11 2 b)) 7 gate) 8 (day % 365)) 9 (q_I S 11 0 b)
set_option maxHeartbeats 4000000 in
theorem m_learn {a q b p g : Nat} {day : Int32} (hd : 1 ≤ d) (ha : a ∈ q_L S) (hk : q_K S a = 9) (hr : q_R S 9 2 a = some q) (hq : q ∈ q_L S) (hqk : q_K S q = 15) (hqn : q_n S q = 10) (hb : b ∈ q_L S) (hbk : q_K S b = 11) (hbr : q_R S 11 5 b = some p) (hp : p ∈ q_L S) (hpk : q_K S p = 15) (hpn : q_n S p = 8) (hpq : p ≠ q) (hg : g < 8)
    (h : QR none (s_aI S q (factsOf S b (q_aI S q) (nI g) day (q_aI S p g)))) : tk_M Z mX8_learn d mc ms [.ref a, .ref b, .int (nI g), .int day] S QR tk_noX := by
  refine M_X8_learn (Nat.le_of_ble_eq_true rfl) (fun E hE => hE.1 _ _ _ _ _ ?_)
  show t_X8_learn_0 Z d mc ms QR E [some (.ref a), some (.ref b), some (.int (nI g)), some (.int day)] [] S 0 0
  simp -implicitDefEqProofs [t_X8_learn_0, i_aload, i_iload, i_lload, i_istore, i_lstore, i_astore, i_iinc, i_push, i_getI, i_getJ, i_getR, i_putI, i_putJ, i_putR, i_iadd, i_isub, i_imul, i_iand, i_ior, i_ixor, i_ishl, i_ishr, i_iushr, i_idiv, i_irem, i_ladd, i_lsub, i_lmul, i_land, i_lor, i_lxor, i_ldiv, i_lrem, i_lshl, i_lshr, i_lcmp, i_ineg, i_lneg, i_i2l, i_l2i, i_i2b, i_i2c, i_dup, i_pop, i_dup_x1, i_dup2, i_icmp_eq, i_icmp_lt, i_icmp_ge, i_icmp_gt, i_icmp_le, i_if_eq, i_if_lt, i_if_ge, i_if_gt, i_if_le, i_goto, i_ifnull, i_iald, i_bald, i_zald, i_lald, i_aald, i_iast, i_bast, i_zast, i_last, i_alen, i_iret, i_lret, i_aret, i_vret, i_oinit, i_cast, i_tsw, i_cases, i_mmin, i_mmax, i_lmin, i_throw, nb0, nb1, nint, nby0, rf_s, rf_n, of_r, of_n, tk_orf_rf, tk_c2, tk_ls, Value.category, tk_isR_ref, tk_isR_rf, tk_isR_null, z_q_L_s_I, z_q_K_s_I, z_q_I_s_I, z_q_J_s_I, z_q_R_s_I, z_q_n_s_I, z_q_aI_s_I, z_q_aJ_s_I, z_q_aR_s_I, z_q_L_s_J, z_q_K_s_J, z_q_I_s_J, z_q_J_s_J, z_q_R_s_J, z_q_n_s_J, z_q_aI_s_J, z_q_aJ_s_J, z_q_aR_s_J, z_q_L_s_R, z_q_K_s_R, z_q_I_s_R, z_q_J_s_R, z_q_R_s_R, z_q_n_s_R, z_q_aI_s_R, z_q_aJ_s_R, z_q_aR_s_R, z_q_L_s_aI, z_q_K_s_aI, z_q_I_s_aI, z_q_J_s_aI, z_q_R_s_aI, z_q_n_s_aI, z_q_aI_s_aI, z_q_aJ_s_aI, z_q_aR_s_aI, z_q_L_s_aJ, z_q_K_s_aJ, z_q_I_s_aJ, z_q_J_s_aJ, z_q_R_s_aJ, z_q_n_s_aJ, z_q_aI_s_aJ, z_q_aJ_s_aJ, z_q_aR_s_aJ, z_q_L_s_aR, z_q_K_s_aR, z_q_I_s_aR, z_q_J_s_aR, z_q_R_s_aR, z_q_n_s_aR, z_q_aI_s_aR, z_q_aJ_s_aR, z_q_aR_s_aR, z_q_L_s_new, z_q_K_s_new, z_q_I_s_new, z_q_J_s_new, z_q_R_s_new, z_q_n_s_new, z_q_aI_s_new, z_q_aJ_s_new, z_q_aR_s_new, z_q_L_s_arr, z_q_K_s_arr, z_q_I_s_arr, z_q_J_s_arr, z_q_R_s_arr, z_q_n_s_arr, z_q_aI_s_arr, z_q_aJ_s_arr, z_q_aR_s_arr, ha, hk, hb, hbk]
  trace_state
  sorry
end RECK

/-! THE RECKONER: what TIMES makes of a sum -/
section TIMES
variable {Z : tk_Z} {d mc ms : Nat} {S : tk_S} {QR : tk_R}
/-- a sum after the first k of the kept clauses -/
def timesIn (fr sc : Nat → Int32) (kn : Nat → Nat) (s : Int64) : Nat → Int64
  | 0 => s
  | k + 1 => if 0 < sc (kn k) then (if 1000000 < timesIn fr sc kn s k * (fr (kn k)).toInt64 / (sc (kn k)).toInt64 then 1000000 else timesIn fr sc kn s k * (fr (kn k)).toInt64 / (sc (kn k)).toInt64) else timesIn fr sc kn s k
theorem toL_ne {x : Int32} (h : 0 < x) : ¬ x.toInt64 = 0 := by
  intro w
  have : x.toInt64.toInt = (0 : Int64).toInt := by rw [w]
  rw [Int32.toInt_toInt64] at this
  have g := Int32.lt_iff_toInt_lt.mp h
  have z1 : (0 : Int64).toInt = 0 := rfl
  have z2 : (0 : Int32).toInt = 0 := rfl
  omega
theorem m_timesKept {a a2 q2 l n e t : Nat} {f kn : Nat → Nat} {s : Int64} (hd : 4 ≤ d) (ha : a ∈ q_L S) (hk : q_K S a = 9) (hr : q_R S 9 3 a = some q2) (hq : q2 ∈ q_L S) (hqk : q_K S q2 = 15) (hqn : q_n S q2 = 40) (ht : q_I S 9 4 a = nI t) (htn : t ≤ 40)
    (ha2 : a2 ∈ q_L S) (hk2 : q_K S a2 = 1) (hl2 : q_R S 1 1 a2 = some l) (hl : isL Z 4 S l n f e) (hkn : ∀ i, i < t → q_aI S q2 i = nI (kn i) ∧ kn i < n)
    (h : QR (some (.long (timesIn (fun i => q_I S 4 2 (f i)) (fun i => q_I S 4 3 (f i)) kn s t))) S) : tk_M Z mX8_timesKept d mc ms [.ref a, .ref a2, .long s] S QR tk_noX := by
  refine M_X8_timesKept (Nat.le_of_ble_eq_true rfl) (fun E hE => hE.1 _ _ _ _ _ ?_)
  have hn : n ≤ 1000 := hl.2.2.2.2.1
  have hlL := hl.1
  have hlK := hl.2.1
  have loop : ∀ m j x7 x8, j + m = t → E 6 [some (.ref a), some (.ref a2), some (.long s), none, some (.long (timesIn (fun i => q_I S 4 2 (f i)) (fun i => q_I S 4 3 (f i)) kn s j)), none, some (.int (nI j)), x7, x8] [] S 0 0 := by
    intro m
    induction m with
    | zero =>
      intro j x7 x8 hj
      refine hE.2 _ _ _ _ _ ?_
      have z : nI t ≤ nI j := nI_le (by omega) (by omega)
      have hjt : j = t := by omega
      subst hjt
      simp -implicitDefEqProofs [t_X8_timesKept_6, i_aload, i_iload, i_lload, i_istore, i_lstore, i_astore, i_iinc, i_push, i_getI, i_getJ, i_getR, i_putI, i_putJ, i_putR, i_iadd, i_isub, i_imul, i_iand, i_ior, i_ixor, i_ishl, i_ishr, i_iushr, i_idiv, i_irem, i_ladd, i_lsub, i_lmul, i_land, i_lor, i_lxor, i_ldiv, i_lrem, i_lshl, i_lshr, i_lcmp, i_ineg, i_lneg, i_i2l, i_l2i, i_i2b, i_i2c, i_dup, i_pop, i_dup_x1, i_dup2, i_icmp_eq, i_icmp_lt, i_icmp_ge, i_icmp_gt, i_icmp_le, i_if_eq, i_if_lt, i_if_ge, i_if_gt, i_if_le, i_goto, i_ifnull, i_iald, i_bald, i_zald, i_lald, i_aald, i_iast, i_bast, i_zast, i_last, i_alen, i_iret, i_lret, i_aret, i_vret, i_oinit, i_cast, i_tsw, i_cases, i_mmin, i_mmax, i_lmin, i_throw, nb0, nb1, nint, nby0, rf_s, rf_n, of_r, of_n, tk_orf_rf, tk_c2, tk_ls, Value.category, tk_isR_ref, tk_isR_rf, tk_isR_null, ha, hk, ht]
      exact h
    | succ m ih =>
      intro j x7 x8 hj
      refine hE.2 _ _ _ _ _ ?_
      obtain ⟨k1, k2⟩ := hkn j (by omega)
      have z : ¬ nI t ≤ nI j := nI_ge (by omega) (by omega)
      have z' : nI j < nI t := nI_lt (by omega) (by omega)
      have y : ¬ nI 40 ≤ nI j := nI_ge (by omega) (by omega)
      have y' : nI j < nI 40 := nI_lt (by omega) (by omega)
      have hin : vp_in (nI j) 40 := vp_in_nI (by omega) (by omega)
      have hc : (nI j).toNatClampNeg = j := nI_clamp (by omega)
      have z0 : ¬ nI (kn j) < 0 := nI_nlt (b := 0) (Nat.zero_le _) (by omega)
      have zn : ¬ nI n ≤ nI (kn j) := nI_ge (by omega) (by omega)
      obtain ⟨c1, c2⟩ := hl.2.2.2.2.2.2.1 (kn j) k2
      simp -implicitDefEqProofs [t_X8_timesKept_6, i_aload, i_iload, i_lload, i_istore, i_lstore, i_astore, i_iinc, i_push, i_getI, i_getJ, i_getR, i_putI, i_putJ, i_putR, i_iadd, i_isub, i_imul, i_iand, i_ior, i_ixor, i_ishl, i_ishr, i_iushr, i_idiv, i_irem, i_ladd, i_lsub, i_lmul, i_land, i_lor, i_lxor, i_ldiv, i_lrem, i_lshl, i_lshr, i_lcmp, i_ineg, i_lneg, i_i2l, i_l2i, i_i2b, i_i2c, i_dup, i_pop, i_dup_x1, i_dup2, i_icmp_eq, i_icmp_lt, i_icmp_ge, i_icmp_gt, i_icmp_le, i_if_eq, i_if_lt, i_if_ge, i_if_gt, i_if_le, i_goto, i_ifnull, i_iald, i_bald, i_zald, i_lald, i_aald, i_iast, i_bast, i_zast, i_last, i_alen, i_iret, i_lret, i_aret, i_vret, i_oinit, i_cast, i_tsw, i_cases, i_mmin, i_mmax, i_lmin, i_throw, nb0, nb1, nint, nby0, rf_s, rf_n, of_r, of_n, tk_orf_rf, tk_c2, tk_ls, Value.category, tk_isR_ref, tk_isR_rf, tk_isR_null, ha, hk, ht, hr, hq, hqk, hqn, z, z', y, y', hin, hc, k1, z0, ha2, hk2, hl2, hlL, hlK]
      refine ⟨by simp, hlL, hlK, by simp [Value.category], 0, 0, 0, by omega, by omega, by omega, ?_⟩
      refine l_size hl ?_
      simp -implicitDefEqProofs [i_aload, i_iload, i_lload, i_istore, i_lstore, i_astore, i_iinc, i_push, i_getI, i_getJ, i_getR, i_putI, i_putJ, i_putR, i_iadd, i_isub, i_imul, i_iand, i_ior, i_ixor, i_ishl, i_ishr, i_iushr, i_idiv, i_irem, i_ladd, i_lsub, i_lmul, i_land, i_lor, i_lxor, i_ldiv, i_lrem, i_lshl, i_lshr, i_lcmp, i_ineg, i_lneg, i_i2l, i_l2i, i_i2b, i_i2c, i_dup, i_pop, i_dup_x1, i_dup2, i_icmp_eq, i_icmp_lt, i_icmp_ge, i_icmp_gt, i_icmp_le, i_if_eq, i_if_lt, i_if_ge, i_if_gt, i_if_le, i_goto, i_ifnull, i_iald, i_bald, i_zald, i_lald, i_aald, i_iast, i_bast, i_zast, i_last, i_alen, i_iret, i_lret, i_aret, i_vret, i_oinit, i_cast, i_tsw, i_cases, i_mmin, i_mmax, i_lmin, i_throw, nb0, nb1, nint, nby0, rf_s, rf_n, of_r, of_n, tk_orf_rf, tk_c2, tk_ls, Value.category, tk_isR_ref, tk_isR_rf, tk_isR_null, zn, ha2, hk2, hl2, hlL, hlK]
      refine ⟨by simp, hlL, hlK, by simp [Value.category], 3, 0, 0, by omega, by omega, by omega, ?_⟩
      refine l_get (Nat.le_refl 3) hl k2 ?_
      simp -implicitDefEqProofs [i_aload, i_iload, i_lload, i_istore, i_lstore, i_astore, i_iinc, i_push, i_getI, i_getJ, i_getR, i_putI, i_putJ, i_putR, i_iadd, i_isub, i_imul, i_iand, i_ior, i_ixor, i_ishl, i_ishr, i_iushr, i_idiv, i_irem, i_ladd, i_lsub, i_lmul, i_land, i_lor, i_lxor, i_ldiv, i_lrem, i_lshl, i_lshr, i_lcmp, i_ineg, i_lneg, i_i2l, i_l2i, i_i2b, i_i2c, i_dup, i_pop, i_dup_x1, i_dup2, i_icmp_eq, i_icmp_lt, i_icmp_ge, i_icmp_gt, i_icmp_le, i_if_eq, i_if_lt, i_if_ge, i_if_gt, i_if_le, i_goto, i_ifnull, i_iald, i_bald, i_zald, i_lald, i_aald, i_iast, i_bast, i_zast, i_last, i_alen, i_iret, i_lret, i_aret, i_vret, i_oinit, i_cast, i_tsw, i_cases, i_mmin, i_mmax, i_lmin, i_throw, nb0, nb1, nint, nby0, rf_s, rf_n, of_r, of_n, tk_orf_rf, tk_c2, tk_ls, Value.category, tk_isR_ref, tk_isR_rf, tk_isR_null, c1, c2]
      have ej : nI j + 1 = nI (j + 1) := nI_add j 1
      refine ⟨fun w => ?_, fun w => ⟨toL_ne w, by omega, ?_⟩⟩
      · have g := ih (j + 1) (some (.int (nI (kn j)))) (some (.ref (f (kn j)))) (by omega)
        rw [timesIn, if_neg (Int32.not_lt.mpr w)] at g
        rw [ej]
        exact g
      · have g := ih (j + 1) (some (.int (nI (kn j)))) (some (.ref (f (kn j)))) (by omega)
        rw [timesIn, if_pos w] at g
        rw [ej]
        exact g
  show t_X8_timesKept_0 Z d mc ms QR E [some (.ref a), some (.ref a2), some (.long s), none, none, none, none, none, none] [] S 0 0
  simp -implicitDefEqProofs [t_X8_timesKept_0, i_aload, i_iload, i_lload, i_istore, i_lstore, i_astore, i_iinc, i_push, i_getI, i_getJ, i_getR, i_putI, i_putJ, i_putR, i_iadd, i_isub, i_imul, i_iand, i_ior, i_ixor, i_ishl, i_ishr, i_iushr, i_idiv, i_irem, i_ladd, i_lsub, i_lmul, i_land, i_lor, i_lxor, i_ldiv, i_lrem, i_lshl, i_lshr, i_lcmp, i_ineg, i_lneg, i_i2l, i_l2i, i_i2b, i_i2c, i_dup, i_pop, i_dup_x1, i_dup2, i_icmp_eq, i_icmp_lt, i_icmp_ge, i_icmp_gt, i_icmp_le, i_if_eq, i_if_lt, i_if_ge, i_if_gt, i_if_le, i_goto, i_ifnull, i_iald, i_bald, i_zald, i_lald, i_aald, i_iast, i_bast, i_zast, i_last, i_alen, i_iret, i_lret, i_aret, i_vret, i_oinit, i_cast, i_tsw, i_cases, i_mmin, i_mmax, i_lmin, i_throw, nb0, nb1, nint, nby0, rf_s, rf_n, of_r, of_n, tk_orf_rf, tk_c2, tk_ls, Value.category, tk_isR_ref, tk_isR_rf, tk_isR_null]
  exact loop t 0 _ _ (by omega)
end TIMES

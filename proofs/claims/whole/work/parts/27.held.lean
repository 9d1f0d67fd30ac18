/-! THE BOX: what was held behind a day; the box made -/
section BOX3
variable {Z : tk_Z} {d mc ms : Nat} {S : tk_S} {QR : tk_R}
/-- one less -/
def jm : Nat → Int32
  | 0 => -1
  | k + 1 => nI k
theorem jm_s (k : Nat) : nI k - 1 = jm k := by
  cases k with
  | zero => decide
  | succ k => exact nI_pred k
theorem jm_a (k : Nat) : nI k + -1 = jm k := by
  rw [← jm_s]
  exact (Int32.sub_eq_add_neg (nI k) 1).symm
/-- what the box held at the last line not after a day -/
def heldIn (v2 : Nat → Int32) (v6 : Nat → Int64) (day : Int32) : Nat → Int64
  | 0 => 0
  | k + 1 => if day < v2 k then heldIn v2 v6 day k else v6 k
theorem m_heldBehind {bx n cap r2 r3 r4 r5 r6 : Nat} {m : Int64} {v2 v3 v4 : Nat → Int32} {v5 v6 : Nat → Int64} {day : Int32} (hd : 1 ≤ d) (hb : isBox S bx n m v2 v3 v4 v5 v6 cap r2 r3 r4 r5 r6)
    (h : QR (some (.long (heldIn v2 v6 day n))) S) : tk_M Z mX2_heldBehind d mc ms [.ref bx, .int day] S QR tk_noX := by
  obtain ⟨hr, hn, hm, hnc, hv⟩ := hb
  obtain ⟨b1, b2, ⟨a1, a2, a3, a4⟩, ⟨c1, c2, c3, c4⟩, ⟨d1, d2, d3, d4⟩, ⟨e1, e2, e3, e4⟩, ⟨f1, f2, f3, f4⟩, n1, n2, n3, n4, g1, g2⟩ := hr
  refine M_X2_heldBehind (Nat.le_of_ble_eq_true rfl) (fun E hE => hE.1 _ _ _ _ _ ?_)
  have loop : ∀ k, k ≤ n → QR (some (.long (heldIn v2 v6 day k))) S → E 15 [some (.ref bx), some (.int day), some (.int (jm k))] [] S 0 0 := by
    intro k
    induction k with
    | zero =>
      intro _ hk
      refine hE.2 _ _ _ _ _ ?_
      simp [t_X2_heldBehind_15, i_aload, i_iload, i_lload, i_istore, i_lstore, i_astore, i_iinc, i_push, i_getI, i_getJ, i_getR, i_putI, i_putJ, i_putR, i_iadd, i_isub, i_imul, i_iand, i_ior, i_ixor, i_ishl, i_ishr, i_iushr, i_idiv, i_irem, i_ladd, i_lsub, i_lmul, i_land, i_lor, i_lxor, i_ldiv, i_lrem, i_lshl, i_lshr, i_lcmp, i_ineg, i_lneg, i_i2l, i_l2i, i_i2b, i_i2c, i_dup, i_pop, i_dup_x1, i_dup2, i_icmp_eq, i_icmp_lt, i_icmp_ge, i_icmp_gt, i_icmp_le, i_if_eq, i_if_lt, i_if_ge, i_if_gt, i_if_le, i_goto, i_ifnull, i_iald, i_bald, i_zald, i_lald, i_aald, i_iast, i_bast, i_zast, i_last, i_alen, i_iret, i_lret, i_aret, i_vret, i_oinit, i_cast, i_tsw, i_cases, i_mmin, i_mmax, i_lmin, i_throw, nb0, nb1, nint, nby0, rf_s, rf_n, of_r, of_n, tk_orf_rf, tk_c2, tk_ls, Value.category, tk_isR_ref, tk_isR_rf, tk_isR_null, jm]
      exact hk
    | succ k ih =>
      intro hkn hk
      refine hE.2 _ _ _ _ _ ?_
      have z0 : ¬ nI k < 0 := nI_nlt (b := 0) (Nat.zero_le k) (by omega)
      have z : ¬ nI cap ≤ nI k := nI_ge (by omega) (by omega)
      have z1 : nI k < nI cap := nI_lt (by omega) (by omega)
      have hin : vp_in (nI k) cap := vp_in_nI (by omega) (by omega)
      have hc : (nI k).toNatClampNeg = k := nI_clamp (by omega)
      obtain ⟨k2, k3, k4, k5, k6⟩ := hv k (by omega)
      simp [t_X2_heldBehind_15, i_aload, i_iload, i_lload, i_istore, i_lstore, i_astore, i_iinc, i_push, i_getI, i_getJ, i_getR, i_putI, i_putJ, i_putR, i_iadd, i_isub, i_imul, i_iand, i_ior, i_ixor, i_ishl, i_ishr, i_iushr, i_idiv, i_irem, i_ladd, i_lsub, i_lmul, i_land, i_lor, i_lxor, i_ldiv, i_lrem, i_lshl, i_lshr, i_lcmp, i_ineg, i_lneg, i_i2l, i_l2i, i_i2b, i_i2c, i_dup, i_pop, i_dup_x1, i_dup2, i_icmp_eq, i_icmp_lt, i_icmp_ge, i_icmp_gt, i_icmp_le, i_if_eq, i_if_lt, i_if_ge, i_if_gt, i_if_le, i_goto, i_ifnull, i_iald, i_bald, i_zald, i_lald, i_aald, i_iast, i_bast, i_zast, i_last, i_alen, i_iret, i_lret, i_aret, i_vret, i_oinit, i_cast, i_tsw, i_cases, i_mmin, i_mmax, i_lmin, i_throw, nb0, nb1, nint, nby0, rf_s, rf_n, of_r, of_n, tk_orf_rf, tk_c2, tk_ls, Value.category, tk_isR_ref, tk_isR_rf, tk_isR_null, jm, b1, b2, a1, a2, a3, a4, f1, f2, f3, f4, z0, z, z1, hin, hc, k2, k6]
      refine ⟨fun w => ?_, fun w => ?_⟩
      · rw [jm_a]
        refine ih (by omega) ?_
        rw [heldIn, if_pos w] at hk
        exact hk
      · rw [heldIn, if_neg (Int32.not_lt.mpr w)] at hk
        exact hk
  show t_X2_heldBehind_0 Z d mc ms QR E [some (.ref bx), some (.int day), none] [] S 0 0
  simp [t_X2_heldBehind_0, i_aload, i_iload, i_lload, i_istore, i_lstore, i_astore, i_iinc, i_push, i_getI, i_getJ, i_getR, i_putI, i_putJ, i_putR, i_iadd, i_isub, i_imul, i_iand, i_ior, i_ixor, i_ishl, i_ishr, i_iushr, i_idiv, i_irem, i_ladd, i_lsub, i_lmul, i_land, i_lor, i_lxor, i_ldiv, i_lrem, i_lshl, i_lshr, i_lcmp, i_ineg, i_lneg, i_i2l, i_l2i, i_i2b, i_i2c, i_dup, i_pop, i_dup_x1, i_dup2, i_icmp_eq, i_icmp_lt, i_icmp_ge, i_icmp_gt, i_icmp_le, i_if_eq, i_if_lt, i_if_ge, i_if_gt, i_if_le, i_goto, i_ifnull, i_iald, i_bald, i_zald, i_lald, i_aald, i_iast, i_bast, i_zast, i_last, i_alen, i_iret, i_lret, i_aret, i_vret, i_oinit, i_cast, i_tsw, i_cases, i_mmin, i_mmax, i_lmin, i_throw, nb0, nb1, nint, nby0, rf_s, rf_n, of_r, of_n, tk_orf_rf, tk_c2, tk_ls, Value.category, tk_isR_ref, tk_isR_rf, tk_isR_null, b1, b2, a1, a2, a3, a4, f1, f2, f3, f4, hn]
  rw [if_neg (nI_nlt hnc (by omega)), jm_s]
  exact ⟨hd, loop n (Nat.le_refl n) h⟩
end BOX3

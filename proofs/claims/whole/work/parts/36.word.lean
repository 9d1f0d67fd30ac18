/-! THE READER: which word -/
section WORD
variable {Z : tk_Z} {d mc ms : Nat} {S : tk_S} {QR : tk_R}
/-- the number of the word from st till ti; i: a place in the words, t: in the bytes -/
def wordIn (g : Nat → Int32) (len st ti : Nat) : Nat → Nat → Int32 → Nat → Int32 → Int32
  | 0, _, _, _, _ => 2
  | m + 1, i, wd, t, al => if sCh 2 i = 32 then (if al = 0 then wordIn g len st ti m (i + 1) (wd + 1) st 1 else if t = ti then wd else wordIn g len st ti m (i + 1) (wd + 1) st 1) else wordIn g len st ti m (i + 1) wd (t + 1) (if al = 0 then 0 else if ti ≤ t then 0 else if g t &&& 255 = sCh 2 i then 1 else 0)
theorem m_wordNumber {a qt len st ti : Nat} (hd : 4 ≤ d) (h : isRd S a qt len) (hti : ti ≤ len) (hst : st ≤ ti) (hn : sLen 2 ≤ 1000)
    (hQ : QR (some (.int (wordIn (q_aI S qt) len st ti (sLen 2) 0 256 st 1))) S) : tk_M Z mX7_wordNumber d mc ms [.ref a, .int (nI st), .int (nI ti)] S QR tk_noX := by
  obtain ⟨h1, h2, h3, h4, h5, h6, h7, h8⟩ := h
  refine M_X7_wordNumber (Nat.le_of_ble_eq_true rfl) (fun E hE => hE.1 _ _ _ _ _ ?_)
  have loop : ∀ m i wd t al x7, i + m = sLen 2 → t ≤ len + i → QR (some (.int (wordIn (q_aI S qt) len st ti m i wd t al))) S → E 13 [some (.ref a), some (.int (nI st)), some (.int (nI ti)), some (.int wd), some (.int (nI t)), some (.int al), some (.int (nI i)), x7] [] S 0 0 := by
    intro m
    induction m with
    | zero =>
      intro i wd t al x7 hi ht g
      refine hE.2 _ _ _ _ _ ?_
      have z : nI (sLen 2) ≤ nI i := nI_le (by omega) (by omega)
      simp -implicitDefEqProofs [t_X7_wordNumber_13, i_aload, i_iload, i_lload, i_istore, i_lstore, i_astore, i_iinc, i_push, i_getI, i_getJ, i_getR, i_putI, i_putJ, i_putR, i_iadd, i_isub, i_imul, i_iand, i_ior, i_ixor, i_ishl, i_ishr, i_iushr, i_idiv, i_irem, i_ladd, i_lsub, i_lmul, i_land, i_lor, i_lxor, i_ldiv, i_lrem, i_lshl, i_lshr, i_lcmp, i_ineg, i_lneg, i_i2l, i_l2i, i_i2b, i_i2c, i_dup, i_pop, i_dup_x1, i_dup2, i_icmp_eq, i_icmp_lt, i_icmp_ge, i_icmp_gt, i_icmp_le, i_if_eq, i_if_lt, i_if_ge, i_if_gt, i_if_le, i_goto, i_ifnull, i_iald, i_bald, i_zald, i_lald, i_aald, i_iast, i_bast, i_zast, i_last, i_alen, i_iret, i_lret, i_aret, i_vret, i_oinit, i_cast, i_tsw, i_cases, i_mmin, i_mmax, i_lmin, i_throw, nb0, nb1, nint, nby0, rf_s, rf_n, of_r, of_n, tk_orf_rf, tk_c2, tk_ls, Value.category, tk_isR_ref, tk_isR_rf, tk_isR_null]
      refine ⟨by simp, ⟨2, by decide, rfl⟩, by simp [Value.category], 1, 0, 0, by omega, by omega, by omega, ?_⟩
      refine m_slen (i := 2) (Nat.le_refl 1) (by decide) ?_
      simp -implicitDefEqProofs [i_aload, i_iload, i_lload, i_istore, i_lstore, i_astore, i_iinc, i_push, i_getI, i_getJ, i_getR, i_putI, i_putJ, i_putR, i_iadd, i_isub, i_imul, i_iand, i_ior, i_ixor, i_ishl, i_ishr, i_iushr, i_idiv, i_irem, i_ladd, i_lsub, i_lmul, i_land, i_lor, i_lxor, i_ldiv, i_lrem, i_lshl, i_lshr, i_lcmp, i_ineg, i_lneg, i_i2l, i_l2i, i_i2b, i_i2c, i_dup, i_pop, i_dup_x1, i_dup2, i_icmp_eq, i_icmp_lt, i_icmp_ge, i_icmp_gt, i_icmp_le, i_if_eq, i_if_lt, i_if_ge, i_if_gt, i_if_le, i_goto, i_ifnull, i_iald, i_bald, i_zald, i_lald, i_aald, i_iast, i_bast, i_zast, i_last, i_alen, i_iret, i_lret, i_aret, i_vret, i_oinit, i_cast, i_tsw, i_cases, i_mmin, i_mmax, i_lmin, i_throw, nb0, nb1, nint, nby0, rf_s, rf_n, of_r, of_n, tk_orf_rf, tk_c2, tk_ls, Value.category, tk_isR_ref, tk_isR_rf, tk_isR_null, z]
      exact g
    | succ m ih =>
      intro i wd t al x7 hi ht g
      refine hE.2 _ _ _ _ _ ?_
      have z : ¬ nI (sLen 2) ≤ nI i := nI_ge (by omega) (by omega)
      have e1 : nI i + 1 = nI (i + 1) := nI_add i 1
      have e2 : nI t + 1 = nI (t + 1) := nI_add t 1
      simp -implicitDefEqProofs [t_X7_wordNumber_13, i_aload, i_iload, i_lload, i_istore, i_lstore, i_astore, i_iinc, i_push, i_getI, i_getJ, i_getR, i_putI, i_putJ, i_putR, i_iadd, i_isub, i_imul, i_iand, i_ior, i_ixor, i_ishl, i_ishr, i_iushr, i_idiv, i_irem, i_ladd, i_lsub, i_lmul, i_land, i_lor, i_lxor, i_ldiv, i_lrem, i_lshl, i_lshr, i_lcmp, i_ineg, i_lneg, i_i2l, i_l2i, i_i2b, i_i2c, i_dup, i_pop, i_dup_x1, i_dup2, i_icmp_eq, i_icmp_lt, i_icmp_ge, i_icmp_gt, i_icmp_le, i_if_eq, i_if_lt, i_if_ge, i_if_gt, i_if_le, i_goto, i_ifnull, i_iald, i_bald, i_zald, i_lald, i_aald, i_iast, i_bast, i_zast, i_last, i_alen, i_iret, i_lret, i_aret, i_vret, i_oinit, i_cast, i_tsw, i_cases, i_mmin, i_mmax, i_lmin, i_throw, nb0, nb1, nint, nby0, rf_s, rf_n, of_r, of_n, tk_orf_rf, tk_c2, tk_ls, Value.category, tk_isR_ref, tk_isR_rf, tk_isR_null]
      refine ⟨by simp, ⟨2, by decide, rfl⟩, by simp [Value.category], 1, 0, 0, by omega, by omega, by omega, ?_⟩
      refine m_slen (i := 2) (Nat.le_refl 1) (by decide) ?_
      simp -implicitDefEqProofs [i_aload, i_iload, i_lload, i_istore, i_lstore, i_astore, i_iinc, i_push, i_getI, i_getJ, i_getR, i_putI, i_putJ, i_putR, i_iadd, i_isub, i_imul, i_iand, i_ior, i_ixor, i_ishl, i_ishr, i_iushr, i_idiv, i_irem, i_ladd, i_lsub, i_lmul, i_land, i_lor, i_lxor, i_ldiv, i_lrem, i_lshl, i_lshr, i_lcmp, i_ineg, i_lneg, i_i2l, i_l2i, i_i2b, i_i2c, i_dup, i_pop, i_dup_x1, i_dup2, i_icmp_eq, i_icmp_lt, i_icmp_ge, i_icmp_gt, i_icmp_le, i_if_eq, i_if_lt, i_if_ge, i_if_gt, i_if_le, i_goto, i_ifnull, i_iald, i_bald, i_zald, i_lald, i_aald, i_iast, i_bast, i_zast, i_last, i_alen, i_iret, i_lret, i_aret, i_vret, i_oinit, i_cast, i_tsw, i_cases, i_mmin, i_mmax, i_lmin, i_throw, nb0, nb1, nint, nby0, rf_s, rf_n, of_r, of_n, tk_orf_rf, tk_c2, tk_ls, Value.category, tk_isR_ref, tk_isR_rf, tk_isR_null, z]
      refine ⟨by simp, ⟨2, by decide, rfl⟩, by simp [Value.category], 3, 0, 0, by omega, by omega, by omega, ?_⟩
      refine m_scharAt (i := 2) (Nat.le_refl 3) (by decide) (by omega) ?_
      simp -implicitDefEqProofs [i_aload, i_iload, i_lload, i_istore, i_lstore, i_astore, i_iinc, i_push, i_getI, i_getJ, i_getR, i_putI, i_putJ, i_putR, i_iadd, i_isub, i_imul, i_iand, i_ior, i_ixor, i_ishl, i_ishr, i_iushr, i_idiv, i_irem, i_ladd, i_lsub, i_lmul, i_land, i_lor, i_lxor, i_ldiv, i_lrem, i_lshl, i_lshr, i_lcmp, i_ineg, i_lneg, i_i2l, i_l2i, i_i2b, i_i2c, i_dup, i_pop, i_dup_x1, i_dup2, i_icmp_eq, i_icmp_lt, i_icmp_ge, i_icmp_gt, i_icmp_le, i_if_eq, i_if_lt, i_if_ge, i_if_gt, i_if_le, i_goto, i_ifnull, i_iald, i_bald, i_zald, i_lald, i_aald, i_iast, i_bast, i_zast, i_last, i_alen, i_iret, i_lret, i_aret, i_vret, i_oinit, i_cast, i_tsw, i_cases, i_mmin, i_mmax, i_lmin, i_throw, nb0, nb1, nint, nby0, rf_s, rf_n, of_r, of_n, tk_orf_rf, tk_c2, tk_ls, Value.category, tk_isR_ref, tk_isR_rf, tk_isR_null, e1, e2]
      have q1 : nI t = nI ti → t = ti := by
        intro w
        rcases Nat.lt_trichotomy t ti with w2 | w2 | w2
        · have w3 : nI t < nI ti := nI_lt w2 (by omega)
          rw [w] at w3
          exact absurd w3 (Int32.lt_irrefl)
        · exact w2
        · have w3 : nI ti < nI t := nI_lt w2 (by omega)
          rw [w] at w3
          exact absurd w3 (Int32.lt_irrefl)
      have q2 : nI ti ≤ nI t → ti ≤ t := fun w => Nat.le_of_not_lt (fun w2 => (nI_ge w2 (by omega) : ¬ nI ti ≤ nI t) w)
      have q3 : nI t < nI ti → t < ti := fun w => Nat.lt_of_not_le (fun w2 => (nI_nlt w2 (by omega) : ¬ nI t < nI ti) w)
      have I := fun wd t al ht g => ih (i + 1) wd t al (some (.int (sCh 2 i))) (by omega) ht g
      refine ⟨fun w => ⟨fun w2 => ?_, fun w2 => ⟨fun w3 => ?_, fun w3 => ?_⟩⟩, fun w => ⟨fun w2 => ?_, fun w2 => ⟨fun w3 => ?_, fun w3 => ?_⟩⟩⟩
      · rw [wordIn, if_pos w, if_pos w2] at g; exact I _ _ _ (by omega) g
      · rw [wordIn, if_pos w, if_neg w2, if_pos (q1 w3)] at g; exact g
      · rw [wordIn, if_pos w, if_neg w2, if_neg (fun w4 => w3 (by rw [w4]))] at g; exact I _ _ _ (by omega) g
      · rw [wordIn, if_neg w, if_pos w2] at g; exact I _ _ _ (by omega) g
      · rw [wordIn, if_neg w, if_neg w2, if_pos (q2 w3)] at g; exact I _ _ _ (by omega) g
      · have w4 := q3 w3
        rw [wordIn, if_neg w, if_neg w2, if_neg (by omega)] at g
        refine ⟨by simp, h1, h2, by simp, 0, 0, 0, by omega, by omega, by omega, ?_⟩
        refine m_byteAt (qt := qt) (len := len) h1 h2 h3 h4 h5 h6 h7 h8 (by omega) ?_
        rw [if_pos (show t < len by omega)]
        simp -implicitDefEqProofs [i_aload, i_iload, i_lload, i_istore, i_lstore, i_astore, i_iinc, i_push, i_getI, i_getJ, i_getR, i_putI, i_putJ, i_putR, i_iadd, i_isub, i_imul, i_iand, i_ior, i_ixor, i_ishl, i_ishr, i_iushr, i_idiv, i_irem, i_ladd, i_lsub, i_lmul, i_land, i_lor, i_lxor, i_ldiv, i_lrem, i_lshl, i_lshr, i_lcmp, i_ineg, i_lneg, i_i2l, i_l2i, i_i2b, i_i2c, i_dup, i_pop, i_dup_x1, i_dup2, i_icmp_eq, i_icmp_lt, i_icmp_ge, i_icmp_gt, i_icmp_le, i_if_eq, i_if_lt, i_if_ge, i_if_gt, i_if_le, i_goto, i_ifnull, i_iald, i_bald, i_zald, i_lald, i_aald, i_iast, i_bast, i_zast, i_last, i_alen, i_iret, i_lret, i_aret, i_vret, i_oinit, i_cast, i_tsw, i_cases, i_mmin, i_mmax, i_lmin, i_throw, nb0, nb1, nint, nby0, rf_s, rf_n, of_r, of_n, tk_orf_rf, tk_c2, tk_ls, Value.category, tk_isR_ref, tk_isR_rf, tk_isR_null, e1, e2]
        refine ⟨fun w5 => ?_, fun w5 => ?_⟩
        · rw [if_pos w5] at g; exact I _ _ _ (by omega) g
        · rw [if_neg w5] at g; exact I _ _ _ (by omega) g
  show t_X7_wordNumber_0 Z d mc ms QR E [some (.ref a), some (.int (nI st)), some (.int (nI ti)), none, none, none, none, none] [] S 0 0
  simp -implicitDefEqProofs [t_X7_wordNumber_0, i_aload, i_iload, i_lload, i_istore, i_lstore, i_astore, i_iinc, i_push, i_getI, i_getJ, i_getR, i_putI, i_putJ, i_putR, i_iadd, i_isub, i_imul, i_iand, i_ior, i_ixor, i_ishl, i_ishr, i_iushr, i_idiv, i_irem, i_ladd, i_lsub, i_lmul, i_land, i_lor, i_lxor, i_ldiv, i_lrem, i_lshl, i_lshr, i_lcmp, i_ineg, i_lneg, i_i2l, i_l2i, i_i2b, i_i2c, i_dup, i_pop, i_dup_x1, i_dup2, i_icmp_eq, i_icmp_lt, i_icmp_ge, i_icmp_gt, i_icmp_le, i_if_eq, i_if_lt, i_if_ge, i_if_gt, i_if_le, i_goto, i_ifnull, i_iald, i_bald, i_zald, i_lald, i_aald, i_iast, i_bast, i_zast, i_last, i_alen, i_iret, i_lret, i_aret, i_vret, i_oinit, i_cast, i_tsw, i_cases, i_mmin, i_mmax, i_lmin, i_throw, nb0, nb1, nint, nby0, rf_s, rf_n, of_r, of_n, tk_orf_rf, tk_c2, tk_ls, Value.category, tk_isR_ref, tk_isR_rf, tk_isR_null]
  exact loop (sLen 2) 0 _ _ _ _ (by omega) (by omega) hQ
end WORD

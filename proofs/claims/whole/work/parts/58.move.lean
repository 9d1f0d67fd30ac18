/-! THE TRUST'S OWN METHODS: payInterest, moveOn -/
section MOVE
variable {Z : tk_Z} {d mc ms : Nat} {S : tk_S} {QR : tk_R}
abbrev mI : Type := (Nat → Int64) × mJ
/-- one rank's interest -/
def rankM (td n : Nat) (rk : Nat → Int32) (r : Int32) (k : mI) : mI := payM td rk r (if dueM rk k.1 r n 0 0 ≤ k.2.2.1 then k.1 else partsM rk k.1 r n k.2.2.1 (dueM rk k.1 r n 0 0)) n 0 k
def ranksM (td n : Nat) (rk : Nat → Int32) : Nat → mI → mI
  | 0, k => k
  | m + 1, k => rankM td n rk (nI m) (ranksM td n rk m k)
/-- what is due grows -/
def growM (su ra : Nat → Int32) : Nat → (Nat → Int64) → Nat → Int64
  | 0, du => du
  | m + 1, du => vp_updL (growM su ra m du) m (growM su ra m du m + (su m).toInt64 * (ra m).toInt64 / 1000)
def interM (td n : Nat) (su ra rk : Nat → Int32) (k : mI) : mI := ranksM td n rk 4 (growM su ra n k.1, k.2)
theorem rankM_ge (td n : Nat) (rk : Nat → Int32) (r : Int32) (k : mI) : k.2.1 ≤ (rankM td n rk r k).2.1 := payM_ge n 0 k
theorem ranksM_ge (td n : Nat) (rk : Nat → Int32) (k : mI) : ∀ m j, (ranksM td n rk m k).2.1 ≤ (ranksM td n rk (m + j) k).2.1 := by
  intro m j
  induction j with
  | zero => exact Nat.le_refl _
  | succ j ih => exact Nat.le_trans ih (rankM_ge td n rk (nI (m + j)) _)
set_option maxHeartbeats 4000000 in
theorem m_payInterest {ρ : Nat → Nat} {x n td : Nat} {fL : Nat → Nat} {su ra rk : Nat → Int32} {du : Nat → Int64} {J : mJ} (hd : 6 ≤ d) (hZ : Z.2.2.2.2.2.1 ∉ q_L S) (hx : x ∈ q_L S) (hk : q_K S x = 12) (hρ : ρ x = 1) (htd : q_I S 12 9 x = nI td) (hL : cL Z ρ S x fL n su ra rk du) (hJ : cJ' ρ S x J) (hJn : (interM td n su ra rk (du, J)).2.1 ≤ 12000) (hbx : ∀ m, m < 4 → 0 ≤ (ranksM td n rk m (growM su ra n du, J)).2.2.1)
    (hmc : 5 * (lvl (interM td n su ra rk (du, J)).2.1 - lvl J.1) ≤ mc) (hms : 60000 * (lvl (interM td n su ra rk (du, J)).2.1 - lvl J.1) ≤ ms)
    (H : ∀ S' ρ', blF ρ ρ' S S' → cL Z ρ' S' x fL n su ra rk (interM td n su ra rk (du, J)).1 → cJ' ρ' S' x (interM td n su ra rk (du, J)).2 → QR none S') : tk_M Z mX11_payInterest d mc ms [.ref x] S QR tk_noX := by
  refine M_X11_payInterest (Nat.le_of_ble_eq_true rfl) (fun E hE => hE.1 _ _ _ _ _ ?_)
  have hn10 : n ≤ 10 := by obtain ⟨l, e, h1, h2, h3, h4, h5⟩ := hL; exact h4
  generalize hP : interM td n su ra rk (du, J) = P at *
  unfold interM at hP
  dsimp only at hP
  generalize hk0 : (growM su ra n du, J) = k0 at *
  have hk0J : k0.2 = J := by rw [← hk0]
  have loop2 : ∀ m i S1 ρ1 cs ss x2 x3, m + i = 4 → Z.2.2.2.2.2.1 ∉ q_L S1 → blF ρ ρ1 S S1 → cL Z ρ1 S1 x fL n su ra rk (ranksM td n rk i k0).1 → cJ' ρ1 S1 x (ranksM td n rk i k0).2 → cs ≤ 5 * (lvl (ranksM td n rk i k0).2.1 - lvl J.1) → ss ≤ 60000 * (lvl (ranksM td n rk i k0).2.1 - lvl J.1) → E 35 [some (.ref x), some (.int (nI i)), x2, x3] [] S1 cs ss := by
    intro m
    induction m with
    | zero =>
      intro i S1 ρ1 cs ss x2 x3 hi hZ1 hF hL1 hJ1 hcs hss
      refine hE.2.2 _ _ _ _ _ ?_
      have hi2 : i = 4 := by omega
      subst hi2
      rw [hP] at hL1 hJ1 hcs hss
      have z : (4 : Int32) ≤ nI 4 := by decide
      simp -implicitDefEqProofs [t_X11_payInterest_35, i_aload, i_iload, i_lload, i_istore, i_lstore, i_astore, i_iinc, i_push, i_getI, i_getJ, i_getR, i_putI, i_putJ, i_putR, i_iadd, i_isub, i_imul, i_iand, i_ior, i_ixor, i_ishl, i_ishr, i_iushr, i_idiv, i_irem, i_ladd, i_lsub, i_lmul, i_land, i_lor, i_lxor, i_ldiv, i_lrem, i_lshl, i_lshr, i_lcmp, i_ineg, i_lneg, i_i2l, i_l2i, i_i2b, i_i2c, i_dup, i_pop, i_dup_x1, i_dup2, i_icmp_eq, i_icmp_lt, i_icmp_ge, i_icmp_gt, i_icmp_le, i_if_eq, i_if_lt, i_if_ge, i_if_gt, i_if_le, i_goto, i_ifnull, i_iald, i_bald, i_zald, i_lald, i_aald, i_iast, i_bast, i_zast, i_last, i_alen, i_iret, i_lret, i_aret, i_vret, i_oinit, i_cast, i_tsw, i_cases, i_mmin, i_mmax, i_lmin, i_throw, nb0, nb1, nint, nby0, rf_s, rf_n, of_r, of_n, tk_orf_rf, tk_c2, tk_ls, Value.category, tk_isR_ref, tk_isR_rf, tk_isR_null, z]
      exact ⟨by omega, by omega, H S1 ρ1 hF hL1 hJ1⟩
    | succ m ih =>
      intro i S1 ρ1 cs ss x2 x3 hi hZ1 hF hL1 hJ1 hcs hss
      refine hE.2.2 _ _ _ _ _ ?_
      have z' : nI i < 4 := nI_lt (b := 4) (by omega) (by omega)
      have z : ¬ (4 : Int32) ≤ nI i := Int32.not_le.mpr z'
      have e1 : nI i + 1 = nI (i + 1) := nI_add i 1
      have hge1 : (ranksM td n rk i k0).2.1 ≤ (ranksM td n rk (i + 1) k0).2.1 := ranksM_ge td n rk k0 i 1
      have hge2 : (ranksM td n rk (i + 1) k0).2.1 ≤ P.2.1 := by
        rw [← hP, show 4 = i + 1 + m by omega]
        exact ranksM_ge td n rk k0 (i + 1) m
      have hge0 : J.1 ≤ (ranksM td n rk i k0).2.1 := by
        have := ranksM_ge td n rk k0 0 i
        rw [Nat.zero_add] at this
        rw [← hk0J]
        exact this
      have l1 := lvl_mono hge1
      have l2 := lvl_mono hge2
      have l0 := lvl_mono hge0
      have hb := hbx i (by omega)
      have hst : ranksM td n rk (i + 1) k0 = rankM td n rk (nI i) (ranksM td n rk i k0) := rfl
      generalize hki : ranksM td n rk i k0 = ki at *
      have sx := hF.2.2 x hx (by rw [hρ]; decide)
      have sx1 := sx.1
      have sx2 := sx.2.1.trans hk
      have sx3 := (sx.2.2.1 12 9).trans htd
      have hρ1 : ρ1 x = 1 := (hF.2.1 x hx).trans hρ
      have hJ0 := hJ1
      obtain ⟨bx, r2, r3, r4, r5, r6, j1, j2, jB, -⟩ := hJ0
      have jb := jB.1.1
      have jk := jB.1.2.1
      have jm := jB.2.2.1
      have pay : ∀ S2 gr rs, lnF ρ1 S1 S2 → cLx Z ρ1 S2 x fL n su ra rk ki.1 gr rs → (∀ k, k < n → rk k = nI i → gr k = (if dueM rk ki.1 (nI i) n 0 0 ≤ ki.2.2.1 then ki.1 else partsM rk ki.1 (nI i) n ki.2.2.1 (dueM rk ki.1 (nI i) n 0 0)) k) → ∀ x2 x3, i_callV Z mX11_payGranted 12 1 d mc ms (i_iinc 1 (1) (i_goto (E 35))) [some (.ref x), some (.int (nI i)), x2, x3] [.int (nI i), .ref x] S2 cs ss := by
        intro S2 gr rs hF2 hL2 hgr x2 x3
        have sy := hF2.2 x sx1 (by rw [hρ1]; decide)
        have e : payM td rk (nI i) gr n 0 (ki.1, ki.2) = rankM td n rk (nI i) ki := payM_ext (n := n) hgr n 0 (ki.1, ki.2) rfl
        have hJ2 : cJ' ρ1 S2 x ki.2 := hJ1.same (xr.of sy) (fun b hb hr => hF2.2 b hb (fun q => by rw [q] at hr; simp at hr)) rx.rfl'
        refine ⟨by simp, sy.1, sy.2.1.trans sx2, by simp [Value.category], 4, 5 * (lvl (ranksM td n rk (i + 1) k0).2.1 - lvl ki.2.1), 60000 * (lvl (ranksM td n rk (i + 1) k0).2.1 - lvl ki.2.1), by omega, by omega, by omega, ?_⟩
        refine tk_M.out (m_payGranted (td := td) (J := ki.2) (Nat.le_refl 4) (by rw [hF2.1]; exact hZ1) sy.1 (sy.2.1.trans sx2) hρ1 ((sy.2.2.1 12 9).trans sx3) hL2 hJ2 (by rw [e, ← hst]; omega) (by rw [e, ← hst]; exact Nat.le_refl _) (by rw [e, ← hst]; exact Nat.le_refl _) (fun S3 ρ3 hF3 hL3 hJ3 hZ3 => ?_))
        simp -implicitDefEqProofs [i_aload, i_iload, i_lload, i_istore, i_lstore, i_astore, i_iinc, i_push, i_getI, i_getJ, i_getR, i_putI, i_putJ, i_putR, i_iadd, i_isub, i_imul, i_iand, i_ior, i_ixor, i_ishl, i_ishr, i_iushr, i_idiv, i_irem, i_ladd, i_lsub, i_lmul, i_land, i_lor, i_lxor, i_ldiv, i_lrem, i_lshl, i_lshr, i_lcmp, i_ineg, i_lneg, i_i2l, i_l2i, i_i2b, i_i2c, i_dup, i_pop, i_dup_x1, i_dup2, i_icmp_eq, i_icmp_lt, i_icmp_ge, i_icmp_gt, i_icmp_le, i_if_eq, i_if_lt, i_if_ge, i_if_gt, i_if_le, i_goto, i_ifnull, i_iald, i_bald, i_zald, i_lald, i_aald, i_iast, i_bast, i_zast, i_last, i_alen, i_iret, i_lret, i_aret, i_vret, i_oinit, i_cast, i_tsw, i_cases, i_mmin, i_mmax, i_lmin, i_throw, nb0, nb1, nint, nby0, rf_s, rf_n, of_r, of_n, tk_orf_rf, tk_c2, tk_ls, Value.category, tk_isR_ref, tk_isR_rf, tk_isR_null, e1]
        rw [e, ← hst] at hL3 hJ3
        exact ih (i + 1) S3 ρ3 _ _ _ _ (by omega) hZ3 (hF.trans (hF2.bl.trans hF3)) hL3 hJ3 (by omega) (by omega)
      simp -implicitDefEqProofs [t_X11_payInterest_35, i_aload, i_iload, i_lload, i_istore, i_lstore, i_astore, i_iinc, i_push, i_getI, i_getJ, i_getR, i_putI, i_putJ, i_putR, i_iadd, i_isub, i_imul, i_iand, i_ior, i_ixor, i_ishl, i_ishr, i_iushr, i_idiv, i_irem, i_ladd, i_lsub, i_lmul, i_land, i_lor, i_lxor, i_ldiv, i_lrem, i_lshl, i_lshr, i_lcmp, i_ineg, i_lneg, i_i2l, i_l2i, i_i2b, i_i2c, i_dup, i_pop, i_dup_x1, i_dup2, i_icmp_eq, i_icmp_lt, i_icmp_ge, i_icmp_gt, i_icmp_le, i_if_eq, i_if_lt, i_if_ge, i_if_gt, i_if_le, i_goto, i_ifnull, i_iald, i_bald, i_zald, i_lald, i_aald, i_iast, i_bast, i_zast, i_last, i_alen, i_iret, i_lret, i_aret, i_vret, i_oinit, i_cast, i_tsw, i_cases, i_mmin, i_mmax, i_lmin, i_throw, nb0, nb1, nint, nby0, rf_s, rf_n, of_r, of_n, tk_orf_rf, tk_c2, tk_ls, Value.category, tk_isR_ref, tk_isR_rf, tk_isR_null, z]
      refine ⟨by simp, sx1, sx2, by simp [Value.category], 4, 0, 0, by omega, by omega, by omega, ?_⟩
      refine m_dueOf (Nat.le_refl 4) sx1 sx2 hL1 ?_
      generalize hal : dueM rk ki.1 (nI i) n 0 0 = al at pay
      simp -implicitDefEqProofs [i_aload, i_iload, i_lload, i_istore, i_lstore, i_astore, i_iinc, i_push, i_getI, i_getJ, i_getR, i_putI, i_putJ, i_putR, i_iadd, i_isub, i_imul, i_iand, i_ior, i_ixor, i_ishl, i_ishr, i_iushr, i_idiv, i_irem, i_ladd, i_lsub, i_lmul, i_land, i_lor, i_lxor, i_ldiv, i_lrem, i_lshl, i_lshr, i_lcmp, i_ineg, i_lneg, i_i2l, i_l2i, i_i2b, i_i2c, i_dup, i_pop, i_dup_x1, i_dup2, i_icmp_eq, i_icmp_lt, i_icmp_ge, i_icmp_gt, i_icmp_le, i_if_eq, i_if_lt, i_if_ge, i_if_gt, i_if_le, i_goto, i_ifnull, i_iald, i_bald, i_zald, i_lald, i_aald, i_iast, i_bast, i_zast, i_last, i_alen, i_iret, i_lret, i_aret, i_vret, i_oinit, i_cast, i_tsw, i_cases, i_mmin, i_mmax, i_lmin, i_throw, nb0, nb1, nint, nby0, rf_s, rf_n, of_r, of_n, tk_orf_rf, tk_c2, tk_ls, Value.category, tk_isR_ref, tk_isR_rf, tk_isR_null, sx1, sx2, j1, jb, jk, jm, lg_cmp_lt, lg_cmp_ge]
      refine ⟨fun w => ?_, fun w => ?_⟩
      · refine ⟨by simp, sx1, sx2, by simp [Value.category], 5, 0, 0, by omega, by omega, by omega, ?_⟩
        refine m_grantParts (bx := bx) (Nat.le_refl 5) sx1 sx2 hρ1 hL1.x ⟨j1, jb, jk, j2, jm⟩ (Int64.lt_of_le_of_lt hb w) (fun S2 gr' rs' f2 l2 g2 => ?_)
        simp -implicitDefEqProofs [i_aload, i_iload, i_lload, i_istore, i_lstore, i_astore, i_iinc, i_push, i_getI, i_getJ, i_getR, i_putI, i_putJ, i_putR, i_iadd, i_isub, i_imul, i_iand, i_ior, i_ixor, i_ishl, i_ishr, i_iushr, i_idiv, i_irem, i_ladd, i_lsub, i_lmul, i_land, i_lor, i_lxor, i_ldiv, i_lrem, i_lshl, i_lshr, i_lcmp, i_ineg, i_lneg, i_i2l, i_l2i, i_i2b, i_i2c, i_dup, i_pop, i_dup_x1, i_dup2, i_icmp_eq, i_icmp_lt, i_icmp_ge, i_icmp_gt, i_icmp_le, i_if_eq, i_if_lt, i_if_ge, i_if_gt, i_if_le, i_goto, i_ifnull, i_iald, i_bald, i_zald, i_lald, i_aald, i_iast, i_bast, i_zast, i_last, i_alen, i_iret, i_lret, i_aret, i_vret, i_oinit, i_cast, i_tsw, i_cases, i_mmin, i_mmax, i_lmin, i_throw, nb0, nb1, nint, nby0, rf_s, rf_n, of_r, of_n, tk_orf_rf, tk_c2, tk_ls, Value.category, tk_isR_ref, tk_isR_rf, tk_isR_null]
        refine pay S2 gr' rs' f2 l2 (fun k hk hr => ?_) _ _
        rw [if_neg (Int64.not_le.mpr w)]
        exact g2 k hk hr
      · refine ⟨by simp, sx1, sx2, by simp [Value.category], 4, 0, 0, by omega, by omega, by omega, ?_⟩
        refine m_grantAll (Nat.le_refl 4) sx1 sx2 hρ1 hL1.x (fun S2 gr' f2 l2 g2 => ?_)
        simp -implicitDefEqProofs [i_aload, i_iload, i_lload, i_istore, i_lstore, i_astore, i_iinc, i_push, i_getI, i_getJ, i_getR, i_putI, i_putJ, i_putR, i_iadd, i_isub, i_imul, i_iand, i_ior, i_ixor, i_ishl, i_ishr, i_iushr, i_idiv, i_irem, i_ladd, i_lsub, i_lmul, i_land, i_lor, i_lxor, i_ldiv, i_lrem, i_lshl, i_lshr, i_lcmp, i_ineg, i_lneg, i_i2l, i_l2i, i_i2b, i_i2c, i_dup, i_pop, i_dup_x1, i_dup2, i_icmp_eq, i_icmp_lt, i_icmp_ge, i_icmp_gt, i_icmp_le, i_if_eq, i_if_lt, i_if_ge, i_if_gt, i_if_le, i_goto, i_ifnull, i_iald, i_bald, i_zald, i_lald, i_aald, i_iast, i_bast, i_zast, i_last, i_alen, i_iret, i_lret, i_aret, i_vret, i_oinit, i_cast, i_tsw, i_cases, i_mmin, i_mmax, i_lmin, i_throw, nb0, nb1, nint, nby0, rf_s, rf_n, of_r, of_n, tk_orf_rf, tk_c2, tk_ls, Value.category, tk_isR_ref, tk_isR_rf, tk_isR_null]
        refine pay S2 gr' _ f2 l2 (fun k hk hr => ?_) _ _
        rw [if_pos w]
        exact g2 k hk hr
  have loop1 : ∀ m i S1 x2 x3, m + i = n → lnF ρ S S1 → cL Z ρ S1 x fL n su ra rk (growM su ra i du) → E 2 [some (.ref x), some (.int (nI i)), x2, x3] [] S1 0 0 := by
    intro m
    induction m with
    | zero =>
      intro i S1 x2 x3 hi hF hL1
      refine hE.2.1 _ _ _ _ _ ?_
      have hi2 : i = n := by omega
      subst hi2
      have sx := hF.2 x hx (by rw [hρ]; decide)
      have hL0 := hL1
      obtain ⟨l, e, h1, h2, h3, h4, h5⟩ := hL0
      have hl := h2.1
      simp -implicitDefEqProofs [t_X11_payInterest_2, i_aload, i_iload, i_lload, i_istore, i_lstore, i_astore, i_iinc, i_push, i_getI, i_getJ, i_getR, i_putI, i_putJ, i_putR, i_iadd, i_isub, i_imul, i_iand, i_ior, i_ixor, i_ishl, i_ishr, i_iushr, i_idiv, i_irem, i_ladd, i_lsub, i_lmul, i_land, i_lor, i_lxor, i_ldiv, i_lrem, i_lshl, i_lshr, i_lcmp, i_ineg, i_lneg, i_i2l, i_l2i, i_i2b, i_i2c, i_dup, i_pop, i_dup_x1, i_dup2, i_icmp_eq, i_icmp_lt, i_icmp_ge, i_icmp_gt, i_icmp_le, i_if_eq, i_if_lt, i_if_ge, i_if_gt, i_if_le, i_goto, i_ifnull, i_iald, i_bald, i_zald, i_lald, i_aald, i_iast, i_bast, i_zast, i_last, i_alen, i_iret, i_lret, i_aret, i_vret, i_oinit, i_cast, i_tsw, i_cases, i_mmin, i_mmax, i_lmin, i_throw, nb0, nb1, nint, nby0, rf_s, rf_n, of_r, of_n, tk_orf_rf, tk_c2, tk_ls, Value.category, tk_isR_ref, tk_isR_rf, tk_isR_null, sx.1, sx.2.1.trans hk, h1]
      refine ⟨by simp, hl.1, hl.2.1, by simp [Value.category], 0, 0, 0, by omega, by omega, by omega, ?_⟩
      refine l_size hl ?_
      simp -implicitDefEqProofs [i_aload, i_iload, i_lload, i_istore, i_lstore, i_astore, i_iinc, i_push, i_getI, i_getJ, i_getR, i_putI, i_putJ, i_putR, i_iadd, i_isub, i_imul, i_iand, i_ior, i_ixor, i_ishl, i_ishr, i_iushr, i_idiv, i_irem, i_ladd, i_lsub, i_lmul, i_land, i_lor, i_lxor, i_ldiv, i_lrem, i_lshl, i_lshr, i_lcmp, i_ineg, i_lneg, i_i2l, i_l2i, i_i2b, i_i2c, i_dup, i_pop, i_dup_x1, i_dup2, i_icmp_eq, i_icmp_lt, i_icmp_ge, i_icmp_gt, i_icmp_le, i_if_eq, i_if_lt, i_if_ge, i_if_gt, i_if_le, i_goto, i_ifnull, i_iald, i_bald, i_zald, i_lald, i_aald, i_iast, i_bast, i_zast, i_last, i_alen, i_iret, i_lret, i_aret, i_vret, i_oinit, i_cast, i_tsw, i_cases, i_mmin, i_mmax, i_lmin, i_throw, nb0, nb1, nint, nby0, rf_s, rf_n, of_r, of_n, tk_orf_rf, tk_c2, tk_ls, Value.category, tk_isR_ref, tk_isR_rf, tk_isR_null]
      refine loop2 4 0 S1 ρ 0 0 _ _ rfl (by rw [hF.1]; exact hZ) hF.bl ?_ ?_ (Nat.zero_le _) (Nat.zero_le _)
      · show cL Z ρ S1 x fL i su ra rk k0.1
        rw [← hk0]
        exact hL1
      · show cJ' ρ S1 x k0.2
        rw [hk0J]
        exact hJ.same (xr.of sx) (fun b hb hr => hF.2 b hb (fun q => by rw [q] at hr; simp at hr)) rx.rfl'
    | succ m ih =>
      intro i S1 x2 x3 hi hF hL1
      refine hE.2.1 _ _ _ _ _ ?_
      have sx := hF.2 x hx (by rw [hρ]; decide)
      have sx1 := sx.1
      have sx2 := sx.2.1.trans hk
      have hL0 := hL1
      obtain ⟨l, e, h1, h2, h3, h4, h5⟩ := hL0
      have hl := h2.1
      have hil : i < n := by omega
      have z : ¬ nI n ≤ nI i := nI_ge (by omega) (by omega)
      have e1 : nI i + 1 = nI (i + 1) := nI_add i 1
      obtain ⟨y1, y2⟩ := hl.2.2.2.2.2.2.1 i hil
      obtain ⟨w1, w2, w3, w4⟩ := h5 i hil
      simp -implicitDefEqProofs [t_X11_payInterest_2, i_aload, i_iload, i_lload, i_istore, i_lstore, i_astore, i_iinc, i_push, i_getI, i_getJ, i_getR, i_putI, i_putJ, i_putR, i_iadd, i_isub, i_imul, i_iand, i_ior, i_ixor, i_ishl, i_ishr, i_iushr, i_idiv, i_irem, i_ladd, i_lsub, i_lmul, i_land, i_lor, i_lxor, i_ldiv, i_lrem, i_lshl, i_lshr, i_lcmp, i_ineg, i_lneg, i_i2l, i_l2i, i_i2b, i_i2c, i_dup, i_pop, i_dup_x1, i_dup2, i_icmp_eq, i_icmp_lt, i_icmp_ge, i_icmp_gt, i_icmp_le, i_if_eq, i_if_lt, i_if_ge, i_if_gt, i_if_le, i_goto, i_ifnull, i_iald, i_bald, i_zald, i_lald, i_aald, i_iast, i_bast, i_zast, i_last, i_alen, i_iret, i_lret, i_aret, i_vret, i_oinit, i_cast, i_tsw, i_cases, i_mmin, i_mmax, i_lmin, i_throw, nb0, nb1, nint, nby0, rf_s, rf_n, of_r, of_n, tk_orf_rf, tk_c2, tk_ls, Value.category, tk_isR_ref, tk_isR_rf, tk_isR_null, sx1, sx2, h1]
      refine ⟨by simp, hl.1, hl.2.1, by simp [Value.category], 0, 0, 0, by omega, by omega, by omega, ?_⟩
      refine l_size hl ?_
      simp -implicitDefEqProofs [i_aload, i_iload, i_lload, i_istore, i_lstore, i_astore, i_iinc, i_push, i_getI, i_getJ, i_getR, i_putI, i_putJ, i_putR, i_iadd, i_isub, i_imul, i_iand, i_ior, i_ixor, i_ishl, i_ishr, i_iushr, i_idiv, i_irem, i_ladd, i_lsub, i_lmul, i_land, i_lor, i_lxor, i_ldiv, i_lrem, i_lshl, i_lshr, i_lcmp, i_ineg, i_lneg, i_i2l, i_l2i, i_i2b, i_i2c, i_dup, i_pop, i_dup_x1, i_dup2, i_icmp_eq, i_icmp_lt, i_icmp_ge, i_icmp_gt, i_icmp_le, i_if_eq, i_if_lt, i_if_ge, i_if_gt, i_if_le, i_goto, i_ifnull, i_iald, i_bald, i_zald, i_lald, i_aald, i_iast, i_bast, i_zast, i_last, i_alen, i_iret, i_lret, i_aret, i_vret, i_oinit, i_cast, i_tsw, i_cases, i_mmin, i_mmax, i_lmin, i_throw, nb0, nb1, nint, nby0, rf_s, rf_n, of_r, of_n, tk_orf_rf, tk_c2, tk_ls, Value.category, tk_isR_ref, tk_isR_rf, tk_isR_null, sx1, sx2, h1, z]
      refine ⟨by simp, hl.1, hl.2.1, by simp [Value.category], 3, 0, 0, by omega, by omega, by omega, ?_⟩
      refine l_get (Nat.le_refl 3) hl hil ?_
      simp -implicitDefEqProofs [i_aload, i_iload, i_lload, i_istore, i_lstore, i_astore, i_iinc, i_push, i_getI, i_getJ, i_getR, i_putI, i_putJ, i_putR, i_iadd, i_isub, i_imul, i_iand, i_ior, i_ixor, i_ishl, i_ishr, i_iushr, i_idiv, i_irem, i_ladd, i_lsub, i_lmul, i_land, i_lor, i_lxor, i_ldiv, i_lrem, i_lshl, i_lshr, i_lcmp, i_ineg, i_lneg, i_i2l, i_l2i, i_i2b, i_i2c, i_dup, i_pop, i_dup_x1, i_dup2, i_icmp_eq, i_icmp_lt, i_icmp_ge, i_icmp_gt, i_icmp_le, i_if_eq, i_if_lt, i_if_ge, i_if_gt, i_if_le, i_goto, i_ifnull, i_iald, i_bald, i_zald, i_lald, i_aald, i_iast, i_bast, i_zast, i_last, i_alen, i_iret, i_lret, i_aret, i_vret, i_oinit, i_cast, i_tsw, i_cases, i_mmin, i_mmax, i_lmin, i_throw, nb0, nb1, nint, nby0, rf_s, rf_n, of_r, of_n, tk_orf_rf, tk_c2, tk_ls, Value.category, tk_isR_ref, tk_isR_rf, tk_isR_null, y1, y2]
      refine ⟨by simp, y1, y2, by simp [Value.category], 0, 0, 0, by omega, by omega, by omega, ?_⟩
      refine m_growDue y1 y2 ?_
      rw [w1, w2, w4]
      simp -implicitDefEqProofs [i_aload, i_iload, i_lload, i_istore, i_lstore, i_astore, i_iinc, i_push, i_getI, i_getJ, i_getR, i_putI, i_putJ, i_putR, i_iadd, i_isub, i_imul, i_iand, i_ior, i_ixor, i_ishl, i_ishr, i_iushr, i_idiv, i_irem, i_ladd, i_lsub, i_lmul, i_land, i_lor, i_lxor, i_ldiv, i_lrem, i_lshl, i_lshr, i_lcmp, i_ineg, i_lneg, i_i2l, i_l2i, i_i2b, i_i2c, i_dup, i_pop, i_dup_x1, i_dup2, i_icmp_eq, i_icmp_lt, i_icmp_ge, i_icmp_gt, i_icmp_le, i_if_eq, i_if_lt, i_if_ge, i_if_gt, i_if_le, i_goto, i_ifnull, i_iald, i_bald, i_zald, i_lald, i_aald, i_iast, i_bast, i_zast, i_last, i_alen, i_iret, i_lret, i_aret, i_vret, i_oinit, i_cast, i_tsw, i_cases, i_mmin, i_mmax, i_lmin, i_throw, nb0, nb1, nint, nby0, rf_s, rf_n, of_r, of_n, tk_orf_rf, tk_c2, tk_ls, Value.category, tk_isR_ref, tk_isR_rf, tk_isR_null, e1]
      exact ih (i + 1) _ _ _ (by omega) (hF.trans (lnF.put (h2.2.2.2 i hil))) (hL1.x.put3 hil).1
  show t_X11_payInterest_0 Z d mc ms QR E [some (.ref x), none, none, none] [] S 0 0
  simp -implicitDefEqProofs [t_X11_payInterest_0, i_aload, i_iload, i_lload, i_istore, i_lstore, i_astore, i_iinc, i_push, i_getI, i_getJ, i_getR, i_putI, i_putJ, i_putR, i_iadd, i_isub, i_imul, i_iand, i_ior, i_ixor, i_ishl, i_ishr, i_iushr, i_idiv, i_irem, i_ladd, i_lsub, i_lmul, i_land, i_lor, i_lxor, i_ldiv, i_lrem, i_lshl, i_lshr, i_lcmp, i_ineg, i_lneg, i_i2l, i_l2i, i_i2b, i_i2c, i_dup, i_pop, i_dup_x1, i_dup2, i_icmp_eq, i_icmp_lt, i_icmp_ge, i_icmp_gt, i_icmp_le, i_if_eq, i_if_lt, i_if_ge, i_if_gt, i_if_le, i_goto, i_ifnull, i_iald, i_bald, i_zald, i_lald, i_aald, i_iast, i_bast, i_zast, i_last, i_alen, i_iret, i_lret, i_aret, i_vret, i_oinit, i_cast, i_tsw, i_cases, i_mmin, i_mmax, i_lmin, i_throw, nb0, nb1, nint, nby0, rf_s, rf_n, of_r, of_n, tk_orf_rf, tk_c2, tk_ls, Value.category, tk_isR_ref, tk_isR_rf, tk_isR_null]
  exact loop1 n 0 S _ _ rfl lnF.rfl' hL
end MOVE

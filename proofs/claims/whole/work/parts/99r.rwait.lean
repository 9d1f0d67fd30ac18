/-! THE REFERENCE'S CALLS: interest, wait -/
section RWAIT
variable {Z : tk_Z} {d mc ms : Nat} {QR : tk_R} {m hw k : Nat} {B : bS} {V V1 V2 : vR} {ρ : Nat → Nat} {S : tk_S} {R : Nat → Nat} {M : Mt}
/-- what the parting of a rank asks of the numbers -/
def rkOK (td n : Nat) (rk : Nat → Int32) (r : Int32) (w : mI) : Prop := (dueM rk w.1 r n 0 0 = 0 → rankM td n rk r w = w) ∧ ∀ i, i < n → rk i = r → 0 ≤ (if dueM rk w.1 r n 0 0 ≤ w.2.2.1 then w.1 else partsM rk w.1 r n w.2.2.1 (dueM rk w.1 r n 0 0)) i ∧ (-((if dueM rk w.1 r n 0 0 ≤ w.2.2.1 then w.1 else partsM rk w.1 r n w.2.2.1 (dueM rk w.1 r n 0 0)) i)).toInt32.toInt64 = -((if dueM rk w.1 r n 0 0 ≤ w.2.2.1 then w.1 else partsM rk w.1 r n w.2.2.1 (dueM rk w.1 r n 0 0)) i)
set_option maxHeartbeats 8000000 in
theorem r_interest {td n cc : Nat} {su ra rk : Nat → Int32} {w : mI} (hd : 3 ≤ d) (hR : RS B m ρ S (rLk cc (cp 600 w.2.1)) R V) (h61 : vI V 61 = nI n) (hn : n ≤ 10) (h55 : vA V 55 = su) (h56 : vA V 56 = ra) (h57 : vA V 57 = rk) (h58 : vL V 58 = w.1) (hJn : rJn V w.2) (h32 : vI V 32 = nI td)
    (hok : ∀ r, r < 4 → rkOK td n rk (nI r) (ranksM td n rk r (growM su ra n w.1, w.2)))
    (hJ : (interM td n su ra rk w).2.1 ≤ 12000) (hmc : 4 * (lv 600 (interM td n su ra rk w).2.1 - lv 600 w.2.1) ≤ mc) (hms : 80000 * (lv 600 (interM td n su ra rk w).2.1 - lv 600 w.2.1) ≤ ms)
    (H : ∀ V', iF V V' → vL V' 58 = (interM td n su ra rk w).1 → rJn V' (interM td n su ra rk w).2 → okV B m (rLk cc (cp 600 (interM td n su ra rk w).2.1)) QR none V') : tk_M Z mX12_interest d mc ms [.ref m] S QR tk_noX := by
  refine M_X12_interest (Nat.le_of_ble_eq_true rfl) (fun E hE => hE.1 _ _ _ _ _ ?_)
  show t_X12_interest_0 Z d mc ms QR E [some (.ref m), none] [] S 0 0
  obtain ⟨du, J⟩ := w
  unfold interM at H hJ hmc hms
  dsimp only at hR h58 hJn hok H hJ hmc hms
  generalize hk0 : (growM su ra n du, J) = k0 at *
  have hk2 : k0.2 = J := by rw [← hk0]
  have loop2 : ∀ q i V' ρ S R, q + i = 4 → RS B m ρ S (rLk cc (cp 600 (ranksM td n rk i k0).2.1)) R V' → iF V V' → vL V' 58 = (ranksM td n rk i k0).1 → rJn V' (ranksM td n rk i k0).2 → E 46 [some (.ref m), some (.int (nI i))] [] S (4 * (lv 600 (ranksM td n rk i k0).2.1 - lv 600 J.1)) (80000 * (lv 600 (ranksM td n rk i k0).2.1 - lv 600 J.1)) := by
    intro q
    induction q with
    | zero =>
      intro i V' ρ S R hi hR hF hL hJ'
      refine hE.2.2 _ _ _ _ _ ?_
      have hi4 : i = 4 := by omega
      subst hi4
      generalize 4 * (lv 600 (ranksM td n rk 4 k0).2.1 - lv 600 J.1) = mc1 at *
      generalize 80000 * (lv 600 (ranksM td n rk 4 k0).2.1 - lv 600 J.1) = ms1 at *
      have z : (4 : Int32) ≤ nI 4 := Int32.le_refl _
      simp -implicitDefEqProofs [t_X12_interest_46, i_aload, i_iload, i_lload, i_istore, i_lstore, i_astore, i_iinc, i_push, i_getI, i_getJ, i_getR, i_putI, i_putJ, i_putR, i_iadd, i_isub, i_imul, i_iand, i_ior, i_ixor, i_ishl, i_ishr, i_iushr, i_idiv, i_irem, i_ladd, i_lsub, i_lmul, i_land, i_lor, i_lxor, i_ldiv, i_lrem, i_lshl, i_lshr, i_lcmp, i_ineg, i_lneg, i_i2l, i_l2i, i_i2b, i_i2c, i_dup, i_pop, i_dup_x1, i_dup2, i_icmp_eq, i_icmp_lt, i_icmp_ge, i_icmp_gt, i_icmp_le, i_if_eq, i_if_lt, i_if_ge, i_if_gt, i_if_le, i_goto, i_ifnull, i_iald, i_bald, i_zald, i_lald, i_aald, i_iast, i_bast, i_zast, i_last, i_alen, i_iret, i_lret, i_aret, i_vret, i_oinit, i_cast, i_tsw, i_cases, i_mmin, i_mmax, i_lmin, i_throw, nb0, nb1, nint, nby0, rf_s, rf_n, of_r, of_n, tk_orf_rf, tk_c2, tk_ls, Value.category, tk_isR_ref, tk_isR_rf, tk_isR_null, z]
      exact ⟨hmc, hms, H V' hF hL hJ' _ _ _ hR⟩
    | succ q ih =>
      intro i V' ρ S R hi hR hF hL hJ'
      refine hE.2.2 _ _ _ _ _ ?_
      obtain ⟨h1, h2, h3⟩ := id hR.1.1
      have z : ¬ (4 : Int32) ≤ nI i := show ¬ nI 4 ≤ nI i from nI_ge (by omega) (by omega)
      have ek : nI i + 1 = nI (i + 1) := nI_add i 1
      have g1 : (ranksM td n rk i k0).2.1 ≤ (ranksM td n rk (i + 1) k0).2.1 := ranksM_ge td n rk k0 i 1
      have g2 : (ranksM td n rk (i + 1) k0).2.1 ≤ (ranksM td n rk 4 k0).2.1 := by
        have := ranksM_ge td n rk k0 (i + 1) (4 - (i + 1))
        rwa [show i + 1 + (4 - (i + 1)) = 4 by omega] at this
      have g0 : J.1 ≤ (ranksM td n rk i k0).2.1 := by
        have := ranksM_ge td n rk k0 0 i
        rw [Nat.zero_add] at this
        have e : (ranksM td n rk 0 k0).2.1 = J.1 := by rw [ranksM, hk2]
        omega
      have l0 := lv_mono (b := 600) g0
      have l1 := lv_mono (b := 600) g1
      have l2 := lv_mono (b := 600) g2
      simp -implicitDefEqProofs [t_X12_interest_46, i_aload, i_iload, i_lload, i_istore, i_lstore, i_astore, i_iinc, i_push, i_getI, i_getJ, i_getR, i_putI, i_putJ, i_putR, i_iadd, i_isub, i_imul, i_iand, i_ior, i_ixor, i_ishl, i_ishr, i_iushr, i_idiv, i_irem, i_ladd, i_lsub, i_lmul, i_land, i_lor, i_lxor, i_ldiv, i_lrem, i_lshl, i_lshr, i_lcmp, i_ineg, i_lneg, i_i2l, i_l2i, i_i2b, i_i2c, i_dup, i_pop, i_dup_x1, i_dup2, i_icmp_eq, i_icmp_lt, i_icmp_ge, i_icmp_gt, i_icmp_le, i_if_eq, i_if_lt, i_if_ge, i_if_gt, i_if_le, i_goto, i_ifnull, i_iald, i_bald, i_zald, i_lald, i_aald, i_iast, i_bast, i_zast, i_last, i_alen, i_iret, i_lret, i_aret, i_vret, i_oinit, i_cast, i_tsw, i_cases, i_mmin, i_mmax, i_lmin, i_throw, nb0, nb1, nint, nby0, rf_s, rf_n, of_r, of_n, tk_orf_rf, tk_c2, tk_ls, Value.category, tk_isR_ref, tk_isR_rf, tk_isR_null, h1, h2, z]
      refine ⟨by simp, h1, h2, by simp [Value.category], 2, 4 * (lv 600 (ranksM td n rk (i + 1) k0).2.1 - lv 600 (ranksM td n rk i k0).2.1), 80000 * (lv 600 (ranksM td n rk (i + 1) k0).2.1 - lv 600 (ranksM td n rk i k0).2.1), by omega, by omega, by omega, ?_⟩
      obtain ⟨k1, k2⟩ := hok i (by omega)
      refine r_rank (td := td) (n := n) (rk := rk) (r := nI i) (w := ranksM td n rk i k0) (Nat.le_refl 2) hR ((hF.1 61 (by decide)).trans h61) hn ((hF.2.1 57 (by decide)).trans h57) hL hJ' ((hF.1 32 (by decide)).trans h32) k1 k2 (Nat.le_trans g2 hJ) (Nat.le_refl _) (Nat.le_refl _) (fun V2 hF2 hL2 hJ2 => ?_)
      intro S' ρ' R' hR'
      have e1 : rankM td n rk (nI i) (ranksM td n rk i k0) = ranksM td n rk (i + 1) k0 := rfl
      rw [e1] at hL2 hJ2 hR'
      have c1 : 4 * (lv 600 (ranksM td n rk i k0).2.1 - lv 600 J.1) + 4 * (lv 600 (ranksM td n rk (i + 1) k0).2.1 - lv 600 (ranksM td n rk i k0).2.1) = 4 * (lv 600 (ranksM td n rk (i + 1) k0).2.1 - lv 600 J.1) := by omega
      have c2 : 80000 * (lv 600 (ranksM td n rk i k0).2.1 - lv 600 J.1) + 80000 * (lv 600 (ranksM td n rk (i + 1) k0).2.1 - lv 600 (ranksM td n rk i k0).2.1) = 80000 * (lv 600 (ranksM td n rk (i + 1) k0).2.1 - lv 600 J.1) := by omega
      rw [c1, c2]
      simp -implicitDefEqProofs [i_aload, i_iload, i_lload, i_istore, i_lstore, i_astore, i_iinc, i_push, i_getI, i_getJ, i_getR, i_putI, i_putJ, i_putR, i_iadd, i_isub, i_imul, i_iand, i_ior, i_ixor, i_ishl, i_ishr, i_iushr, i_idiv, i_irem, i_ladd, i_lsub, i_lmul, i_land, i_lor, i_lxor, i_ldiv, i_lrem, i_lshl, i_lshr, i_lcmp, i_ineg, i_lneg, i_i2l, i_l2i, i_i2b, i_i2c, i_dup, i_pop, i_dup_x1, i_dup2, i_icmp_eq, i_icmp_lt, i_icmp_ge, i_icmp_gt, i_icmp_le, i_if_eq, i_if_lt, i_if_ge, i_if_gt, i_if_le, i_goto, i_ifnull, i_iald, i_bald, i_zald, i_lald, i_aald, i_iast, i_bast, i_zast, i_last, i_alen, i_iret, i_lret, i_aret, i_vret, i_oinit, i_cast, i_tsw, i_cases, i_mmin, i_mmax, i_lmin, i_throw, nb0, nb1, nint, nby0, rf_s, rf_n, of_r, of_n, tk_orf_rf, tk_c2, tk_ls, Value.category, tk_isR_ref, tk_isR_rf, tk_isR_null, ek]
      exact ih (i + 1) V2 ρ' S' R' (by omega) hR' (hF.trans hF2) hL2 hJ2
  have loop1 : ∀ q i ρ S R, q + i = n → RS B m ρ S (rLk cc (cp 600 J.1)) R (wL V 58 (growM su ra i du)) → E 2 [some (.ref m), some (.int (nI i))] [] S 0 0 := by
    intro q
    induction q with
    | zero =>
      intro i ρ S R hi hR
      refine hE.2.1 _ _ _ _ _ ?_
      obtain ⟨h1, h2, h3⟩ := id hR.1.1
      have e61 : q_I S 13 61 m = nI n := (hR.2.1.1 61).trans h61
      have z : nI n ≤ nI i := nI_le (by omega) (by omega)
      have hin : i = n := by omega
      simp -implicitDefEqProofs [t_X12_interest_2, i_aload, i_iload, i_lload, i_istore, i_lstore, i_astore, i_iinc, i_push, i_getI, i_getJ, i_getR, i_putI, i_putJ, i_putR, i_iadd, i_isub, i_imul, i_iand, i_ior, i_ixor, i_ishl, i_ishr, i_iushr, i_idiv, i_irem, i_ladd, i_lsub, i_lmul, i_land, i_lor, i_lxor, i_ldiv, i_lrem, i_lshl, i_lshr, i_lcmp, i_ineg, i_lneg, i_i2l, i_l2i, i_i2b, i_i2c, i_dup, i_pop, i_dup_x1, i_dup2, i_icmp_eq, i_icmp_lt, i_icmp_ge, i_icmp_gt, i_icmp_le, i_if_eq, i_if_lt, i_if_ge, i_if_gt, i_if_le, i_goto, i_ifnull, i_iald, i_bald, i_zald, i_lald, i_aald, i_iast, i_bast, i_zast, i_last, i_alen, i_iret, i_lret, i_aret, i_vret, i_oinit, i_cast, i_tsw, i_cases, i_mmin, i_mmax, i_lmin, i_throw, nb0, nb1, nint, nby0, rf_s, rf_n, of_r, of_n, tk_orf_rf, tk_c2, tk_ls, Value.category, tk_isR_ref, tk_isR_rf, tk_isR_null, h1, h2, e61, z]
      have e0 : ranksM td n rk 0 k0 = k0 := rfl
      have g := loop2 4 0 (wL V 58 (growM su ra i du)) ρ S R (by omega) (by rw [e0, hk2]; exact hR) (iF.l (by omega)) (by rw [e0, ← hk0, hin]; rfl) (by rw [e0, hk2]; exact hJn)
      rw [e0, hk2, Nat.sub_self, Nat.mul_zero, nI_0] at g
      exact g
    | succ q ih =>
      intro i ρ S R hi hR
      refine hE.2.1 _ _ _ _ _ ?_
      obtain ⟨h1, h2, h3⟩ := id hR.1.1
      have e61 : q_I S 13 61 m = nI n := (hR.2.1.1 61).trans h61
      have z : ¬ nI n ≤ nI i := nI_ge (by omega) (by omega)
      have ek : nI i + 1 = nI (i + 1) := nI_add i 1
      have hin : vp_in (nI i) 10 := vp_in_nI (by omega) (by omega)
      have ci : (nI i).toNatClampNeg = i := nI_clamp (by omega)
      obtain ⟨a55, b55, c55, d55, -⟩ := hR.1.2 55 _ _ rfl
      have x55 := hR.2.1.2.2.1 55 _ _ rfl (by decide)
      obtain ⟨a56, b56, c56, d56, -⟩ := hR.1.2 56 _ _ rfl
      have x56 := hR.2.1.2.2.1 56 _ _ rfl (by decide)
      obtain ⟨a58, b58, c58, d58, -⟩ := hR.1.2 58 _ _ rfl
      have x58 := hR.2.1.2.2.2 58 _ rfl
      have x55 : q_aI S (R 55) = su := x55.trans h55
      have x56 : q_aI S (R 56) = ra := x56.trans h56
      have x58 : q_aJ S (R 58) = growM su ra i du := x58
      simp -implicitDefEqProofs [t_X12_interest_2, i_aload, i_iload, i_lload, i_istore, i_lstore, i_astore, i_iinc, i_push, i_getI, i_getJ, i_getR, i_putI, i_putJ, i_putR, i_iadd, i_isub, i_imul, i_iand, i_ior, i_ixor, i_ishl, i_ishr, i_iushr, i_idiv, i_irem, i_ladd, i_lsub, i_lmul, i_land, i_lor, i_lxor, i_ldiv, i_lrem, i_lshl, i_lshr, i_lcmp, i_ineg, i_lneg, i_i2l, i_l2i, i_i2b, i_i2c, i_dup, i_pop, i_dup_x1, i_dup2, i_icmp_eq, i_icmp_lt, i_icmp_ge, i_icmp_gt, i_icmp_le, i_if_eq, i_if_lt, i_if_ge, i_if_gt, i_if_le, i_goto, i_ifnull, i_iald, i_bald, i_zald, i_lald, i_aald, i_iast, i_bast, i_zast, i_last, i_alen, i_iret, i_lret, i_aret, i_vret, i_oinit, i_cast, i_tsw, i_cases, i_mmin, i_mmax, i_lmin, i_throw, nb0, nb1, nint, nby0, rf_s, rf_n, of_r, of_n, tk_orf_rf, tk_c2, tk_ls, Value.category, tk_isR_ref, tk_isR_rf, tk_isR_null, h1, h2, e61, z, a55, b55, c55, d55, x55, a56, b56, c56, d56, x56, a58, b58, c58, d58, x58, hin, ci, ek]
      exact ih (i + 1) ρ _ R (by omega) (RS.cast (hR.iL (k := 58) rfl (growM su ra (i + 1) du)) (by rw [wL_wL]))
  simp -implicitDefEqProofs [t_X12_interest_0, i_aload, i_iload, i_lload, i_istore, i_lstore, i_astore, i_iinc, i_push, i_getI, i_getJ, i_getR, i_putI, i_putJ, i_putR, i_iadd, i_isub, i_imul, i_iand, i_ior, i_ixor, i_ishl, i_ishr, i_iushr, i_idiv, i_irem, i_ladd, i_lsub, i_lmul, i_land, i_lor, i_lxor, i_ldiv, i_lrem, i_lshl, i_lshr, i_lcmp, i_ineg, i_lneg, i_i2l, i_l2i, i_i2b, i_i2c, i_dup, i_pop, i_dup_x1, i_dup2, i_icmp_eq, i_icmp_lt, i_icmp_ge, i_icmp_gt, i_icmp_le, i_if_eq, i_if_lt, i_if_ge, i_if_gt, i_if_le, i_goto, i_ifnull, i_iald, i_bald, i_zald, i_lald, i_aald, i_iast, i_bast, i_zast, i_last, i_alen, i_iret, i_lret, i_aret, i_vret, i_oinit, i_cast, i_tsw, i_cases, i_mmin, i_mmax, i_lmin, i_throw, nb0, nb1, nint, nby0, rf_s, rf_n, of_r, of_n, tk_orf_rf, tk_c2, tk_ls, Value.category, tk_isR_ref, tk_isR_rf, tk_isR_null]
  refine loop1 n 0 ρ S R (by omega) (RS.cast hR ?_)
  refine vR_ext (fun _ => rfl) rfl (fun _ => rfl) (fun t => ?_)
  rw [vL_wL]
  split
  · rename_i h
    rw [h, h58]
    rfl
  · rfl
/-- what a day asks of the numbers, for the reference -/
def rdOK (M : Mt) : Prop := (∀ i, M.2.2.2.1.2.2.2.2.2.2.2.1 i ≤ 1000) ∧ (∀ i, M.2.2.2.1.2.2.2.2.2.2.1 i ≤ 10090) ∧ (dayM M).2.2.2.2.2.2.2.1.1 < 12000 ∧ ((M.2.2.2.2.2.2.2.2.1 + 1) % 365 = 0 → ∀ r, r < 4 → rkOK (M.2.2.2.2.2.2.2.2.1 + 1) M.2.2.2.2.2.2.1.1 M.2.2.2.2.2.2.1.2.2.2.1 (nI r) (ranksM (M.2.2.2.2.2.2.2.2.1 + 1) M.2.2.2.2.2.2.1.1 M.2.2.2.2.2.2.1.2.2.2.1 r (growM M.2.2.2.2.2.2.1.2.1 M.2.2.2.2.2.2.1.2.2.1 M.2.2.2.2.2.2.1.1 M.2.2.2.2.2.2.1.2.2.2.2, M.2.2.2.2.2.2.2.1)))
end RWAIT

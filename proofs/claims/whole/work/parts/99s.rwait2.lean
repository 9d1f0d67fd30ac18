/-! THE REFERENCE'S CALLS: wait -/
section RWAIT2
variable {Z : tk_Z} {d mc ms : Nat} {QR : tk_R} {m hw k : Nat} {B : bS} {V V1 V2 : vR} {ρ : Nat → Nat} {S : tk_S} {R : Nat → Nat} {M : Mt}
theorem keepM_ls {td : Nat} {re su : Nat → Int32} {i f : Nat} {w : mK} {g f' : Nat} (h : (keepM td re su i f w).2.1 g = some f') : w.2.1 g = some f' := by
  unfold keepM at h
  split at h
  · replace h : va_up w.2.1 i none g = some f' := h
    by_cases hg : g = i
    · subst hg; rw [va_up_self] at h; cases h
    · rw [va_up_ne _ _ hg] at h; exact h
  · split at h
    · replace h : va_up w.2.1 i none g = some f' := h
      by_cases hg : g = i
      · subst hg; rw [va_up_self] at h; cases h
      · rw [va_up_ne _ _ hg] at h; exact h
    · exact h
theorem keepM_lei {td : Nat} {re su : Nat → Int32} {i f : Nat} {w : mK} (g : Nat) : (keepM td re su i f w).2.2.2.1 g ≤ w.2.2.2.1 g := by
  unfold keepM
  split
  · exact Nat.le_refl _
  · split
    · exact Nat.le_refl _
    · by_cases hg : g = i
      · subst hg
        show va_up w.2.2.2.1 g (w.2.2.2.1 g - 1) g ≤ _
        rw [va_up_self]
        omega
      · show va_up w.2.2.2.1 i (w.2.2.2.1 i - 1) g ≤ _
        rw [va_up_ne _ _ hg]
        exact Nat.le_refl _
theorem keepM_duo {td : Nat} {re su : Nat → Int32} {i f : Nat} {w : mK} {g : Nat} (hg : g ≠ i) : (keepM td re su i f w).2.2.1 g = w.2.2.1 g := by
  unfold keepM
  split
  · rfl
  · split
    · rfl
    · show va_up w.2.2.1 i (w.2.2.1 i + 91) g = _
      rw [va_up_ne _ _ hg]
set_option maxHeartbeats 16000000 in
theorem r_day {E : tk_E} {cs0 ss0 j : Nat} {n0 b : Int32} {x3 : Option Value} (hE77 : ∀ ls st S cs ss, t_X12_wait_77 Z d mc ms QR E ls st S cs ss → E 77 ls st S cs ss) (hE98 : ∀ ls st S cs ss, t_X12_wait_98 Z d mc ms QR E ls st S cs ss → E 98 ls st S cs ss)
    (hd : 4 ≤ d) (hR : RS B m ρ S (rLk (cp 400 hw) (cp 600 M.2.2.2.2.2.2.2.1.1)) R V) (hI : RI V k M) (hB : BD M) (hok : rdOK M) (h0 : vI V 0 = 0) (htd : M.2.2.2.2.2.2.2.2.1 ≤ 9998) (hb : nI (M.2.2.2.2.2.2.2.2.2.1 - M.2.2.2.2.2.2.2.2.1) - b = nI (M.2.2.2.2.2.2.2.2.2.1 - (M.2.2.2.2.2.2.2.2.1 + 1)))
    (hmc : cs0 + 4 * (lv 600 (dayM M).2.2.2.2.2.2.2.1.1 - lv 600 M.2.2.2.2.2.2.2.1.1) ≤ mc) (hms : ss0 + 80000 * (lv 600 (dayM M).2.2.2.2.2.2.2.1.1 - lv 600 M.2.2.2.2.2.2.2.1.1) ≤ ms)
    (H : ∀ V' ρ' S' R' x3, RS B m ρ' S' (rLk (cp 400 hw) (cp 600 (dayM M).2.2.2.2.2.2.2.1.1)) R' V' → RI V' k (dayM M) → vI V' 0 = 0 → E 45 [some (.ref m), some (.int n0), some (.int (nI (j + 1))), x3] [] S' (cs0 + 4 * (lv 600 (dayM M).2.2.2.2.2.2.2.1.1 - lv 600 M.2.2.2.2.2.2.2.1.1)) (ss0 + 80000 * (lv 600 (dayM M).2.2.2.2.2.2.2.1.1 - lv 600 M.2.2.2.2.2.2.2.1.1))) :
    E 77 [some (.ref m), some (.int n0), some (.int (nI j)), x3] [.int b, .int (nI (M.2.2.2.2.2.2.2.2.2.1 - M.2.2.2.2.2.2.2.2.1)), .ref m] (s_I S 13 32 m (nI (M.2.2.2.2.2.2.2.2.1 + 1))) cs0 ss0 := by
  obtain ⟨k1, k2, k3, k4⟩ := hok
  generalize hN : dayM M = N at *
  have hN0 := hN
  obtain ⟨⟨tn, tg, tp⟩, acts, ⟨nS, pr, wo⟩, ⟨nG, os, ps, ls, re, su, du, le, nb, bf, br, bs⟩, ⟨nV, kd, wh, be, bi, pa, pd, la⟩, ⟨nF, mo⟩, ⟨nL, lsu, lra, lrk, ldu⟩, ⟨jn, jb, jd, jk, jw, js, jh⟩, ⟨td, dry, lc⟩⟩ := M
  dsimp only at hR hmc hms htd hb k1 k2 k3 k4 H ⊢
  obtain ⟨rT0, rA0, rS0, rG0, rV0, rF0, rL0, rJ0, rD0⟩ := id hI
  obtain ⟨b1, b2, b3, b4, b5, b6, b7, b8, b9, b10, b11⟩ := hB
  obtain ⟨h1, h2, h3⟩ := id hR.1.1
  obtain ⟨g1, g2, g3, g4⟩ := rG0
  obtain ⟨l1, l2, l3, l4, l5⟩ := rL0
  unfold dayM at hN
  dsimp only at hN
  have hmv : movN ((tn, tg, tp), acts, (nS, pr, wo), (nG, os, ps, ls, re, su, du, le, nb, bf, br, bs), (nV, kd, wh, be, bi, pa, pd, la), (nF, mo), (nL, lsu, lra, lrk, ldu), (jn, jb, jd, jk, jw, js, jh), (td, dry, lc)) = moveM (td + 1) nG nL re su lsu lra lrk (ldu, mo, ls, du, le, (jn, jb, jd, jk, jw, js, jh)) := rfl
  rw [hmv] at hN
  have hR1 := (hR.iI 32 (nI (td + 1))).iI 33 (nI (dry - (td + 1)))
  generalize hV0 : wI (wI V 32 (nI (td + 1))) 33 (nI (dry - (td + 1))) = V0 at hR1
  have i0 : ∀ i, i ≠ 32 → i ≠ 33 → vI V0 i = vI V i := fun i a b => by rw [← hV0]; simp [vI_wI, a, b]
  have a0 : vA V0 = vA V := by rw [← hV0]; rfl
  have l0 : vL V0 = vL V := by rw [← hV0]; rfl
  have j0 : vJ V0 = vJ V := by rw [← hV0]; rfl
  have i32 : vI V0 32 = nI (td + 1) := by rw [← hV0]; rfl
  have i33 : vI V0 33 = nI (dry - (td + 1)) := by rw [← hV0]; rfl
  have jn0 : rJn V0 (jn, jb, jd, jk, jw, js, jh) := rJn.kp rJ0 (i0 42 (by decide) (by decide)) j0 (fun i _ _ => by rw [a0])
  -- behind the interest
  have at98 : ∀ ldu1 J1 V1 ρ S R, RS B m ρ S (rLk (cp 400 hw) (cp 600 J1.1)) R V1 → iF V0 V1 → vL V1 58 = ldu1 → rJn V1 J1 → jn ≤ J1.1 → moveM (td + 1) nG nL re su lsu lra lrk (ldu, mo, ls, du, le, (jn, jb, jd, jk, jw, js, jh)) = (ldu1, gatesM (td + 1) re su nG 0 (mo, ls, du, le, J1)) → E 98 [some (.ref m), some (.int n0), some (.int (nI j)), some (.int 0)] [] S (cs0 + 4 * (lv 600 J1.1 - lv 600 jn)) (ss0 + 80000 * (lv 600 J1.1 - lv 600 jn)) := by
    intro ldu1 J1 V1 ρ S R hR hF h58 hJ1 hjn hmov
    rw [hmov] at hN
    generalize hfin : gatesM (td + 1) re su nG 0 (mo, ls, du, le, J1) = fin at *
    dsimp only at hN
    have hNJ : N.2.2.2.2.2.2.2.1 = fin.2.2.2.2 := by rw [← hN]
    rw [hNJ] at hmc hms H k3
    have loop : ∀ q g (w : mK) V2 ρ S R, q + g = nG → RS B m ρ S (rLk (cp 400 hw) (cp 600 w.2.2.2.2.1)) R V2 → kF V1 V2 → rKp V2 nG re su nG w → (∀ i, w.2.2.2.1 i ≤ 1000) → (∀ i, g ≤ i → w.2.2.1 i ≤ 10090) → (∀ i f, i < nG → w.2.1 i = some f → f < 8) → jn ≤ w.2.2.2.2.1 → gatesM (td + 1) re su q g w = fin → E 98 [some (.ref m), some (.int n0), some (.int (nI j)), some (.int (nI g))] [] S (cs0 + 4 * (lv 600 w.2.2.2.2.1 - lv 600 jn)) (ss0 + 80000 * (lv 600 w.2.2.2.2.1 - lv 600 jn)) := by
      intro q
      induction q with
      | zero =>
        intro g w V2 ρ S R hg hR hK hP hle hdu hlf hjw hgm
        refine hE98 _ _ _ _ _ ?_
        obtain ⟨h1, h2, h3⟩ := id hR.1.1
        have e31 : q_I S 13 31 m = nI nG := ((((hR.2.1.1 31).trans (hK.1 31 (by decide))).trans (hF.1 31 (by decide))).trans (i0 31 (by decide) (by decide))).trans g1
        have z : nI nG ≤ nI g := nI_le (by omega) (by omega)
        have ek : nI j + 1 = nI (j + 1) := nI_add j 1
        rw [gatesM] at hgm
        subst hgm
        simp -implicitDefEqProofs [t_X12_wait_98, i_aload, i_iload, i_lload, i_istore, i_lstore, i_astore, i_iinc, i_push, i_getI, i_getJ, i_getR, i_putI, i_putJ, i_putR, i_iadd, i_isub, i_imul, i_iand, i_ior, i_ixor, i_ishl, i_ishr, i_iushr, i_idiv, i_irem, i_ladd, i_lsub, i_lmul, i_land, i_lor, i_lxor, i_ldiv, i_lrem, i_lshl, i_lshr, i_lcmp, i_ineg, i_lneg, i_i2l, i_l2i, i_i2b, i_i2c, i_dup, i_pop, i_dup_x1, i_dup2, i_icmp_eq, i_icmp_lt, i_icmp_ge, i_icmp_gt, i_icmp_le, i_if_eq, i_if_lt, i_if_ge, i_if_gt, i_if_le, i_goto, i_ifnull, i_iald, i_bald, i_zald, i_lald, i_aald, i_iast, i_bast, i_zast, i_last, i_alen, i_iret, i_lret, i_aret, i_vret, i_oinit, i_cast, i_tsw, i_cases, i_mmin, i_mmax, i_lmin, i_throw, nb0, nb1, nint, nby0, rf_s, rf_n, of_r, of_n, tk_orf_rf, tk_c2, tk_ls, Value.category, tk_isR_ref, tk_isR_rf, tk_isR_null, h1, h2, e31, z, ek]
        refine H V2 ρ S R _ hR ?_ ?_
        · rw [← hN]
          have ii : ∀ i, i ≠ 42 → i ≠ 32 → i ≠ 33 → vI V2 i = vI V i := fun i a b c => ((hK.1 i a).trans (hF.1 i a)).trans (i0 i b c)
          have aa : ∀ i, (i < 38 ∨ 41 < i) → i ≠ 50 → i ≠ 53 → i ≠ 54 → vA V2 i = vA V i := fun i a b c e => ((hK.2.1 i a b c e).trans (hF.2.1 i a)).trans (congrFun a0 i)
          have l6 : ∀ i, i ≠ 44 → (i < 58 ∨ 60 < i) → vL V2 i = vL V i := fun i a b => ((hK.2.2 i a).trans (hF.2.2 i b)).trans (congrFun l0 i)
          obtain ⟨p1, p2, p3⟩ := hP
          refine ⟨⟨(ii 2 (by decide) (by decide) (by decide)).trans rT0.1, (aa 1 (by decide) (by decide) (by decide) (by decide)).trans rT0.2.1, (ii 6 (by decide) (by decide) (by decide)).trans rT0.2.2⟩, ?_, ⟨(ii 28 (by decide) (by decide) (by decide)).trans rS0.1, (aa 26 (by decide) (by decide) (by decide) (by decide)).trans rS0.2.1, (l6 27 (by decide) (by decide)).trans rS0.2.2⟩, ?_, ?_, ⟨(ii 45 (by decide) (by decide) (by decide)).trans rF0.1, p1⟩, ⟨(ii 61 (by decide) (by decide) (by decide)).trans l1, (aa 55 (by decide) (by decide) (by decide) (by decide)).trans l2, (aa 56 (by decide) (by decide) (by decide) (by decide)).trans l3, (aa 57 (by decide) (by decide) (by decide) (by decide)).trans l4, (hK.2.2 58 (by decide)).trans h58⟩, p3, ⟨((hK.1 32 (by decide)).trans (hF.1 32 (by decide))).trans i32, ((hK.1 33 (by decide)).trans (hF.1 33 (by decide))).trans i33, (ii 37 (by decide) (by decide) (by decide)).trans rD0.2.2⟩⟩
          · obtain ⟨a1, a2, a3, a4⟩ := rA0
            refine ⟨(ii 18 (by decide) (by decide) (by decide)).trans a1, a2, (ii 17 (by decide) (by decide) (by decide)).trans a3, fun a A hA => ?_⟩
            obtain ⟨w1, w2, w3, w4⟩ := a4 a A hA
            have w4' : acV V k (40 * a) A.2 := w4
            exact ⟨by rw [aa 9 (by decide) (by decide) (by decide) (by decide)]; exact w1, by rw [aa 8 (by decide) (by decide) (by decide) (by decide)]; exact w2, w3, w4'.ext (fun i hi => aa i (by omega) (by omega) (by omega) (by omega))⟩
          · refine ⟨(ii 31 (by decide) (by decide) (by decide)).trans g1, (aa 30 (by decide) (by decide) (by decide) (by decide)).trans g2, fun g => by rw [aa 46 (by decide) (by decide) (by decide) (by decide)]; exact g3 g, fun g hg => ?_⟩
            obtain ⟨z1, z2, z3, z4⟩ := g4 g hg
            obtain ⟨t1, t2⟩ := p2 g hg
            rw [aa 29 (by decide) (by decide) (by decide) (by decide), aa 47 (by decide) (by decide) (by decide) (by decide), aa 48 (by decide) (by decide) (by decide) (by decide), aa 49 (by decide) (by decide) (by decide) (by decide)]
            refine ⟨z1, z2, t1, fun f hf => ?_⟩
            obtain ⟨u1, u2, u3, u4, u5⟩ := t2 f hf
            exact ⟨u1, u2, u3, u4 (by have : g < nG := hg; omega), u5⟩
          · obtain ⟨v1, v2, v3, v4, v5, v6, v7, v8⟩ := rV0
            have a23 := aa 23 (by decide) (by decide) (by decide) (by decide)
            have a24 := aa 24 (by decide) (by decide) (by decide) (by decide)
            exact ⟨(ii 25 (by decide) (by decide) (by decide)).trans v1, v2, (aa 19 (by decide) (by decide) (by decide) (by decide)).trans v3, (aa 20 (by decide) (by decide) (by decide) (by decide)).trans v4, (aa 21 (by decide) (by decide) (by decide) (by decide)).trans v5, (aa 22 (by decide) (by decide) (by decide) (by decide)).trans v6, by rw [a23, a24]; exact v7, v8⟩
        · exact (((hK.1 0 (by decide)).trans (hF.1 0 (by decide))).trans (i0 0 (by decide) (by decide))).trans h0
      | succ q ih =>
        intro g w V2 ρ S R hg hR hK hP hle hdu hlf hjw hgm
        refine hE98 _ _ _ _ _ ?_
        obtain ⟨h1, h2, h3⟩ := id hR.1.1
        have e31 : q_I S 13 31 m = nI nG := ((((hR.2.1.1 31).trans (hK.1 31 (by decide))).trans (hF.1 31 (by decide))).trans (i0 31 (by decide) (by decide))).trans g1
        have v32 : vI V2 32 = nI (td + 1) := ((hK.1 32 (by decide)).trans (hF.1 32 (by decide))).trans i32
        have e32 : q_I S 13 32 m = nI (td + 1) := (hR.2.1.1 32).trans v32
        have z : ¬ nI nG ≤ nI g := nI_ge (by omega) (by omega)
        have ek : nI g + 1 = nI (g + 1) := nI_add g 1
        have hin : vp_in (nI g) 8 := vp_in_nI (by omega) (by omega)
        have cg : (nI g).toNatClampNeg = g := nI_clamp (by omega)
        have hgG : g < nG := by omega
        obtain ⟨p1, p2, p3⟩ := id hP
        obtain ⟨t1, t2⟩ := p2 g hgG
        rw [gatesM] at hgm
        obtain ⟨a50, b50, c50, d50, -⟩ := hR.1.2 50 _ _ rfl
        have x50 := hR.2.1.2.2.1 50 _ _ rfl (by decide)
        obtain ⟨a53, b53, c53, d53, -⟩ := hR.1.2 53 _ _ rfl
        have x53 := hR.2.1.2.2.1 53 _ _ rfl (by decide)
        rcases hls : w.2.1 g with _ | f
        · have hgw : gateM (td + 1) re su g w = w := by unfold gateM; rw [hls]
          rw [hgw] at hgm
          have k6 := t1 hls
          have z6 : (-1 : Int32) < 0 := by decide
          simp -implicitDefEqProofs [t_X12_wait_98, i_aload, i_iload, i_lload, i_istore, i_lstore, i_astore, i_iinc, i_push, i_getI, i_getJ, i_getR, i_putI, i_putJ, i_putR, i_iadd, i_isub, i_imul, i_iand, i_ior, i_ixor, i_ishl, i_ishr, i_iushr, i_idiv, i_irem, i_ladd, i_lsub, i_lmul, i_land, i_lor, i_lxor, i_ldiv, i_lrem, i_lshl, i_lshr, i_lcmp, i_ineg, i_lneg, i_i2l, i_l2i, i_i2b, i_i2c, i_dup, i_pop, i_dup_x1, i_dup2, i_icmp_eq, i_icmp_lt, i_icmp_ge, i_icmp_gt, i_icmp_le, i_if_eq, i_if_lt, i_if_ge, i_if_gt, i_if_le, i_goto, i_ifnull, i_iald, i_bald, i_zald, i_lald, i_aald, i_iast, i_bast, i_zast, i_last, i_alen, i_iret, i_lret, i_aret, i_vret, i_oinit, i_cast, i_tsw, i_cases, i_mmin, i_mmax, i_lmin, i_throw, nb0, nb1, nint, nby0, rf_s, rf_n, of_r, of_n, tk_orf_rf, tk_c2, tk_ls, Value.category, tk_isR_ref, tk_isR_rf, tk_isR_null, h1, h2, e31, z, a50, b50, c50, d50, x50, hin, cg, k6, z6, ek]
          exact ih (g + 1) w V2 ρ S R (by omega) hR hK hP hle (fun i hi => hdu i (by omega)) hlf hjw hgm
        · obtain ⟨u1, u2, u3, u4, u5⟩ := t2 f hls
          have hf8 : f < 8 := hlf g f hgG hls
          have u4 := u4 (by omega)
          have z6 : ¬ nI f < 0 := nI_pos (by omega)
          have hd1 := hdu g (Nat.le_refl g)
          have hde : nI (w.2.2.1 g) = nI (td + 1) ↔ w.2.2.1 g = td + 1 := nI_eq (by omega) (by omega)
          by_cases hdd : w.2.2.1 g = td + 1
          · have hgw : gateM (td + 1) re su g w = keepM (td + 1) re su g f w := by unfold gateM; rw [hls]; dsimp only; rw [if_pos hdd]
            rw [hgw] at hgm
            have hde1 := hde.mpr hdd
            have y1 := (keepM_ge (td + 1) re su g f w).1
            have y2 : (keepM (td + 1) re su g f w).2.2.2.2.1 ≤ fin.2.2.2.2.1 := by rw [← hgm]; exact gatesM_ge (td + 1) re su q (g + 1) _
            have x1 := lv_mono (b := 600) y1
            have x2 := lv_mono (b := 600) y2
            have x3 := lv_mono (b := 600) hjw
            simp -implicitDefEqProofs [t_X12_wait_98, i_aload, i_iload, i_lload, i_istore, i_lstore, i_astore, i_iinc, i_push, i_getI, i_getJ, i_getR, i_putI, i_putJ, i_putR, i_iadd, i_isub, i_imul, i_iand, i_ior, i_ixor, i_ishl, i_ishr, i_iushr, i_idiv, i_irem, i_ladd, i_lsub, i_lmul, i_land, i_lor, i_lxor, i_ldiv, i_lrem, i_lshl, i_lshr, i_lcmp, i_ineg, i_lneg, i_i2l, i_l2i, i_i2b, i_i2c, i_dup, i_pop, i_dup_x1, i_dup2, i_icmp_eq, i_icmp_lt, i_icmp_ge, i_icmp_gt, i_icmp_le, i_if_eq, i_if_lt, i_if_ge, i_if_gt, i_if_le, i_goto, i_ifnull, i_iald, i_bald, i_zald, i_lald, i_aald, i_iast, i_bast, i_zast, i_last, i_alen, i_iret, i_lret, i_aret, i_vret, i_oinit, i_cast, i_tsw, i_cases, i_mmin, i_mmax, i_lmin, i_throw, nb0, nb1, nint, nby0, rf_s, rf_n, of_r, of_n, tk_orf_rf, tk_c2, tk_ls, Value.category, tk_isR_ref, tk_isR_rf, tk_isR_null, h1, h2, e31, e32, z, a50, b50, c50, d50, x50, a53, b53, c53, d53, x53, hin, cg, u1, u4, z6, hde1]
            refine ⟨by simp, h1, h2, by simp [Value.category], 2, 4 * (lv 600 (keepM (td + 1) re su g f w).2.2.2.2.1 - lv 600 w.2.2.2.2.1), 80000 * (lv 600 (keepM (td + 1) re su g f w).2.2.2.2.1 - lv 600 w.2.2.2.2.1), by omega, by omega, by omega, ?_⟩
            refine r_rentDue (td := td + 1) (n := nG) (g := g) (f := f) (re := re) (su := su) (w := w) (Nat.le_refl 2) hR ⟨p1, fun g' hg' => ?_, p3⟩ b5 hgG hls hf8 hdd v32 (hle g) (by omega) (Nat.le_refl _) (Nat.le_refl _) (fun V3 hK3 hP3 => ?_)
            · obtain ⟨s1, s2⟩ := p2 g' hg'
              refine ⟨s1, fun f' hf' => ?_⟩
              obtain ⟨s3, s4, s5, s6, s7⟩ := s2 f' hf'
              exact ⟨s3, s4, s5, fun _ => s6 (by omega), s7⟩
            · intro S' ρ' R' hR'
              generalize hkw : keepM (td + 1) re su g f w = w' at *
              have c1 : cs0 + 4 * (lv 600 w.2.2.2.2.1 - lv 600 jn) + 4 * (lv 600 w'.2.2.2.2.1 - lv 600 w.2.2.2.2.1) = cs0 + 4 * (lv 600 w'.2.2.2.2.1 - lv 600 jn) := by omega
              have c2 : ss0 + 80000 * (lv 600 w.2.2.2.2.1 - lv 600 jn) + 80000 * (lv 600 w'.2.2.2.2.1 - lv 600 w.2.2.2.2.1) = ss0 + 80000 * (lv 600 w'.2.2.2.2.1 - lv 600 jn) := by omega
              rw [c1, c2]
              simp -implicitDefEqProofs [i_aload, i_iload, i_lload, i_istore, i_lstore, i_astore, i_iinc, i_push, i_getI, i_getJ, i_getR, i_putI, i_putJ, i_putR, i_iadd, i_isub, i_imul, i_iand, i_ior, i_ixor, i_ishl, i_ishr, i_iushr, i_idiv, i_irem, i_ladd, i_lsub, i_lmul, i_land, i_lor, i_lxor, i_ldiv, i_lrem, i_lshl, i_lshr, i_lcmp, i_ineg, i_lneg, i_i2l, i_l2i, i_i2b, i_i2c, i_dup, i_pop, i_dup_x1, i_dup2, i_icmp_eq, i_icmp_lt, i_icmp_ge, i_icmp_gt, i_icmp_le, i_if_eq, i_if_lt, i_if_ge, i_if_gt, i_if_le, i_goto, i_ifnull, i_iald, i_bald, i_zald, i_lald, i_aald, i_iast, i_bast, i_zast, i_last, i_alen, i_iret, i_lret, i_aret, i_vret, i_oinit, i_cast, i_tsw, i_cases, i_mmin, i_mmax, i_lmin, i_throw, nb0, nb1, nint, nby0, rf_s, rf_n, of_r, of_n, tk_orf_rf, tk_c2, tk_ls, Value.category, tk_isR_ref, tk_isR_rf, tk_isR_null, ek]
              refine ih (g + 1) w' V3 ρ' S' R' (by omega) hR' (hK.trans hK3) hP3 (fun i => ?_) (fun i hi => ?_) (fun i f' hi hf' => ?_) (by omega) hgm
              · rw [← hkw]
                exact Nat.le_trans (keepM_lei i) (hle i)
              · rw [← hkw, keepM_duo (by omega)]
                exact hdu i (by omega)
              · rw [← hkw] at hf'
                exact hlf i f' hi (keepM_ls hf')
          · have hgw : gateM (td + 1) re su g w = w := by unfold gateM; rw [hls]; dsimp only; rw [if_neg hdd]
            rw [hgw] at hgm
            have hde1 : ¬ nI (w.2.2.1 g) = nI (td + 1) := fun q => hdd (hde.mp q)
            simp -implicitDefEqProofs [t_X12_wait_98, i_aload, i_iload, i_lload, i_istore, i_lstore, i_astore, i_iinc, i_push, i_getI, i_getJ, i_getR, i_putI, i_putJ, i_putR, i_iadd, i_isub, i_imul, i_iand, i_ior, i_ixor, i_ishl, i_ishr, i_iushr, i_idiv, i_irem, i_ladd, i_lsub, i_lmul, i_land, i_lor, i_lxor, i_ldiv, i_lrem, i_lshl, i_lshr, i_lcmp, i_ineg, i_lneg, i_i2l, i_l2i, i_i2b, i_i2c, i_dup, i_pop, i_dup_x1, i_dup2, i_icmp_eq, i_icmp_lt, i_icmp_ge, i_icmp_gt, i_icmp_le, i_if_eq, i_if_lt, i_if_ge, i_if_gt, i_if_le, i_goto, i_ifnull, i_iald, i_bald, i_zald, i_lald, i_aald, i_iast, i_bast, i_zast, i_last, i_alen, i_iret, i_lret, i_aret, i_vret, i_oinit, i_cast, i_tsw, i_cases, i_mmin, i_mmax, i_lmin, i_throw, nb0, nb1, nint, nby0, rf_s, rf_n, of_r, of_n, tk_orf_rf, tk_c2, tk_ls, Value.category, tk_isR_ref, tk_isR_rf, tk_isR_null, h1, h2, e31, e32, z, a50, b50, c50, d50, x50, a53, b53, c53, d53, x53, hin, cg, u1, u4, z6, hde1, ek]
            exact ih (g + 1) w V2 ρ S R (by omega) hR hK hP hle (fun i hi => hdu i (by omega)) hlf hjw hgm
    refine loop nG 0 (mo, ls, du, le, J1) V1 ρ S R (by omega) hR kF.rfl' ⟨((hF.2.2 44 (by decide)).trans (congrFun l0 44)).trans rF0.2, fun g hg => ?_, hJ1⟩ k1 (fun i _ => k2 i) (fun i f hi hf => ?_) hjn hfin
    · obtain ⟨-, -, z3, z4⟩ := g4 g hg
      have aa : ∀ i, (i < 38 ∨ 41 < i) → vA V1 i = vA V i := fun i a => (hF.2.1 i a).trans (congrFun a0 i)
      rw [aa 50 (by decide), aa 51 (by decide), aa 52 (by decide), aa 53 (by decide), aa 54 (by decide)]
      refine ⟨z3, fun f hf => ?_⟩
      obtain ⟨u1, u2, u3, u4, u5⟩ := z4 f hf
      exact ⟨u1, u2, u3, fun _ => u4, u5⟩
    · have := (b6 i hi).2.2.2 f hf
      omega
  refine hE77 _ _ _ _ _ ?_
  have er : nI (td + 1) - nI (td + 1) / 365 * 365 = nI ((td + 1) % 365) := pk_rem (d := 365) (by omega) (by omega) (by omega)
  have ez : (nI ((td + 1) % 365) = 0 ↔ (td + 1) % 365 = 0) := nI_eq (b := 0) (by omega) (by omega)
  simp -implicitDefEqProofs [t_X12_wait_77, i_aload, i_iload, i_lload, i_istore, i_lstore, i_astore, i_iinc, i_push, i_getI, i_getJ, i_getR, i_putI, i_putJ, i_putR, i_iadd, i_isub, i_imul, i_iand, i_ior, i_ixor, i_ishl, i_ishr, i_iushr, i_idiv, i_irem, i_ladd, i_lsub, i_lmul, i_land, i_lor, i_lxor, i_ldiv, i_lrem, i_lshl, i_lshr, i_lcmp, i_ineg, i_lneg, i_i2l, i_l2i, i_i2b, i_i2c, i_dup, i_pop, i_dup_x1, i_dup2, i_icmp_eq, i_icmp_lt, i_icmp_ge, i_icmp_gt, i_icmp_le, i_if_eq, i_if_lt, i_if_ge, i_if_gt, i_if_le, i_goto, i_ifnull, i_iald, i_bald, i_zald, i_lald, i_aald, i_iast, i_bast, i_zast, i_last, i_alen, i_iret, i_lret, i_aret, i_vret, i_oinit, i_cast, i_tsw, i_cases, i_mmin, i_mmax, i_lmin, i_throw, nb0, nb1, nint, nby0, rf_s, rf_n, of_r, of_n, tk_orf_rf, tk_c2, tk_ls, Value.category, tk_isR_ref, tk_isR_rf, tk_isR_null, z_q_L_s_I, z_q_K_s_I, z_q_I_s_I, z_q_J_s_I, z_q_R_s_I, z_q_n_s_I, z_q_aI_s_I, z_q_aJ_s_I, z_q_aR_s_I, z_q_L_s_J, z_q_K_s_J, z_q_I_s_J, z_q_J_s_J, z_q_R_s_J, z_q_n_s_J, z_q_aI_s_J, z_q_aJ_s_J, z_q_aR_s_J, z_q_L_s_R, z_q_K_s_R, z_q_I_s_R, z_q_J_s_R, z_q_R_s_R, z_q_n_s_R, z_q_aI_s_R, z_q_aJ_s_R, z_q_aR_s_R, z_q_L_s_aI, z_q_K_s_aI, z_q_I_s_aI, z_q_J_s_aI, z_q_R_s_aI, z_q_n_s_aI, z_q_aI_s_aI, z_q_aJ_s_aI, z_q_aR_s_aI, z_q_L_s_aJ, z_q_K_s_aJ, z_q_I_s_aJ, z_q_J_s_aJ, z_q_R_s_aJ, z_q_n_s_aJ, z_q_aI_s_aJ, z_q_aJ_s_aJ, z_q_aR_s_aJ, z_q_L_s_aR, z_q_K_s_aR, z_q_I_s_aR, z_q_J_s_aR, z_q_R_s_aR, z_q_n_s_aR, z_q_aI_s_aR, z_q_aJ_s_aR, z_q_aR_s_aR, z_q_L_s_new, z_q_K_s_new, z_q_I_s_new, z_q_J_s_new, z_q_R_s_new, z_q_n_s_new, z_q_aI_s_new, z_q_aJ_s_new, z_q_aR_s_new, z_q_L_s_arr, z_q_K_s_arr, z_q_I_s_arr, z_q_J_s_arr, z_q_R_s_arr, z_q_n_s_arr, z_q_aI_s_arr, z_q_aJ_s_arr, z_q_aR_s_arr, h1, h2, hb, er]
  refine ⟨fun w => ?_, fun w => ?_⟩
  · have hdiv := ez.mp w
    have hmov : moveM (td + 1) nG nL re su lsu lra lrk (ldu, mo, ls, du, le, (jn, jb, jd, jk, jw, js, jh)) = ((interM (td + 1) nL lsu lra lrk (ldu, (jn, jb, jd, jk, jw, js, jh))).1, gatesM (td + 1) re su nG 0 (mo, ls, du, le, (interM (td + 1) nL lsu lra lrk (ldu, (jn, jb, jd, jk, jw, js, jh))).2)) := by
      unfold moveM
      rw [if_pos hdiv]
    have hNJ : (interM (td + 1) nL lsu lra lrk (ldu, (jn, jb, jd, jk, jw, js, jh))).2.1 ≤ N.2.2.2.2.2.2.2.1.1 := by
      rw [← hN, hmov]
      exact gatesM_ge (td + 1) re su nG 0 (mo, ls, du, le, (interM (td + 1) nL lsu lra lrk (ldu, (jn, jb, jd, jk, jw, js, jh))).2)
    have hge : jn ≤ (interM (td + 1) nL lsu lra lrk (ldu, (jn, jb, jd, jk, jw, js, jh))).2.1 := by
      have := ranksM_ge (td + 1) nL lrk (growM lsu lra nL ldu, (jn, jb, jd, jk, jw, js, jh)) 0 4
      exact this
    generalize hint : interM (td + 1) nL lsu lra lrk (ldu, (jn, jb, jd, jk, jw, js, jh)) = K1 at *
    have x1 := lv_mono (b := 600) hNJ
    have x2 := lv_mono (b := 600) hge
    refine ⟨by simp, h1, h2, by simp [Value.category], 3, 4 * (lv 600 K1.2.1 - lv 600 jn), 80000 * (lv 600 K1.2.1 - lv 600 jn), by omega, by omega, by omega, ?_⟩
    refine r_interest (V := V0) (td := td + 1) (n := nL) (su := lsu) (ra := lra) (rk := lrk) (w := (ldu, (jn, jb, jd, jk, jw, js, jh))) (Nat.le_refl 3) hR1 ((i0 61 (by decide) (by decide)).trans l1) b9 ((congrFun a0 55).trans l2) ((congrFun a0 56).trans l3) ((congrFun a0 57).trans l4) ((congrFun l0 58).trans l5) jn0 i32 (k4 hdiv) (by rw [hint]; omega) (by rw [hint]; exact Nat.le_refl _) (by rw [hint]; exact Nat.le_refl _) (fun V1 hF hL hJ => ?_)
    rw [hint] at hL hJ ⊢
    intro S' ρ' R' hR'
    simp -implicitDefEqProofs [i_aload, i_iload, i_lload, i_istore, i_lstore, i_astore, i_iinc, i_push, i_getI, i_getJ, i_getR, i_putI, i_putJ, i_putR, i_iadd, i_isub, i_imul, i_iand, i_ior, i_ixor, i_ishl, i_ishr, i_iushr, i_idiv, i_irem, i_ladd, i_lsub, i_lmul, i_land, i_lor, i_lxor, i_ldiv, i_lrem, i_lshl, i_lshr, i_lcmp, i_ineg, i_lneg, i_i2l, i_l2i, i_i2b, i_i2c, i_dup, i_pop, i_dup_x1, i_dup2, i_icmp_eq, i_icmp_lt, i_icmp_ge, i_icmp_gt, i_icmp_le, i_if_eq, i_if_lt, i_if_ge, i_if_gt, i_if_le, i_goto, i_ifnull, i_iald, i_bald, i_zald, i_lald, i_aald, i_iast, i_bast, i_zast, i_last, i_alen, i_iret, i_lret, i_aret, i_vret, i_oinit, i_cast, i_tsw, i_cases, i_mmin, i_mmax, i_lmin, i_throw, nb0, nb1, nint, nby0, rf_s, rf_n, of_r, of_n, tk_orf_rf, tk_c2, tk_ls, Value.category, tk_isR_ref, tk_isR_rf, tk_isR_null]
    exact at98 K1.1 K1.2 V1 ρ' S' R' hR' hF hL hJ hge hmov
  · have hdiv : ¬ (td + 1) % 365 = 0 := fun z => w (ez.mpr z)
    have hmov : moveM (td + 1) nG nL re su lsu lra lrk (ldu, mo, ls, du, le, (jn, jb, jd, jk, jw, js, jh)) = (ldu, gatesM (td + 1) re su nG 0 (mo, ls, du, le, (jn, jb, jd, jk, jw, js, jh))) := by
      unfold moveM
      rw [if_neg hdiv]
    have g := at98 ldu (jn, jb, jd, jk, jw, js, jh) V0 ρ _ R hR1 iF.rfl' ((congrFun l0 58).trans l5) jn0 (Nat.le_refl _) hmov
    rw [Nat.sub_self, Nat.mul_zero, Nat.add_zero, Nat.add_zero] at g
    exact g
end RWAIT2

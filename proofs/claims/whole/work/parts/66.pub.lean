/-! THE CLASS'S CALLS: asking, passing -/
section PUB6
variable {Z : tk_Z} {d mc ms : Nat} {S : tk_S} {QR : tk_R} {QX : String → tk_S → Prop} {ρ : Nat → Nat} {x : Nat} {gh : gH} {M : Mt}
/-- what traveller t pays at gate g by an act -/
def payOf (M : Mt) (A : pA) (t g : Nat) : Int32 × Int32 := tollM A.2 (factM (M.2.2.2.2.1.2.2.2.2.1 t) (M.2.2.2.2.1.2.2.1 t) (M.2.2.2.2.1.2.2.2.1 t) (M.2.2.2.2.1.2.1 t) (nI g) (nI M.2.2.2.2.2.2.2.2.1) (M.2.2.2.2.1.2.2.2.2.2.1 (8 * t + g))) (M.2.2.2.2.1.2.2.2.1 t) (decide (M.2.2.2.2.1.2.2.2.2.2.2.1 (8 * t + g) = nI M.2.2.2.2.2.2.2.2.1)) (decide (M.2.2.2.2.1.2.2.2.2.2.2.2 t = nI M.2.2.2.2.2.2.2.2.1))
theorem rk_same {a q q2 : Nat} {S' : tk_S} (hr : isRk S a q q2) (f : rkF S S' a q q2) (r1 : ρ a = 3) (r2 : ρ q = 19) (r3 : ρ q2 = 20) : ∀ b, b ∈ q_L S → ρ b ∉ [3, 19, 20] → sameAt S S' b := fun b hb hn => f.fr b hb (fun z => hn (by
  simp only [List.mem_cons, List.not_mem_nil, or_false] at z ⊢
  rcases z with z | z | z
  · exact Or.inl (z ▸ r1)
  · exact Or.inr (Or.inl (z ▸ r2))
  · exact Or.inr (Or.inr (z ▸ r3))))
theorem CI.rk {a q q2 : Nat} {S' : tk_S} (hC : CI Z ρ S x gh M) (hZ : Z.2.2.2.2.2.1 ∉ q_L S) (ha : q_R S 12 1 x = some a) (hr : isRk S a q q2) (f : rkF S S' a q q2) (r1 : ρ a = 3) (r2 : ρ q = 19) (r3 : ρ q2 = 20) : CI Z ρ S' x gh M ∧ FO ρ ρ S S' ∧ sameAt S S' x := by
  have hC0 := hC
  obtain ⟨fS, fG, fV, p, p2, fF, fL, bl⟩ := gh
  obtain ⟨⟨tn, tg, tp⟩, acts, ⟨nS, pr, wo⟩, ⟨nG, os, ps, ls, re, su, du, le, nb, bf, br, bs⟩, ⟨nV, kd, wh, be, bi, pa, pd, la⟩, ⟨nF, mo⟩, ⟨nL, lsu, lra, lrk, ldu⟩, J, ⟨td, dry, lc⟩⟩ := M
  obtain ⟨cD0, cT0, cK0, cA0, cS0, cG0, cV0, cF0, cL0, cJ0⟩ := hC
  obtain ⟨hx, hk, hρ, htd, ht, hdry, hlc⟩ := cD0
  have s1 := rk_same hr f r1 r2 r3
  have sx := s1 x hx (by rw [hρ]; simp)
  have hr' := hr.mv f
  have cK1 : cK ρ S' x := ⟨a, q, q2, (sx.2.2.2.2.1 12 1).trans ha, hr', r1, r2, r3⟩
  exact ⟨⟨cD.same ⟨hx, hk, hρ, htd, ht, hdry, hlc⟩ sx (rx.rfl' x hx), cT0.same (xr.of sx) (sm.no s1 (by simp)) rx.rfl', cK1, cA0.same hZ (xr.of sx) (sm.no s1 (by simp)) rx.rfl', cS0.same hZ (xr.of sx) (sm.no s1 (by simp)) rx.rfl', cG0.same hZ (xr.of sx) (sm.no s1 (by simp)) rx.rfl', cV0.same hZ (xr.of sx) (sm.no s1 (by simp)) rx.rfl', cF0.same hZ (xr.of sx) (sm.no s1 (by simp)) rx.rfl', cL0.same hZ (xr.of sx) (sm.no s1 (by simp)) rx.rfl', cJ0.same (xr.of sx) (sm.no s1 (by simp)) rx.rfl'⟩, FO.of f.gr rx.rfl' s1 (by simp), sx⟩
theorem m_reckonC {a a2 t g : Nat} {A : pA} (hd : 6 ≤ d) (hZ : Z.2.2.2.2.2.1 ∉ q_L S) (hC : CI Z ρ S x gh M) (ha : q_R S 12 1 x = some a) (ha2 : a2 ∈ q_L S ∧ q_K S a2 = 1) (hA : cA1 Z ρ S a2 A) (htV : t < M.2.2.2.2.1.1) (hg : g < 8)
    (H : ∀ S', CI Z ρ S' x gh M → FO ρ ρ S S' → sameAt S S' x → Z.2.2.2.2.2.1 ∉ q_L S' → a ∈ q_L S' ∧ q_K S' a = 9 → q_I S' 9 0 a = (payOf M A t g).1 → q_I S' 9 1 a = (payOf M A t g).2 → QR none S') : tk_M Z mX8_reckon d mc ms [.ref a, .ref a2, .ref (gh.2.2.1 t), .int (nI g), .int (nI M.2.2.2.2.2.2.2.2.1)] S QR tk_noX := by
  have hC0 := hC
  obtain ⟨fS, fG, fV, p, p2, fF, fL, bl⟩ := gh
  obtain ⟨⟨tn, tg, tp⟩, acts, ⟨nS, pr, wo⟩, ⟨nG, os, ps, ls, re, su, du, le, nb, bf, br, bs⟩, ⟨nV, kd, wh, be, bi, pa, pd, la⟩, ⟨nF, mo⟩, ⟨nL, lsu, lra, lrk, ldu⟩, J, ⟨td, dry, lc⟩⟩ := M
  obtain ⟨cD0, cT0, cK0, cA0, cS0, cG0, cV0, cF0, cL0, cJ0⟩ := hC
  obtain ⟨hx, hk, hρ, htd, ht, hdry, hlc⟩ := cD0
  obtain ⟨a', q, q2, k1, hr, r1, r2, r3⟩ := id cK0
  have ea : a' = a := by rw [k1] at ha; exact Option.some.inj ha
  subst ea
  obtain ⟨l, e, f, st, c1, c2, c3, c4, c5⟩ := hA
  obtain ⟨lV, eV, v1, v2, v3, v31, v32, v4, v5⟩ := id cV0
  dsimp only at htV H ⊢
  obtain ⟨w1, w2, w3, w4, w5⟩ := v5 t htV
  have hcl : actIn S f st A.2 q q2 := fun i p hi => by
    obtain ⟨y1, y2, y3, y4⟩ := c5 i p hi
    exact ⟨y1, y3, y4, ne_of_role y2 r2 (by decide), ne_of_role y2 r3 (by decide)⟩
  refine tk_M.out (m_reckon hd hr ⟨ha2.1, ha2.2, c2⟩ c3.1 c4 hcl w1 ⟨ne_of_role w2 r2 (by decide), ne_of_role w2 r3 (by decide), ne_of_role w3 r2 (by decide), ne_of_role w3 r3 (by decide)⟩ hg (fun S' f' e1 e2 hZ' => ?_))
  obtain ⟨g1, g2, g3⟩ := CI.rk hC0 hZ k1 hr f' r1 r2 r3
  obtain ⟨p1, p2'⟩ := w5 g hg
  rw [p1, p2', w4] at e1 e2
  exact H S' g1 g2 g3 hZ' ⟨(hr.mv f').1, (hr.mv f').2.1⟩ e1 e2
theorem m_reckonC0 {a t g : Nat} (hZ : Z.2.2.2.2.2.1 ∉ q_L S) (hC : CI Z ρ S x gh M) (ha : q_R S 12 1 x = some a)
    (H : ∀ S', CI Z ρ S' x gh M → FO ρ ρ S S' → sameAt S S' x → Z.2.2.2.2.2.1 ∉ q_L S' → a ∈ q_L S' ∧ q_K S' a = 9 → q_I S' 9 0 a = 0 → q_I S' 9 1 a = -1 → QR none S') : tk_M Z mX8_reckon d mc ms [.ref a, .null, .ref (gh.2.2.1 t), .int (nI g), .int (nI M.2.2.2.2.2.2.2.2.1)] S QR tk_noX := by
  have hC0 := hC
  obtain ⟨fS, fG, fV, p, p2, fF, fL, bl⟩ := gh
  obtain ⟨⟨tn, tg, tp⟩, acts, ⟨nS, pr, wo⟩, ⟨nG, os, ps, ls, re, su, du, le, nb, bf, br, bs⟩, ⟨nV, kd, wh, be, bi, pa, pd, la⟩, ⟨nF, mo⟩, ⟨nL, lsu, lra, lrk, ldu⟩, J, ⟨td, dry, lc⟩⟩ := M
  obtain ⟨cD0, cT0, cK0, cA0, cS0, cG0, cV0, cF0, cL0, cJ0⟩ := hC
  obtain ⟨hx, hk, hρ, htd, ht, hdry, hlc⟩ := cD0
  obtain ⟨a', q, q2, k1, hr, r1, r2, r3⟩ := id cK0
  have ea : a' = a := by rw [k1] at ha; exact Option.some.inj ha
  subst ea
  dsimp only at H ⊢
  refine m_reckon0 hr.1 hr.2.1 ?_
  have f' : rkF S (s_I (s_I S 9 0 a' 0) 9 1 a' (-1)) a' q q2 := rkF.put.trans rkF.put
  obtain ⟨g1, g2, g3⟩ := CI.rk hC0 hZ k1 hr f' r1 r2 r3
  exact H _ g1 g2 g3 hZ ⟨hr.1, hr.2.1⟩ (by simp -implicitDefEqProofs [z_q_L_s_I, z_q_K_s_I, z_q_I_s_I, z_q_J_s_I, z_q_R_s_I, z_q_n_s_I, z_q_aI_s_I, z_q_aJ_s_I, z_q_aR_s_I, z_q_L_s_J, z_q_K_s_J, z_q_I_s_J, z_q_J_s_J, z_q_R_s_J, z_q_n_s_J, z_q_aI_s_J, z_q_aJ_s_J, z_q_aR_s_J, z_q_L_s_R, z_q_K_s_R, z_q_I_s_R, z_q_J_s_R, z_q_R_s_R, z_q_n_s_R, z_q_aI_s_R, z_q_aJ_s_R, z_q_aR_s_R, z_q_L_s_aI, z_q_K_s_aI, z_q_I_s_aI, z_q_J_s_aI, z_q_R_s_aI, z_q_n_s_aI, z_q_aI_s_aI, z_q_aJ_s_aI, z_q_aR_s_aI, z_q_L_s_aJ, z_q_K_s_aJ, z_q_I_s_aJ, z_q_J_s_aJ, z_q_R_s_aJ, z_q_n_s_aJ, z_q_aI_s_aJ, z_q_aJ_s_aJ, z_q_aR_s_aJ, z_q_L_s_aR, z_q_K_s_aR, z_q_I_s_aR, z_q_J_s_aR, z_q_R_s_aR, z_q_n_s_aR, z_q_aI_s_aR, z_q_aJ_s_aR, z_q_aR_s_aR, z_q_L_s_new, z_q_K_s_new, z_q_I_s_new, z_q_J_s_new, z_q_R_s_new, z_q_n_s_new, z_q_aI_s_new, z_q_aJ_s_new, z_q_aR_s_new, z_q_L_s_arr, z_q_K_s_arr, z_q_I_s_arr, z_q_J_s_arr, z_q_R_s_arr, z_q_n_s_arr, z_q_aI_s_arr, z_q_aJ_s_arr, z_q_aR_s_arr]) (by simp -implicitDefEqProofs [z_q_L_s_I, z_q_K_s_I, z_q_I_s_I, z_q_J_s_I, z_q_R_s_I, z_q_n_s_I, z_q_aI_s_I, z_q_aJ_s_I, z_q_aR_s_I, z_q_L_s_J, z_q_K_s_J, z_q_I_s_J, z_q_J_s_J, z_q_R_s_J, z_q_n_s_J, z_q_aI_s_J, z_q_aJ_s_J, z_q_aR_s_J, z_q_L_s_R, z_q_K_s_R, z_q_I_s_R, z_q_J_s_R, z_q_R_s_R, z_q_n_s_R, z_q_aI_s_R, z_q_aJ_s_R, z_q_aR_s_R, z_q_L_s_aI, z_q_K_s_aI, z_q_I_s_aI, z_q_J_s_aI, z_q_R_s_aI, z_q_n_s_aI, z_q_aI_s_aI, z_q_aJ_s_aI, z_q_aR_s_aI, z_q_L_s_aJ, z_q_K_s_aJ, z_q_I_s_aJ, z_q_J_s_aJ, z_q_R_s_aJ, z_q_n_s_aJ, z_q_aI_s_aJ, z_q_aJ_s_aJ, z_q_aR_s_aJ, z_q_L_s_aR, z_q_K_s_aR, z_q_I_s_aR, z_q_J_s_aR, z_q_R_s_aR, z_q_n_s_aR, z_q_aI_s_aR, z_q_aJ_s_aR, z_q_aR_s_aR, z_q_L_s_new, z_q_K_s_new, z_q_I_s_new, z_q_J_s_new, z_q_R_s_new, z_q_n_s_new, z_q_aI_s_new, z_q_aJ_s_new, z_q_aR_s_new, z_q_L_s_arr, z_q_K_s_arr, z_q_I_s_arr, z_q_J_s_arr, z_q_R_s_arr, z_q_n_s_arr, z_q_aI_s_arr, z_q_aJ_s_arr, z_q_aR_s_arr])
set_option maxHeartbeats 4000000 in
theorem c_asked {i t0 g0 : Int32} (hst : Z.1.stackTraces = false) (hd : 8 ≤ d) (hZ : Z.2.2.2.2.2.1 ∉ q_L S) (hC : CI Z ρ S x gh M) (hmc : 1 ≤ mc) (hms : 6 ≤ ms)
    (H1 : ((i < 0 ∨ nI M.2.1.length ≤ i) ∨ (t0 < 0 ∨ nI M.2.2.2.2.1.1 ≤ t0) ∨ (g0 < 0 ∨ nI M.2.2.2.1.1 ≤ g0)) → QX "java/lang/IndexOutOfBoundsException" S)
    (H0 : ∀ j A t g, M.2.1[j]? = some A → i = nI j → t < M.2.2.2.2.1.1 → t0 = nI t → g < M.2.2.2.1.1 → g0 = nI g → okC Z ρ S x QR (.int (payOf M A t g).1) M) : tk_M Z mX11_asked d mc ms [.ref x, .int i, .int t0, .int g0] S QR QX := by
  have hC0 := hC
  obtain ⟨fS, fG, fV, p, p2, fF, fL, bl⟩ := gh
  obtain ⟨⟨tn, tg, tp⟩, acts, ⟨nS, pr, wo⟩, ⟨nG, os, ps, ls, re, su, du, le, nb, bf, br, bs⟩, ⟨nV, kd, wh, be, bi, pa, pd, la⟩, ⟨nF, mo⟩, ⟨nL, lsu, lra, lrk, ldu⟩, J, ⟨td, dry, lc⟩⟩ := M
  obtain ⟨cD0, cT0, cK0, cA0, cS0, cG0, cV0, cF0, cL0, cJ0⟩ := hC
  obtain ⟨hx, hk, hρ, htd, ht, hdry, hlc⟩ := cD0
  refine M_X11_asked hst hd (Nat.le_of_ble_eq_true rfl) (fun E hE => hE _ _ _ _ _ ?_)
  show t_X11_asked_0 Z d mc ms QR QX E [some (.ref x), some (.int i), some (.int t0), some (.int g0)] [] S 0 0
  obtain ⟨lA, eA, fA, a1, a2, a3, a4⟩ := id cA0
  obtain ⟨lV, eV, v1, v2, v3, v31, v32, v4, v5⟩ := id cV0
  obtain ⟨lG, eG, h1, h2, h3, h31, h4, h5⟩ := id cG0
  obtain ⟨a, q, q2, k1, hr, r1, r2, r3⟩ := id cK0
  have hlA := a2.1
  have hlV := v2.1
  have hlG := h2.1
  dsimp only at H1 H0
  rcases pk_ix i (n := acts.length) (by omega) with w | w | ⟨j, hj, rfl⟩
  · simp -implicitDefEqProofs [t_X11_asked_0, i_aload, i_iload, i_lload, i_istore, i_lstore, i_astore, i_iinc, i_push, i_getI, i_getJ, i_getR, i_putI, i_putJ, i_putR, i_iadd, i_isub, i_imul, i_iand, i_ior, i_ixor, i_ishl, i_ishr, i_iushr, i_idiv, i_irem, i_ladd, i_lsub, i_lmul, i_land, i_lor, i_lxor, i_ldiv, i_lrem, i_lshl, i_lshr, i_lcmp, i_ineg, i_lneg, i_i2l, i_l2i, i_i2b, i_i2c, i_dup, i_pop, i_dup_x1, i_dup2, i_icmp_eq, i_icmp_lt, i_icmp_ge, i_icmp_gt, i_icmp_le, i_if_eq, i_if_lt, i_if_ge, i_if_gt, i_if_le, i_goto, i_ifnull, i_iald, i_bald, i_zald, i_lald, i_aald, i_iast, i_bast, i_zast, i_last, i_alen, i_iret, i_lret, i_aret, i_vret, i_oinit, i_cast, i_tsw, i_cases, i_mmin, i_mmax, i_lmin, i_throw, nb0, nb1, nint, nby0, rf_s, rf_n, of_r, of_n, tk_orf_rf, tk_c2, tk_ls, Value.category, tk_isR_ref, tk_isR_rf, tk_isR_null, w]
    exact ⟨by omega, by omega, H1 (Or.inl (Or.inl w))⟩
  · have w0 : ¬ i < 0 := fun q => absurd (Int32.lt_of_le_of_lt w q) (nI_pos (by omega))
    simp -implicitDefEqProofs [t_X11_asked_0, i_aload, i_iload, i_lload, i_istore, i_lstore, i_astore, i_iinc, i_push, i_getI, i_getJ, i_getR, i_putI, i_putJ, i_putR, i_iadd, i_isub, i_imul, i_iand, i_ior, i_ixor, i_ishl, i_ishr, i_iushr, i_idiv, i_irem, i_ladd, i_lsub, i_lmul, i_land, i_lor, i_lxor, i_ldiv, i_lrem, i_lshl, i_lshr, i_lcmp, i_ineg, i_lneg, i_i2l, i_l2i, i_i2b, i_i2c, i_dup, i_pop, i_dup_x1, i_dup2, i_icmp_eq, i_icmp_lt, i_icmp_ge, i_icmp_gt, i_icmp_le, i_if_eq, i_if_lt, i_if_ge, i_if_gt, i_if_le, i_goto, i_ifnull, i_iald, i_bald, i_zald, i_lald, i_aald, i_iast, i_bast, i_zast, i_last, i_alen, i_iret, i_lret, i_aret, i_vret, i_oinit, i_cast, i_tsw, i_cases, i_mmin, i_mmax, i_lmin, i_throw, nb0, nb1, nint, nby0, rf_s, rf_n, of_r, of_n, tk_orf_rf, tk_c2, tk_ls, Value.category, tk_isR_ref, tk_isR_rf, tk_isR_null, w0, hx, hk, a1]
    refine ix_callF hlA (by omega) w ?_
    simp -implicitDefEqProofs [i_aload, i_iload, i_lload, i_istore, i_lstore, i_astore, i_iinc, i_push, i_getI, i_getJ, i_getR, i_putI, i_putJ, i_putR, i_iadd, i_isub, i_imul, i_iand, i_ior, i_ixor, i_ishl, i_ishr, i_iushr, i_idiv, i_irem, i_ladd, i_lsub, i_lmul, i_land, i_lor, i_lxor, i_ldiv, i_lrem, i_lshl, i_lshr, i_lcmp, i_ineg, i_lneg, i_i2l, i_l2i, i_i2b, i_i2c, i_dup, i_pop, i_dup_x1, i_dup2, i_icmp_eq, i_icmp_lt, i_icmp_ge, i_icmp_gt, i_icmp_le, i_if_eq, i_if_lt, i_if_ge, i_if_gt, i_if_le, i_goto, i_ifnull, i_iald, i_bald, i_zald, i_lald, i_aald, i_iast, i_bast, i_zast, i_last, i_alen, i_iret, i_lret, i_aret, i_vret, i_oinit, i_cast, i_tsw, i_cases, i_mmin, i_mmax, i_lmin, i_throw, nb0, nb1, nint, nby0, rf_s, rf_n, of_r, of_n, tk_orf_rf, tk_c2, tk_ls, Value.category, tk_isR_ref, tk_isR_rf, tk_isR_null]
    exact ⟨by omega, by omega, H1 (Or.inl (Or.inr w))⟩
  have hw0 : ¬ nI j < 0 := nI_pos (by omega)
  simp -implicitDefEqProofs [t_X11_asked_0, i_aload, i_iload, i_lload, i_istore, i_lstore, i_astore, i_iinc, i_push, i_getI, i_getJ, i_getR, i_putI, i_putJ, i_putR, i_iadd, i_isub, i_imul, i_iand, i_ior, i_ixor, i_ishl, i_ishr, i_iushr, i_idiv, i_irem, i_ladd, i_lsub, i_lmul, i_land, i_lor, i_lxor, i_ldiv, i_lrem, i_lshl, i_lshr, i_lcmp, i_ineg, i_lneg, i_i2l, i_l2i, i_i2b, i_i2c, i_dup, i_pop, i_dup_x1, i_dup2, i_icmp_eq, i_icmp_lt, i_icmp_ge, i_icmp_gt, i_icmp_le, i_if_eq, i_if_lt, i_if_ge, i_if_gt, i_if_le, i_goto, i_ifnull, i_iald, i_bald, i_zald, i_lald, i_aald, i_iast, i_bast, i_zast, i_last, i_alen, i_iret, i_lret, i_aret, i_vret, i_oinit, i_cast, i_tsw, i_cases, i_mmin, i_mmax, i_lmin, i_throw, nb0, nb1, nint, nby0, rf_s, rf_n, of_r, of_n, tk_orf_rf, tk_c2, tk_ls, Value.category, tk_isR_ref, tk_isR_rf, tk_isR_null, hw0, hx, hk, a1]
  refine ix_callS hlA (by omega) hj ?_
  rcases pk_ix t0 (n := nV) (by omega) with w | w | ⟨t, htV, rfl⟩
  · simp -implicitDefEqProofs [i_aload, i_iload, i_lload, i_istore, i_lstore, i_astore, i_iinc, i_push, i_getI, i_getJ, i_getR, i_putI, i_putJ, i_putR, i_iadd, i_isub, i_imul, i_iand, i_ior, i_ixor, i_ishl, i_ishr, i_iushr, i_idiv, i_irem, i_ladd, i_lsub, i_lmul, i_land, i_lor, i_lxor, i_ldiv, i_lrem, i_lshl, i_lshr, i_lcmp, i_ineg, i_lneg, i_i2l, i_l2i, i_i2b, i_i2c, i_dup, i_pop, i_dup_x1, i_dup2, i_icmp_eq, i_icmp_lt, i_icmp_ge, i_icmp_gt, i_icmp_le, i_if_eq, i_if_lt, i_if_ge, i_if_gt, i_if_le, i_goto, i_ifnull, i_iald, i_bald, i_zald, i_lald, i_aald, i_iast, i_bast, i_zast, i_last, i_alen, i_iret, i_lret, i_aret, i_vret, i_oinit, i_cast, i_tsw, i_cases, i_mmin, i_mmax, i_lmin, i_throw, nb0, nb1, nint, nby0, rf_s, rf_n, of_r, of_n, tk_orf_rf, tk_c2, tk_ls, Value.category, tk_isR_ref, tk_isR_rf, tk_isR_null, w]
    exact ⟨by omega, by omega, H1 (Or.inr (Or.inl (Or.inl w)))⟩
  · have w0 : ¬ t0 < 0 := fun q => absurd (Int32.lt_of_le_of_lt w q) (nI_pos (by omega))
    simp -implicitDefEqProofs [i_aload, i_iload, i_lload, i_istore, i_lstore, i_astore, i_iinc, i_push, i_getI, i_getJ, i_getR, i_putI, i_putJ, i_putR, i_iadd, i_isub, i_imul, i_iand, i_ior, i_ixor, i_ishl, i_ishr, i_iushr, i_idiv, i_irem, i_ladd, i_lsub, i_lmul, i_land, i_lor, i_lxor, i_ldiv, i_lrem, i_lshl, i_lshr, i_lcmp, i_ineg, i_lneg, i_i2l, i_l2i, i_i2b, i_i2c, i_dup, i_pop, i_dup_x1, i_dup2, i_icmp_eq, i_icmp_lt, i_icmp_ge, i_icmp_gt, i_icmp_le, i_if_eq, i_if_lt, i_if_ge, i_if_gt, i_if_le, i_goto, i_ifnull, i_iald, i_bald, i_zald, i_lald, i_aald, i_iast, i_bast, i_zast, i_last, i_alen, i_iret, i_lret, i_aret, i_vret, i_oinit, i_cast, i_tsw, i_cases, i_mmin, i_mmax, i_lmin, i_throw, nb0, nb1, nint, nby0, rf_s, rf_n, of_r, of_n, tk_orf_rf, tk_c2, tk_ls, Value.category, tk_isR_ref, tk_isR_rf, tk_isR_null, w0, hx, hk, v1]
    refine ix_callF hlV (by omega) w ?_
    simp -implicitDefEqProofs [i_aload, i_iload, i_lload, i_istore, i_lstore, i_astore, i_iinc, i_push, i_getI, i_getJ, i_getR, i_putI, i_putJ, i_putR, i_iadd, i_isub, i_imul, i_iand, i_ior, i_ixor, i_ishl, i_ishr, i_iushr, i_idiv, i_irem, i_ladd, i_lsub, i_lmul, i_land, i_lor, i_lxor, i_ldiv, i_lrem, i_lshl, i_lshr, i_lcmp, i_ineg, i_lneg, i_i2l, i_l2i, i_i2b, i_i2c, i_dup, i_pop, i_dup_x1, i_dup2, i_icmp_eq, i_icmp_lt, i_icmp_ge, i_icmp_gt, i_icmp_le, i_if_eq, i_if_lt, i_if_ge, i_if_gt, i_if_le, i_goto, i_ifnull, i_iald, i_bald, i_zald, i_lald, i_aald, i_iast, i_bast, i_zast, i_last, i_alen, i_iret, i_lret, i_aret, i_vret, i_oinit, i_cast, i_tsw, i_cases, i_mmin, i_mmax, i_lmin, i_throw, nb0, nb1, nint, nby0, rf_s, rf_n, of_r, of_n, tk_orf_rf, tk_c2, tk_ls, Value.category, tk_isR_ref, tk_isR_rf, tk_isR_null]
    exact ⟨by omega, by omega, H1 (Or.inr (Or.inl (Or.inr w)))⟩
  have hw1 : ¬ nI t < 0 := nI_pos (by omega)
  simp -implicitDefEqProofs [i_aload, i_iload, i_lload, i_istore, i_lstore, i_astore, i_iinc, i_push, i_getI, i_getJ, i_getR, i_putI, i_putJ, i_putR, i_iadd, i_isub, i_imul, i_iand, i_ior, i_ixor, i_ishl, i_ishr, i_iushr, i_idiv, i_irem, i_ladd, i_lsub, i_lmul, i_land, i_lor, i_lxor, i_ldiv, i_lrem, i_lshl, i_lshr, i_lcmp, i_ineg, i_lneg, i_i2l, i_l2i, i_i2b, i_i2c, i_dup, i_pop, i_dup_x1, i_dup2, i_icmp_eq, i_icmp_lt, i_icmp_ge, i_icmp_gt, i_icmp_le, i_if_eq, i_if_lt, i_if_ge, i_if_gt, i_if_le, i_goto, i_ifnull, i_iald, i_bald, i_zald, i_lald, i_aald, i_iast, i_bast, i_zast, i_last, i_alen, i_iret, i_lret, i_aret, i_vret, i_oinit, i_cast, i_tsw, i_cases, i_mmin, i_mmax, i_lmin, i_throw, nb0, nb1, nint, nby0, rf_s, rf_n, of_r, of_n, tk_orf_rf, tk_c2, tk_ls, Value.category, tk_isR_ref, tk_isR_rf, tk_isR_null, hw1, hx, hk, v1]
  refine ix_callS hlV (by omega) htV ?_
  rcases pk_ix g0 (n := nG) (by omega) with w | w | ⟨g, hg, rfl⟩
  · simp -implicitDefEqProofs [i_aload, i_iload, i_lload, i_istore, i_lstore, i_astore, i_iinc, i_push, i_getI, i_getJ, i_getR, i_putI, i_putJ, i_putR, i_iadd, i_isub, i_imul, i_iand, i_ior, i_ixor, i_ishl, i_ishr, i_iushr, i_idiv, i_irem, i_ladd, i_lsub, i_lmul, i_land, i_lor, i_lxor, i_ldiv, i_lrem, i_lshl, i_lshr, i_lcmp, i_ineg, i_lneg, i_i2l, i_l2i, i_i2b, i_i2c, i_dup, i_pop, i_dup_x1, i_dup2, i_icmp_eq, i_icmp_lt, i_icmp_ge, i_icmp_gt, i_icmp_le, i_if_eq, i_if_lt, i_if_ge, i_if_gt, i_if_le, i_goto, i_ifnull, i_iald, i_bald, i_zald, i_lald, i_aald, i_iast, i_bast, i_zast, i_last, i_alen, i_iret, i_lret, i_aret, i_vret, i_oinit, i_cast, i_tsw, i_cases, i_mmin, i_mmax, i_lmin, i_throw, nb0, nb1, nint, nby0, rf_s, rf_n, of_r, of_n, tk_orf_rf, tk_c2, tk_ls, Value.category, tk_isR_ref, tk_isR_rf, tk_isR_null, w]
    exact ⟨by omega, by omega, H1 (Or.inr (Or.inr (Or.inl w)))⟩
  · have w0 : ¬ g0 < 0 := fun q => absurd (Int32.lt_of_le_of_lt w q) (nI_pos (by omega))
    simp -implicitDefEqProofs [i_aload, i_iload, i_lload, i_istore, i_lstore, i_astore, i_iinc, i_push, i_getI, i_getJ, i_getR, i_putI, i_putJ, i_putR, i_iadd, i_isub, i_imul, i_iand, i_ior, i_ixor, i_ishl, i_ishr, i_iushr, i_idiv, i_irem, i_ladd, i_lsub, i_lmul, i_land, i_lor, i_lxor, i_ldiv, i_lrem, i_lshl, i_lshr, i_lcmp, i_ineg, i_lneg, i_i2l, i_l2i, i_i2b, i_i2c, i_dup, i_pop, i_dup_x1, i_dup2, i_icmp_eq, i_icmp_lt, i_icmp_ge, i_icmp_gt, i_icmp_le, i_if_eq, i_if_lt, i_if_ge, i_if_gt, i_if_le, i_goto, i_ifnull, i_iald, i_bald, i_zald, i_lald, i_aald, i_iast, i_bast, i_zast, i_last, i_alen, i_iret, i_lret, i_aret, i_vret, i_oinit, i_cast, i_tsw, i_cases, i_mmin, i_mmax, i_lmin, i_throw, nb0, nb1, nint, nby0, rf_s, rf_n, of_r, of_n, tk_orf_rf, tk_c2, tk_ls, Value.category, tk_isR_ref, tk_isR_rf, tk_isR_null, w0, hx, hk, h1]
    refine ix_callF hlG (by omega) w ?_
    simp -implicitDefEqProofs [i_aload, i_iload, i_lload, i_istore, i_lstore, i_astore, i_iinc, i_push, i_getI, i_getJ, i_getR, i_putI, i_putJ, i_putR, i_iadd, i_isub, i_imul, i_iand, i_ior, i_ixor, i_ishl, i_ishr, i_iushr, i_idiv, i_irem, i_ladd, i_lsub, i_lmul, i_land, i_lor, i_lxor, i_ldiv, i_lrem, i_lshl, i_lshr, i_lcmp, i_ineg, i_lneg, i_i2l, i_l2i, i_i2b, i_i2c, i_dup, i_pop, i_dup_x1, i_dup2, i_icmp_eq, i_icmp_lt, i_icmp_ge, i_icmp_gt, i_icmp_le, i_if_eq, i_if_lt, i_if_ge, i_if_gt, i_if_le, i_goto, i_ifnull, i_iald, i_bald, i_zald, i_lald, i_aald, i_iast, i_bast, i_zast, i_last, i_alen, i_iret, i_lret, i_aret, i_vret, i_oinit, i_cast, i_tsw, i_cases, i_mmin, i_mmax, i_lmin, i_throw, nb0, nb1, nint, nby0, rf_s, rf_n, of_r, of_n, tk_orf_rf, tk_c2, tk_ls, Value.category, tk_isR_ref, tk_isR_rf, tk_isR_null]
    exact ⟨by omega, by omega, H1 (Or.inr (Or.inr (Or.inr w)))⟩
  have hw2 : ¬ nI g < 0 := nI_pos (by omega)
  simp -implicitDefEqProofs [i_aload, i_iload, i_lload, i_istore, i_lstore, i_astore, i_iinc, i_push, i_getI, i_getJ, i_getR, i_putI, i_putJ, i_putR, i_iadd, i_isub, i_imul, i_iand, i_ior, i_ixor, i_ishl, i_ishr, i_iushr, i_idiv, i_irem, i_ladd, i_lsub, i_lmul, i_land, i_lor, i_lxor, i_ldiv, i_lrem, i_lshl, i_lshr, i_lcmp, i_ineg, i_lneg, i_i2l, i_l2i, i_i2b, i_i2c, i_dup, i_pop, i_dup_x1, i_dup2, i_icmp_eq, i_icmp_lt, i_icmp_ge, i_icmp_gt, i_icmp_le, i_if_eq, i_if_lt, i_if_ge, i_if_gt, i_if_le, i_goto, i_ifnull, i_iald, i_bald, i_zald, i_lald, i_aald, i_iast, i_bast, i_zast, i_last, i_alen, i_iret, i_lret, i_aret, i_vret, i_oinit, i_cast, i_tsw, i_cases, i_mmin, i_mmax, i_lmin, i_throw, nb0, nb1, nint, nby0, rf_s, rf_n, of_r, of_n, tk_orf_rf, tk_c2, tk_ls, Value.category, tk_isR_ref, tk_isR_rf, tk_isR_null, hw2, hx, hk, h1]
  refine ix_callS hlG (by omega) hg ?_
  have eA2 : acts[j]? = some acts[j] := by simp [hj]
  obtain ⟨y1, y2⟩ := hlA.2.2.2.2.2.2.1 j hj
  obtain ⟨u1, u2⟩ := hlV.2.2.2.2.2.2.1 t htV
  simp -implicitDefEqProofs [i_aload, i_iload, i_lload, i_istore, i_lstore, i_astore, i_iinc, i_push, i_getI, i_getJ, i_getR, i_putI, i_putJ, i_putR, i_iadd, i_isub, i_imul, i_iand, i_ior, i_ixor, i_ishl, i_ishr, i_iushr, i_idiv, i_irem, i_ladd, i_lsub, i_lmul, i_land, i_lor, i_lxor, i_ldiv, i_lrem, i_lshl, i_lshr, i_lcmp, i_ineg, i_lneg, i_i2l, i_l2i, i_i2b, i_i2c, i_dup, i_pop, i_dup_x1, i_dup2, i_icmp_eq, i_icmp_lt, i_icmp_ge, i_icmp_gt, i_icmp_le, i_if_eq, i_if_lt, i_if_ge, i_if_gt, i_if_le, i_goto, i_ifnull, i_iald, i_bald, i_zald, i_lald, i_aald, i_iast, i_bast, i_zast, i_last, i_alen, i_iret, i_lret, i_aret, i_vret, i_oinit, i_cast, i_tsw, i_cases, i_mmin, i_mmax, i_lmin, i_throw, nb0, nb1, nint, nby0, rf_s, rf_n, of_r, of_n, tk_orf_rf, tk_c2, tk_ls, Value.category, tk_isR_ref, tk_isR_rf, tk_isR_null, hx, hk, k1, a1, hr.1, hr.2.1]
  refine get_call hlA (by omega) hj (by simp [Value.category]) ?_
  simp -implicitDefEqProofs [i_aload, i_iload, i_lload, i_istore, i_lstore, i_astore, i_iinc, i_push, i_getI, i_getJ, i_getR, i_putI, i_putJ, i_putR, i_iadd, i_isub, i_imul, i_iand, i_ior, i_ixor, i_ishl, i_ishr, i_iushr, i_idiv, i_irem, i_ladd, i_lsub, i_lmul, i_land, i_lor, i_lxor, i_ldiv, i_lrem, i_lshl, i_lshr, i_lcmp, i_ineg, i_lneg, i_i2l, i_l2i, i_i2b, i_i2c, i_dup, i_pop, i_dup_x1, i_dup2, i_icmp_eq, i_icmp_lt, i_icmp_ge, i_icmp_gt, i_icmp_le, i_if_eq, i_if_lt, i_if_ge, i_if_gt, i_if_le, i_goto, i_ifnull, i_iald, i_bald, i_zald, i_lald, i_aald, i_iast, i_bast, i_zast, i_last, i_alen, i_iret, i_lret, i_aret, i_vret, i_oinit, i_cast, i_tsw, i_cases, i_mmin, i_mmax, i_lmin, i_throw, nb0, nb1, nint, nby0, rf_s, rf_n, of_r, of_n, tk_orf_rf, tk_c2, tk_ls, Value.category, tk_isR_ref, tk_isR_rf, tk_isR_null, y1, y2, hx, hk, v1]
  refine get_call hlV (by omega) htV (by simp [Value.category]) ?_
  simp -implicitDefEqProofs [i_aload, i_iload, i_lload, i_istore, i_lstore, i_astore, i_iinc, i_push, i_getI, i_getJ, i_getR, i_putI, i_putJ, i_putR, i_iadd, i_isub, i_imul, i_iand, i_ior, i_ixor, i_ishl, i_ishr, i_iushr, i_idiv, i_irem, i_ladd, i_lsub, i_lmul, i_land, i_lor, i_lxor, i_ldiv, i_lrem, i_lshl, i_lshr, i_lcmp, i_ineg, i_lneg, i_i2l, i_l2i, i_i2b, i_i2c, i_dup, i_pop, i_dup_x1, i_dup2, i_icmp_eq, i_icmp_lt, i_icmp_ge, i_icmp_gt, i_icmp_le, i_if_eq, i_if_lt, i_if_ge, i_if_gt, i_if_le, i_goto, i_ifnull, i_iald, i_bald, i_zald, i_lald, i_aald, i_iast, i_bast, i_zast, i_last, i_alen, i_iret, i_lret, i_aret, i_vret, i_oinit, i_cast, i_tsw, i_cases, i_mmin, i_mmax, i_lmin, i_throw, nb0, nb1, nint, nby0, rf_s, rf_n, of_r, of_n, tk_orf_rf, tk_c2, tk_ls, Value.category, tk_isR_ref, tk_isR_rf, tk_isR_null, u1, u2, hx, hk, htd]
  refine ⟨by simp, hr.1, hr.2.1, by simp [Value.category], 6, 0, 0, by omega, by omega, by omega, ?_⟩
  refine m_reckonC (t := t) (Nat.le_refl 6) hZ hC0 k1 ⟨y1, y2⟩ (a4 j _ eA2) htV (by omega) (fun S' hC' hF hsx hZ' ha' e1 e2 => ?_)
  simp -implicitDefEqProofs [i_aload, i_iload, i_lload, i_istore, i_lstore, i_astore, i_iinc, i_push, i_getI, i_getJ, i_getR, i_putI, i_putJ, i_putR, i_iadd, i_isub, i_imul, i_iand, i_ior, i_ixor, i_ishl, i_ishr, i_iushr, i_idiv, i_irem, i_ladd, i_lsub, i_lmul, i_land, i_lor, i_lxor, i_ldiv, i_lrem, i_lshl, i_lshr, i_lcmp, i_ineg, i_lneg, i_i2l, i_l2i, i_i2b, i_i2c, i_dup, i_pop, i_dup_x1, i_dup2, i_icmp_eq, i_icmp_lt, i_icmp_ge, i_icmp_gt, i_icmp_le, i_if_eq, i_if_lt, i_if_ge, i_if_gt, i_if_le, i_goto, i_ifnull, i_iald, i_bald, i_zald, i_lald, i_aald, i_iast, i_bast, i_zast, i_last, i_alen, i_iret, i_lret, i_aret, i_vret, i_oinit, i_cast, i_tsw, i_cases, i_mmin, i_mmax, i_lmin, i_throw, nb0, nb1, nint, nby0, rf_s, rf_n, of_r, of_n, tk_orf_rf, tk_c2, tk_ls, Value.category, tk_isR_ref, tk_isR_rf, tk_isR_null, hsx.1, hsx.2.1.trans hk, (hsx.2.2.2.2.1 12 1).trans k1, ha'.1, ha'.2, e1]
  exact H0 j _ t g eA2 rfl htV rfl hg rfl S' ρ _ hF hC'
/-- the latest clause is noted -/
theorem CI.lc (hC : CI Z ρ S x gh M) (hZ : Z.2.2.2.2.2.1 ∉ q_L S) (v : Int32) : CI Z ρ (s_I S 12 11 x v) x gh (M.1, M.2.1, M.2.2.1, M.2.2.2.1, M.2.2.2.2.1, M.2.2.2.2.2.1, M.2.2.2.2.2.2.1, M.2.2.2.2.2.2.2.1, (M.2.2.2.2.2.2.2.2.1, M.2.2.2.2.2.2.2.2.2.1, v)) := by
  have hC0 := hC
  obtain ⟨fS, fG, fV, p, p2, fF, fL, bl⟩ := gh
  obtain ⟨⟨tn, tg, tp⟩, acts, ⟨nS, pr, wo⟩, ⟨nG, os, ps, ls, re, su, du, le, nb, bf, br, bs⟩, ⟨nV, kd, wh, be, bi, pa, pd, la⟩, ⟨nF, mo⟩, ⟨nL, lsu, lra, lrk, ldu⟩, J, ⟨td, dry, lc⟩⟩ := M
  obtain ⟨cD0, cT0, cK0, cA0, cS0, cG0, cV0, cF0, cL0, cJ0⟩ := hC
  obtain ⟨hx, hk, hρ, htd, ht, hdry, hlc⟩ := cD0
  have s1 : ∀ b, b ∈ q_L S → ρ b ∉ [1] → sameAt S (s_I S 12 11 x v) b := fun b hb hn => s_I_same hb (fun z => hn (by rw [z, hρ]; simp))
  have xr1 : xr S (s_I S 12 11 x v) x := ⟨hx, rfl, fun _ => rfl⟩
  exact ⟨⟨hx, hk, hρ, by simpa -implicitDefEqProofs [z_q_L_s_I, z_q_K_s_I, z_q_I_s_I, z_q_J_s_I, z_q_R_s_I, z_q_n_s_I, z_q_aI_s_I, z_q_aJ_s_I, z_q_aR_s_I, z_q_L_s_J, z_q_K_s_J, z_q_I_s_J, z_q_J_s_J, z_q_R_s_J, z_q_n_s_J, z_q_aI_s_J, z_q_aJ_s_J, z_q_aR_s_J, z_q_L_s_R, z_q_K_s_R, z_q_I_s_R, z_q_J_s_R, z_q_R_s_R, z_q_n_s_R, z_q_aI_s_R, z_q_aJ_s_R, z_q_aR_s_R, z_q_L_s_aI, z_q_K_s_aI, z_q_I_s_aI, z_q_J_s_aI, z_q_R_s_aI, z_q_n_s_aI, z_q_aI_s_aI, z_q_aJ_s_aI, z_q_aR_s_aI, z_q_L_s_aJ, z_q_K_s_aJ, z_q_I_s_aJ, z_q_J_s_aJ, z_q_R_s_aJ, z_q_n_s_aJ, z_q_aI_s_aJ, z_q_aJ_s_aJ, z_q_aR_s_aJ, z_q_L_s_aR, z_q_K_s_aR, z_q_I_s_aR, z_q_J_s_aR, z_q_R_s_aR, z_q_n_s_aR, z_q_aI_s_aR, z_q_aJ_s_aR, z_q_aR_s_aR, z_q_L_s_new, z_q_K_s_new, z_q_I_s_new, z_q_J_s_new, z_q_R_s_new, z_q_n_s_new, z_q_aI_s_new, z_q_aJ_s_new, z_q_aR_s_new, z_q_L_s_arr, z_q_K_s_arr, z_q_I_s_arr, z_q_J_s_arr, z_q_R_s_arr, z_q_n_s_arr, z_q_aI_s_arr, z_q_aJ_s_arr, z_q_aR_s_arr] using htd, ht, by simpa -implicitDefEqProofs [z_q_L_s_I, z_q_K_s_I, z_q_I_s_I, z_q_J_s_I, z_q_R_s_I, z_q_n_s_I, z_q_aI_s_I, z_q_aJ_s_I, z_q_aR_s_I, z_q_L_s_J, z_q_K_s_J, z_q_I_s_J, z_q_J_s_J, z_q_R_s_J, z_q_n_s_J, z_q_aI_s_J, z_q_aJ_s_J, z_q_aR_s_J, z_q_L_s_R, z_q_K_s_R, z_q_I_s_R, z_q_J_s_R, z_q_R_s_R, z_q_n_s_R, z_q_aI_s_R, z_q_aJ_s_R, z_q_aR_s_R, z_q_L_s_aI, z_q_K_s_aI, z_q_I_s_aI, z_q_J_s_aI, z_q_R_s_aI, z_q_n_s_aI, z_q_aI_s_aI, z_q_aJ_s_aI, z_q_aR_s_aI, z_q_L_s_aJ, z_q_K_s_aJ, z_q_I_s_aJ, z_q_J_s_aJ, z_q_R_s_aJ, z_q_n_s_aJ, z_q_aI_s_aJ, z_q_aJ_s_aJ, z_q_aR_s_aJ, z_q_L_s_aR, z_q_K_s_aR, z_q_I_s_aR, z_q_J_s_aR, z_q_R_s_aR, z_q_n_s_aR, z_q_aI_s_aR, z_q_aJ_s_aR, z_q_aR_s_aR, z_q_L_s_new, z_q_K_s_new, z_q_I_s_new, z_q_J_s_new, z_q_R_s_new, z_q_n_s_new, z_q_aI_s_new, z_q_aJ_s_new, z_q_aR_s_new, z_q_L_s_arr, z_q_K_s_arr, z_q_I_s_arr, z_q_J_s_arr, z_q_R_s_arr, z_q_n_s_arr, z_q_aI_s_arr, z_q_aJ_s_arr, z_q_aR_s_arr] using hdry, by simp -implicitDefEqProofs [z_q_L_s_I, z_q_K_s_I, z_q_I_s_I, z_q_J_s_I, z_q_R_s_I, z_q_n_s_I, z_q_aI_s_I, z_q_aJ_s_I, z_q_aR_s_I, z_q_L_s_J, z_q_K_s_J, z_q_I_s_J, z_q_J_s_J, z_q_R_s_J, z_q_n_s_J, z_q_aI_s_J, z_q_aJ_s_J, z_q_aR_s_J, z_q_L_s_R, z_q_K_s_R, z_q_I_s_R, z_q_J_s_R, z_q_R_s_R, z_q_n_s_R, z_q_aI_s_R, z_q_aJ_s_R, z_q_aR_s_R, z_q_L_s_aI, z_q_K_s_aI, z_q_I_s_aI, z_q_J_s_aI, z_q_R_s_aI, z_q_n_s_aI, z_q_aI_s_aI, z_q_aJ_s_aI, z_q_aR_s_aI, z_q_L_s_aJ, z_q_K_s_aJ, z_q_I_s_aJ, z_q_J_s_aJ, z_q_R_s_aJ, z_q_n_s_aJ, z_q_aI_s_aJ, z_q_aJ_s_aJ, z_q_aR_s_aJ, z_q_L_s_aR, z_q_K_s_aR, z_q_I_s_aR, z_q_J_s_aR, z_q_R_s_aR, z_q_n_s_aR, z_q_aI_s_aR, z_q_aJ_s_aR, z_q_aR_s_aR, z_q_L_s_new, z_q_K_s_new, z_q_I_s_new, z_q_J_s_new, z_q_R_s_new, z_q_n_s_new, z_q_aI_s_new, z_q_aJ_s_new, z_q_aR_s_new, z_q_L_s_arr, z_q_K_s_arr, z_q_I_s_arr, z_q_J_s_arr, z_q_R_s_arr, z_q_n_s_arr, z_q_aI_s_arr, z_q_aJ_s_arr, z_q_aR_s_arr]⟩, cT0.same xr1 (sm.no s1 (by simp)) rx.rfl', cK0.same xr1 (sm.no s1 (by simp)) rx.rfl', cA0.same hZ xr1 (sm.no s1 (by simp)) rx.rfl', cS0.same hZ xr1 (sm.no s1 (by simp)) rx.rfl', cG0.same hZ xr1 (sm.no s1 (by simp)) rx.rfl', cV0.same hZ xr1 (sm.no s1 (by simp)) rx.rfl', cF0.same hZ xr1 (sm.no s1 (by simp)) rx.rfl', cL0.same hZ xr1 (sm.no s1 (by simp)) rx.rfl', cJ0.same xr1 (sm.no s1 (by simp)) rx.rfl'⟩
theorem s_aI_same {a b : Nat} {f : Nat → Int32} (hb : b ∈ q_L S) (h : b ≠ a) : sameAt S (s_aI S a f) b := by
  simp -implicitDefEqProofs [sameAt, z_q_L_s_I, z_q_K_s_I, z_q_I_s_I, z_q_J_s_I, z_q_R_s_I, z_q_n_s_I, z_q_aI_s_I, z_q_aJ_s_I, z_q_aR_s_I, z_q_L_s_J, z_q_K_s_J, z_q_I_s_J, z_q_J_s_J, z_q_R_s_J, z_q_n_s_J, z_q_aI_s_J, z_q_aJ_s_J, z_q_aR_s_J, z_q_L_s_R, z_q_K_s_R, z_q_I_s_R, z_q_J_s_R, z_q_R_s_R, z_q_n_s_R, z_q_aI_s_R, z_q_aJ_s_R, z_q_aR_s_R, z_q_L_s_aI, z_q_K_s_aI, z_q_I_s_aI, z_q_J_s_aI, z_q_R_s_aI, z_q_n_s_aI, z_q_aI_s_aI, z_q_aJ_s_aI, z_q_aR_s_aI, z_q_L_s_aJ, z_q_K_s_aJ, z_q_I_s_aJ, z_q_J_s_aJ, z_q_R_s_aJ, z_q_n_s_aJ, z_q_aI_s_aJ, z_q_aJ_s_aJ, z_q_aR_s_aJ, z_q_L_s_aR, z_q_K_s_aR, z_q_I_s_aR, z_q_J_s_aR, z_q_R_s_aR, z_q_n_s_aR, z_q_aI_s_aR, z_q_aJ_s_aR, z_q_aR_s_aR, z_q_L_s_new, z_q_K_s_new, z_q_I_s_new, z_q_J_s_new, z_q_R_s_new, z_q_n_s_new, z_q_aI_s_new, z_q_aJ_s_new, z_q_aR_s_new, z_q_L_s_arr, z_q_K_s_arr, z_q_I_s_arr, z_q_J_s_arr, z_q_R_s_arr, z_q_n_s_arr, z_q_aI_s_arr, z_q_aJ_s_arr, z_q_aR_s_arr, hb, h]
/-- a pass is noted: pays or not -/
theorem CI.note {t g : Nat} {S' : tk_S} (hC : CI Z ρ S x gh M) (hZ : Z.2.2.2.2.2.1 ∉ q_L S) (htV : t < M.2.2.2.2.1.1) (hg : g < 8) (v : Int32)
    (hS : S' = if 0 < v then s_I (s_aI (s_aI S (gh.2.2.2.1 t) (upd (q_aI S (gh.2.2.2.1 t)) g (nI M.2.2.2.2.2.2.2.2.1))) (gh.2.2.2.2.1 t) (upd (q_aI S (gh.2.2.2.2.1 t)) g (nI M.2.2.2.2.2.2.2.2.1))) 11 4 (gh.2.2.1 t) (nI M.2.2.2.2.2.2.2.2.1) else s_aI S (gh.2.2.2.1 t) (upd (q_aI S (gh.2.2.2.1 t)) g (nI M.2.2.2.2.2.2.2.2.1))) : CI Z ρ S' x gh (M.1, M.2.1, M.2.2.1, M.2.2.2.1, (M.2.2.2.2.1.1, M.2.2.2.2.1.2.1, M.2.2.2.2.1.2.2.1, M.2.2.2.2.1.2.2.2.1, M.2.2.2.2.1.2.2.2.2.1, upd M.2.2.2.2.1.2.2.2.2.2.1 (8 * t + g) (nI M.2.2.2.2.2.2.2.2.1), (if 0 < v then upd M.2.2.2.2.1.2.2.2.2.2.2.1 (8 * t + g) (nI M.2.2.2.2.2.2.2.2.1) else M.2.2.2.2.1.2.2.2.2.2.2.1), (if 0 < v then upd M.2.2.2.2.1.2.2.2.2.2.2.2 t (nI M.2.2.2.2.2.2.2.2.1) else M.2.2.2.2.1.2.2.2.2.2.2.2)), M.2.2.2.2.2) ∧ FO ρ ρ S S' ∧ sameAt S S' x ∧ q_L S' = q_L S := by
  have hC0 := hC
  obtain ⟨fS, fG, fV, p, p2, fF, fL, bl⟩ := gh
  obtain ⟨⟨tn, tg, tp⟩, acts, ⟨nS, pr, wo⟩, ⟨nG, os, ps, ls, re, su, du, le, nb, bf, br, bs⟩, ⟨nV, kd, wh, be, bi, pa, pd, la⟩, ⟨nF, mo⟩, ⟨nL, lsu, lra, lrk, ldu⟩, J, ⟨td, dry, lc⟩⟩ := M
  obtain ⟨cD0, cT0, cK0, cA0, cS0, cG0, cV0, cF0, cL0, cJ0⟩ := hC
  obtain ⟨hx, hk, hρ, htd, ht, hdry, hlc⟩ := cD0
  obtain ⟨l, e, h1, h2, h3, h31, h32, h4, h5⟩ := id cV0
  dsimp only at htV hS ⊢
  obtain ⟨w1, w2, w3, w4, w5⟩ := h5 t htV
  have hvr := h2.2.2.2 t htV
  have hS0 := hS
  have s0 : ∀ b, b ∈ q_L S → b ≠ p t → b ≠ p2 t → b ≠ fV t → sameAt S S' b := fun b hb n1 n2 n3 => by
    rw [hS0]
    by_cases hv : 0 < v
    · rw [if_pos hv]
      simp -implicitDefEqProofs [sameAt, z_q_L_s_I, z_q_K_s_I, z_q_I_s_I, z_q_J_s_I, z_q_R_s_I, z_q_n_s_I, z_q_aI_s_I, z_q_aJ_s_I, z_q_aR_s_I, z_q_L_s_J, z_q_K_s_J, z_q_I_s_J, z_q_J_s_J, z_q_R_s_J, z_q_n_s_J, z_q_aI_s_J, z_q_aJ_s_J, z_q_aR_s_J, z_q_L_s_R, z_q_K_s_R, z_q_I_s_R, z_q_J_s_R, z_q_R_s_R, z_q_n_s_R, z_q_aI_s_R, z_q_aJ_s_R, z_q_aR_s_R, z_q_L_s_aI, z_q_K_s_aI, z_q_I_s_aI, z_q_J_s_aI, z_q_R_s_aI, z_q_n_s_aI, z_q_aI_s_aI, z_q_aJ_s_aI, z_q_aR_s_aI, z_q_L_s_aJ, z_q_K_s_aJ, z_q_I_s_aJ, z_q_J_s_aJ, z_q_R_s_aJ, z_q_n_s_aJ, z_q_aI_s_aJ, z_q_aJ_s_aJ, z_q_aR_s_aJ, z_q_L_s_aR, z_q_K_s_aR, z_q_I_s_aR, z_q_J_s_aR, z_q_R_s_aR, z_q_n_s_aR, z_q_aI_s_aR, z_q_aJ_s_aR, z_q_aR_s_aR, z_q_L_s_new, z_q_K_s_new, z_q_I_s_new, z_q_J_s_new, z_q_R_s_new, z_q_n_s_new, z_q_aI_s_new, z_q_aJ_s_new, z_q_aR_s_new, z_q_L_s_arr, z_q_K_s_arr, z_q_I_s_arr, z_q_J_s_arr, z_q_R_s_arr, z_q_n_s_arr, z_q_aI_s_arr, z_q_aJ_s_arr, z_q_aR_s_arr, hb, n1, n2, n3]
    · rw [if_neg hv]
      exact s_aI_same hb n1
  have s1 : ∀ b, b ∈ q_L S → ρ b ∉ [45, 46, 47] → sameAt S S' b := fun b hb hn => s0 b hb (fun z => hn (by rw [z, w2]; simp)) (fun z => hn (by rw [z, w3]; simp)) (fun z => hn (by rw [z, hvr]; simp))
  have sx := s1 x hx (by rw [hρ]; simp)
  have hL' : q_L S' = q_L S := by
    rw [hS0]
    by_cases hv : 0 < v
    · rw [if_pos hv]; rfl
    · rw [if_neg hv]; rfl
  have n12 : ∀ i, i < nV → p2 i ≠ p t := fun i hi => ne_of_role (h5 i hi).2.2.1 w2 (by decide)
  have n21 : ∀ i, i < nV → p i ≠ p2 t := fun i hi => ne_of_role (h5 i hi).2.1 w3 (by decide)
  have nv : ∀ i, i < nV → ∀ y k, ρ y = k → k ≠ 45 → fV i ≠ y := fun i hi y k h1' h2' => ne_of_role (h2.2.2.2 i hi) h1' (Ne.symm h2')
  have eK : q_K S' = q_K S := by
    rw [hS0]
    by_cases hv : 0 < v
    · rw [if_pos hv]; rfl
    · rw [if_neg hv]; rfl
  have eR : q_R S' = q_R S := by
    rw [hS0]
    by_cases hv : 0 < v
    · rw [if_pos hv]; rfl
    · rw [if_neg hv]; rfl
  have eN : q_n S' = q_n S := by
    rw [hS0]
    by_cases hv : 0 < v
    · rw [if_pos hv]; rfl
    · rw [if_neg hv]; rfl
  have eI : ∀ c k b, ¬ (c = 11 ∧ k = 4) → q_I S' c k b = q_I S c k b := fun c k b hn => by
    rw [hS0]
    by_cases hv : 0 < v
    · rw [if_pos hv]
      simp -implicitDefEqProofs only [z_q_L_s_I, z_q_K_s_I, z_q_I_s_I, z_q_J_s_I, z_q_R_s_I, z_q_n_s_I, z_q_aI_s_I, z_q_aJ_s_I, z_q_aR_s_I, z_q_L_s_J, z_q_K_s_J, z_q_I_s_J, z_q_J_s_J, z_q_R_s_J, z_q_n_s_J, z_q_aI_s_J, z_q_aJ_s_J, z_q_aR_s_J, z_q_L_s_R, z_q_K_s_R, z_q_I_s_R, z_q_J_s_R, z_q_R_s_R, z_q_n_s_R, z_q_aI_s_R, z_q_aJ_s_R, z_q_aR_s_R, z_q_L_s_aI, z_q_K_s_aI, z_q_I_s_aI, z_q_J_s_aI, z_q_R_s_aI, z_q_n_s_aI, z_q_aI_s_aI, z_q_aJ_s_aI, z_q_aR_s_aI, z_q_L_s_aJ, z_q_K_s_aJ, z_q_I_s_aJ, z_q_J_s_aJ, z_q_R_s_aJ, z_q_n_s_aJ, z_q_aI_s_aJ, z_q_aJ_s_aJ, z_q_aR_s_aJ, z_q_L_s_aR, z_q_K_s_aR, z_q_I_s_aR, z_q_J_s_aR, z_q_R_s_aR, z_q_n_s_aR, z_q_aI_s_aR, z_q_aJ_s_aR, z_q_aR_s_aR, z_q_L_s_new, z_q_K_s_new, z_q_I_s_new, z_q_J_s_new, z_q_R_s_new, z_q_n_s_new, z_q_aI_s_new, z_q_aJ_s_new, z_q_aR_s_new, z_q_L_s_arr, z_q_K_s_arr, z_q_I_s_arr, z_q_J_s_arr, z_q_R_s_arr, z_q_n_s_arr, z_q_aI_s_arr, z_q_aJ_s_arr, z_q_aR_s_arr]
      rw [if_neg (fun z => hn ⟨z.1, z.2.1⟩)]
    · rw [if_neg hv]; rfl
  have eL4 : ∀ i, i < nV → q_I S' 11 4 (fV i) = (if 0 < v then upd la t (nI td) else la) i := fun i hi => by
    rw [hS0]
    by_cases hv : 0 < v
    · rw [if_pos hv, if_pos hv]
      simp -implicitDefEqProofs only [z_q_L_s_I, z_q_K_s_I, z_q_I_s_I, z_q_J_s_I, z_q_R_s_I, z_q_n_s_I, z_q_aI_s_I, z_q_aJ_s_I, z_q_aR_s_I, z_q_L_s_J, z_q_K_s_J, z_q_I_s_J, z_q_J_s_J, z_q_R_s_J, z_q_n_s_J, z_q_aI_s_J, z_q_aJ_s_J, z_q_aR_s_J, z_q_L_s_R, z_q_K_s_R, z_q_I_s_R, z_q_J_s_R, z_q_R_s_R, z_q_n_s_R, z_q_aI_s_R, z_q_aJ_s_R, z_q_aR_s_R, z_q_L_s_aI, z_q_K_s_aI, z_q_I_s_aI, z_q_J_s_aI, z_q_R_s_aI, z_q_n_s_aI, z_q_aI_s_aI, z_q_aJ_s_aI, z_q_aR_s_aI, z_q_L_s_aJ, z_q_K_s_aJ, z_q_I_s_aJ, z_q_J_s_aJ, z_q_R_s_aJ, z_q_n_s_aJ, z_q_aI_s_aJ, z_q_aJ_s_aJ, z_q_aR_s_aJ, z_q_L_s_aR, z_q_K_s_aR, z_q_I_s_aR, z_q_J_s_aR, z_q_R_s_aR, z_q_n_s_aR, z_q_aI_s_aR, z_q_aJ_s_aR, z_q_aR_s_aR, z_q_L_s_new, z_q_K_s_new, z_q_I_s_new, z_q_J_s_new, z_q_R_s_new, z_q_n_s_new, z_q_aI_s_new, z_q_aJ_s_new, z_q_aR_s_new, z_q_L_s_arr, z_q_K_s_arr, z_q_I_s_arr, z_q_J_s_arr, z_q_R_s_arr, z_q_n_s_arr, z_q_aI_s_arr, z_q_aJ_s_arr, z_q_aR_s_arr]
      by_cases hit : i = t
      · subst hit
        rw [pk_us]
        simp
      · rw [if_neg (fun z => hit (h3 i t hi htV z.2.2)), pk_un hit]
        exact (h5 i hi).2.2.2.1
    · rw [if_neg hv, if_neg hv]
      exact (h5 i hi).2.2.2.1
  have eP : ∀ i, i < nV → ∀ k, k < 8 → q_aI S' (p i) k = upd pa (8 * t + g) (nI td) (8 * i + k) := fun i hi k hk8 => by
    have h5i := ((h5 i hi).2.2.2.2 k hk8).1
    by_cases hit : i = t
    · subst hit
      have : q_aI S' (p i) = upd (q_aI S (p i)) g (nI td) := by
        rw [hS0]
        by_cases hv : 0 < v
        · rw [if_pos hv]
          simp -implicitDefEqProofs [z_q_L_s_I, z_q_K_s_I, z_q_I_s_I, z_q_J_s_I, z_q_R_s_I, z_q_n_s_I, z_q_aI_s_I, z_q_aJ_s_I, z_q_aR_s_I, z_q_L_s_J, z_q_K_s_J, z_q_I_s_J, z_q_J_s_J, z_q_R_s_J, z_q_n_s_J, z_q_aI_s_J, z_q_aJ_s_J, z_q_aR_s_J, z_q_L_s_R, z_q_K_s_R, z_q_I_s_R, z_q_J_s_R, z_q_R_s_R, z_q_n_s_R, z_q_aI_s_R, z_q_aJ_s_R, z_q_aR_s_R, z_q_L_s_aI, z_q_K_s_aI, z_q_I_s_aI, z_q_J_s_aI, z_q_R_s_aI, z_q_n_s_aI, z_q_aI_s_aI, z_q_aJ_s_aI, z_q_aR_s_aI, z_q_L_s_aJ, z_q_K_s_aJ, z_q_I_s_aJ, z_q_J_s_aJ, z_q_R_s_aJ, z_q_n_s_aJ, z_q_aI_s_aJ, z_q_aJ_s_aJ, z_q_aR_s_aJ, z_q_L_s_aR, z_q_K_s_aR, z_q_I_s_aR, z_q_J_s_aR, z_q_R_s_aR, z_q_n_s_aR, z_q_aI_s_aR, z_q_aJ_s_aR, z_q_aR_s_aR, z_q_L_s_new, z_q_K_s_new, z_q_I_s_new, z_q_J_s_new, z_q_R_s_new, z_q_n_s_new, z_q_aI_s_new, z_q_aJ_s_new, z_q_aR_s_new, z_q_L_s_arr, z_q_K_s_arr, z_q_I_s_arr, z_q_J_s_arr, z_q_R_s_arr, z_q_n_s_arr, z_q_aI_s_arr, z_q_aJ_s_arr, z_q_aR_s_arr, n21 i hi]
        · rw [if_neg hv]
          simp -implicitDefEqProofs [z_q_L_s_I, z_q_K_s_I, z_q_I_s_I, z_q_J_s_I, z_q_R_s_I, z_q_n_s_I, z_q_aI_s_I, z_q_aJ_s_I, z_q_aR_s_I, z_q_L_s_J, z_q_K_s_J, z_q_I_s_J, z_q_J_s_J, z_q_R_s_J, z_q_n_s_J, z_q_aI_s_J, z_q_aJ_s_J, z_q_aR_s_J, z_q_L_s_R, z_q_K_s_R, z_q_I_s_R, z_q_J_s_R, z_q_R_s_R, z_q_n_s_R, z_q_aI_s_R, z_q_aJ_s_R, z_q_aR_s_R, z_q_L_s_aI, z_q_K_s_aI, z_q_I_s_aI, z_q_J_s_aI, z_q_R_s_aI, z_q_n_s_aI, z_q_aI_s_aI, z_q_aJ_s_aI, z_q_aR_s_aI, z_q_L_s_aJ, z_q_K_s_aJ, z_q_I_s_aJ, z_q_J_s_aJ, z_q_R_s_aJ, z_q_n_s_aJ, z_q_aI_s_aJ, z_q_aJ_s_aJ, z_q_aR_s_aJ, z_q_L_s_aR, z_q_K_s_aR, z_q_I_s_aR, z_q_J_s_aR, z_q_R_s_aR, z_q_n_s_aR, z_q_aI_s_aR, z_q_aJ_s_aR, z_q_aR_s_aR, z_q_L_s_new, z_q_K_s_new, z_q_I_s_new, z_q_J_s_new, z_q_R_s_new, z_q_n_s_new, z_q_aI_s_new, z_q_aJ_s_new, z_q_aR_s_new, z_q_L_s_arr, z_q_K_s_arr, z_q_I_s_arr, z_q_J_s_arr, z_q_R_s_arr, z_q_n_s_arr, z_q_aI_s_arr, z_q_aJ_s_arr, z_q_aR_s_arr]
      rw [this]
      by_cases hkg : k = g
      · rw [hkg, pk_us, pk_us]
      · rw [pk_un hkg, pk_un (by omega)]
        exact h5i
    · have hne : p i ≠ p t := fun z => hit (h31 i t hi htV z)
      have : q_aI S' (p i) = q_aI S (p i) := by
        rw [hS0]
        by_cases hv : 0 < v
        · rw [if_pos hv]
          simp -implicitDefEqProofs [z_q_L_s_I, z_q_K_s_I, z_q_I_s_I, z_q_J_s_I, z_q_R_s_I, z_q_n_s_I, z_q_aI_s_I, z_q_aJ_s_I, z_q_aR_s_I, z_q_L_s_J, z_q_K_s_J, z_q_I_s_J, z_q_J_s_J, z_q_R_s_J, z_q_n_s_J, z_q_aI_s_J, z_q_aJ_s_J, z_q_aR_s_J, z_q_L_s_R, z_q_K_s_R, z_q_I_s_R, z_q_J_s_R, z_q_R_s_R, z_q_n_s_R, z_q_aI_s_R, z_q_aJ_s_R, z_q_aR_s_R, z_q_L_s_aI, z_q_K_s_aI, z_q_I_s_aI, z_q_J_s_aI, z_q_R_s_aI, z_q_n_s_aI, z_q_aI_s_aI, z_q_aJ_s_aI, z_q_aR_s_aI, z_q_L_s_aJ, z_q_K_s_aJ, z_q_I_s_aJ, z_q_J_s_aJ, z_q_R_s_aJ, z_q_n_s_aJ, z_q_aI_s_aJ, z_q_aJ_s_aJ, z_q_aR_s_aJ, z_q_L_s_aR, z_q_K_s_aR, z_q_I_s_aR, z_q_J_s_aR, z_q_R_s_aR, z_q_n_s_aR, z_q_aI_s_aR, z_q_aJ_s_aR, z_q_aR_s_aR, z_q_L_s_new, z_q_K_s_new, z_q_I_s_new, z_q_J_s_new, z_q_R_s_new, z_q_n_s_new, z_q_aI_s_new, z_q_aJ_s_new, z_q_aR_s_new, z_q_L_s_arr, z_q_K_s_arr, z_q_I_s_arr, z_q_J_s_arr, z_q_R_s_arr, z_q_n_s_arr, z_q_aI_s_arr, z_q_aJ_s_arr, z_q_aR_s_arr, n21 i hi, hne]
        · rw [if_neg hv]
          simp -implicitDefEqProofs [z_q_L_s_I, z_q_K_s_I, z_q_I_s_I, z_q_J_s_I, z_q_R_s_I, z_q_n_s_I, z_q_aI_s_I, z_q_aJ_s_I, z_q_aR_s_I, z_q_L_s_J, z_q_K_s_J, z_q_I_s_J, z_q_J_s_J, z_q_R_s_J, z_q_n_s_J, z_q_aI_s_J, z_q_aJ_s_J, z_q_aR_s_J, z_q_L_s_R, z_q_K_s_R, z_q_I_s_R, z_q_J_s_R, z_q_R_s_R, z_q_n_s_R, z_q_aI_s_R, z_q_aJ_s_R, z_q_aR_s_R, z_q_L_s_aI, z_q_K_s_aI, z_q_I_s_aI, z_q_J_s_aI, z_q_R_s_aI, z_q_n_s_aI, z_q_aI_s_aI, z_q_aJ_s_aI, z_q_aR_s_aI, z_q_L_s_aJ, z_q_K_s_aJ, z_q_I_s_aJ, z_q_J_s_aJ, z_q_R_s_aJ, z_q_n_s_aJ, z_q_aI_s_aJ, z_q_aJ_s_aJ, z_q_aR_s_aJ, z_q_L_s_aR, z_q_K_s_aR, z_q_I_s_aR, z_q_J_s_aR, z_q_R_s_aR, z_q_n_s_aR, z_q_aI_s_aR, z_q_aJ_s_aR, z_q_aR_s_aR, z_q_L_s_new, z_q_K_s_new, z_q_I_s_new, z_q_J_s_new, z_q_R_s_new, z_q_n_s_new, z_q_aI_s_new, z_q_aJ_s_new, z_q_aR_s_new, z_q_L_s_arr, z_q_K_s_arr, z_q_I_s_arr, z_q_J_s_arr, z_q_R_s_arr, z_q_n_s_arr, z_q_aI_s_arr, z_q_aJ_s_arr, z_q_aR_s_arr, hne]
      rw [this, pk_un (by omega)]
      exact h5i
  have eD : ∀ i, i < nV → ∀ k, k < 8 → q_aI S' (p2 i) k = (if 0 < v then upd pd (8 * t + g) (nI td) else pd) (8 * i + k) := fun i hi k hk8 => by
    have h5i := ((h5 i hi).2.2.2.2 k hk8).2
    by_cases hv : 0 < v
    · rw [if_pos hv]
      rw [if_pos hv] at hS0
      by_cases hit : i = t
      · subst hit
        have : q_aI S' (p2 i) = upd (q_aI S (p2 i)) g (nI td) := by
          rw [hS0]
          simp -implicitDefEqProofs [z_q_L_s_I, z_q_K_s_I, z_q_I_s_I, z_q_J_s_I, z_q_R_s_I, z_q_n_s_I, z_q_aI_s_I, z_q_aJ_s_I, z_q_aR_s_I, z_q_L_s_J, z_q_K_s_J, z_q_I_s_J, z_q_J_s_J, z_q_R_s_J, z_q_n_s_J, z_q_aI_s_J, z_q_aJ_s_J, z_q_aR_s_J, z_q_L_s_R, z_q_K_s_R, z_q_I_s_R, z_q_J_s_R, z_q_R_s_R, z_q_n_s_R, z_q_aI_s_R, z_q_aJ_s_R, z_q_aR_s_R, z_q_L_s_aI, z_q_K_s_aI, z_q_I_s_aI, z_q_J_s_aI, z_q_R_s_aI, z_q_n_s_aI, z_q_aI_s_aI, z_q_aJ_s_aI, z_q_aR_s_aI, z_q_L_s_aJ, z_q_K_s_aJ, z_q_I_s_aJ, z_q_J_s_aJ, z_q_R_s_aJ, z_q_n_s_aJ, z_q_aI_s_aJ, z_q_aJ_s_aJ, z_q_aR_s_aJ, z_q_L_s_aR, z_q_K_s_aR, z_q_I_s_aR, z_q_J_s_aR, z_q_R_s_aR, z_q_n_s_aR, z_q_aI_s_aR, z_q_aJ_s_aR, z_q_aR_s_aR, z_q_L_s_new, z_q_K_s_new, z_q_I_s_new, z_q_J_s_new, z_q_R_s_new, z_q_n_s_new, z_q_aI_s_new, z_q_aJ_s_new, z_q_aR_s_new, z_q_L_s_arr, z_q_K_s_arr, z_q_I_s_arr, z_q_J_s_arr, z_q_R_s_arr, z_q_n_s_arr, z_q_aI_s_arr, z_q_aJ_s_arr, z_q_aR_s_arr, n12 i hi]
        rw [this]
        by_cases hkg : k = g
        · rw [hkg, pk_us, pk_us]
        · rw [pk_un hkg, pk_un (by omega)]
          exact h5i
      · have hne : p2 i ≠ p2 t := fun z => hit (h32 i t hi htV z)
        have : q_aI S' (p2 i) = q_aI S (p2 i) := by
          rw [hS0]
          simp -implicitDefEqProofs [z_q_L_s_I, z_q_K_s_I, z_q_I_s_I, z_q_J_s_I, z_q_R_s_I, z_q_n_s_I, z_q_aI_s_I, z_q_aJ_s_I, z_q_aR_s_I, z_q_L_s_J, z_q_K_s_J, z_q_I_s_J, z_q_J_s_J, z_q_R_s_J, z_q_n_s_J, z_q_aI_s_J, z_q_aJ_s_J, z_q_aR_s_J, z_q_L_s_R, z_q_K_s_R, z_q_I_s_R, z_q_J_s_R, z_q_R_s_R, z_q_n_s_R, z_q_aI_s_R, z_q_aJ_s_R, z_q_aR_s_R, z_q_L_s_aI, z_q_K_s_aI, z_q_I_s_aI, z_q_J_s_aI, z_q_R_s_aI, z_q_n_s_aI, z_q_aI_s_aI, z_q_aJ_s_aI, z_q_aR_s_aI, z_q_L_s_aJ, z_q_K_s_aJ, z_q_I_s_aJ, z_q_J_s_aJ, z_q_R_s_aJ, z_q_n_s_aJ, z_q_aI_s_aJ, z_q_aJ_s_aJ, z_q_aR_s_aJ, z_q_L_s_aR, z_q_K_s_aR, z_q_I_s_aR, z_q_J_s_aR, z_q_R_s_aR, z_q_n_s_aR, z_q_aI_s_aR, z_q_aJ_s_aR, z_q_aR_s_aR, z_q_L_s_new, z_q_K_s_new, z_q_I_s_new, z_q_J_s_new, z_q_R_s_new, z_q_n_s_new, z_q_aI_s_new, z_q_aJ_s_new, z_q_aR_s_new, z_q_L_s_arr, z_q_K_s_arr, z_q_I_s_arr, z_q_J_s_arr, z_q_R_s_arr, z_q_n_s_arr, z_q_aI_s_arr, z_q_aJ_s_arr, z_q_aR_s_arr, n12 i hi, hne]
        rw [this, pk_un (by omega)]
        exact h5i
    · rw [if_neg hv]
      rw [if_neg hv] at hS0
      have : q_aI S' (p2 i) = q_aI S (p2 i) := by
        rw [hS0]
        simp -implicitDefEqProofs [z_q_L_s_I, z_q_K_s_I, z_q_I_s_I, z_q_J_s_I, z_q_R_s_I, z_q_n_s_I, z_q_aI_s_I, z_q_aJ_s_I, z_q_aR_s_I, z_q_L_s_J, z_q_K_s_J, z_q_I_s_J, z_q_J_s_J, z_q_R_s_J, z_q_n_s_J, z_q_aI_s_J, z_q_aJ_s_J, z_q_aR_s_J, z_q_L_s_R, z_q_K_s_R, z_q_I_s_R, z_q_J_s_R, z_q_R_s_R, z_q_n_s_R, z_q_aI_s_R, z_q_aJ_s_R, z_q_aR_s_R, z_q_L_s_aI, z_q_K_s_aI, z_q_I_s_aI, z_q_J_s_aI, z_q_R_s_aI, z_q_n_s_aI, z_q_aI_s_aI, z_q_aJ_s_aI, z_q_aR_s_aI, z_q_L_s_aJ, z_q_K_s_aJ, z_q_I_s_aJ, z_q_J_s_aJ, z_q_R_s_aJ, z_q_n_s_aJ, z_q_aI_s_aJ, z_q_aJ_s_aJ, z_q_aR_s_aJ, z_q_L_s_aR, z_q_K_s_aR, z_q_I_s_aR, z_q_J_s_aR, z_q_R_s_aR, z_q_n_s_aR, z_q_aI_s_aR, z_q_aJ_s_aR, z_q_aR_s_aR, z_q_L_s_new, z_q_K_s_new, z_q_I_s_new, z_q_J_s_new, z_q_R_s_new, z_q_n_s_new, z_q_aI_s_new, z_q_aJ_s_new, z_q_aR_s_new, z_q_L_s_arr, z_q_K_s_arr, z_q_I_s_arr, z_q_J_s_arr, z_q_R_s_arr, z_q_n_s_arr, z_q_aI_s_arr, z_q_aJ_s_arr, z_q_aR_s_arr, n12 i hi]
      rw [this]
      exact h5i
  have cV1 : cV Z ρ S' x fV p p2 nV kd wh be bi (upd pa (8 * t + g) (nI td)) (if 0 < v then upd pd (8 * t + g) (nI td) else pd) (if 0 < v then upd la t (nI td) else la) := by
    refine ⟨l, e, (sx.2.2.2.2.1 12 6).trans h1, ⟨?_, h2.2.1, ?_, h2.2.2.2⟩, h3, h31, h32, h4, fun i hi => ?_⟩
    · have hel : e ∈ q_L S → q_K S e = 18 → sameAt S S' e := fun z1 z2 => by
        refine s0 e z1 (fun z => ?_) (fun z => ?_) (fun z => ?_)
        · rw [z, w1.2.2.1.2.2.1] at z2; cases z2
        · rw [z, w1.2.2.2.1.2.2.1] at z2; cases z2
        · rw [z, w1.2.1] at z2; cases z2
      obtain ⟨y1, y2, y3, y4, y5, y6, y7, y8⟩ := h2.1
      have sl := s1 l y1 (by rw [h2.2.1]; simp)
      refine ⟨sl.1, sl.2.1.trans y2, (sl.2.2.1 _ _).trans y3, (sl.2.2.2.2.1 _ _).trans y4, y5, y6, fun i hi => ⟨by rw [hL']; exact (y7 i hi).1, by rw [eK]; exact (y7 i hi).2⟩, ?_⟩
      rcases y8 with y8 | ⟨b1, b2, b3, b4, b5, b6⟩
      · exact Or.inl y8
      · obtain ⟨c1, c2, c3, c4, c5, c6, c7, c8, c9⟩ := hel b1 b2
        exact Or.inr ⟨c1, c2.trans b2, by rw [c6]; exact b3, by rw [c6]; exact b4, by rw [c6]; exact b5, fun i hi => by rw [c9]; exact b6 i hi⟩
    · rcases h2.2.2.1 with y | ⟨y1, y2, y3⟩
      · exact Or.inl y
      · exact Or.inr ⟨by rw [hL']; exact y1, by rw [eK]; exact y2, y3⟩
    · obtain ⟨⟨a1, a2, ⟨a3, a4, a5, a6⟩, ⟨a7, a8, a9, a10⟩, a11, a12, a13, a14⟩, b2, b3, b4, b5⟩ := h5 i hi
      refine ⟨⟨by rw [hL']; exact a1, by rw [eK]; exact a2, ⟨by rw [eR]; exact a3, by rw [hL']; exact a4, by rw [eK]; exact a5, by rw [eN]; exact a6⟩, ⟨by rw [eR]; exact a7, by rw [hL']; exact a8, by rw [eK]; exact a9, by rw [eN]; exact a10⟩, by rw [eI _ _ _ (by simp)]; exact a11, by rw [eI _ _ _ (by simp)]; exact a12, by rw [eI _ _ _ (by simp)]; exact a13, by rw [eI _ _ _ (by simp)]; exact a14⟩, b2, b3, eL4 i hi, fun k hk8 => ⟨eP i hi k hk8, eD i hi k hk8⟩⟩
  exact ⟨⟨cD.same ⟨hx, hk, hρ, htd, ht, hdry, hlc⟩ sx (rx.rfl' x hx), cT0.same (xr.of sx) (sm.no s1 (by simp)) rx.rfl', cK0.same (xr.of sx) (sm.no s1 (by simp)) rx.rfl', cA0.same hZ (xr.of sx) (sm.no s1 (by simp)) rx.rfl', cS0.same hZ (xr.of sx) (sm.no s1 (by simp)) rx.rfl', cG0.same hZ (xr.of sx) (sm.no s1 (by simp)) rx.rfl', cV1, cF0.same hZ (xr.of sx) (sm.no s1 (by simp)) rx.rfl', cL0.same hZ (xr.of sx) (sm.no s1 (by simp)) rx.rfl', cJ0.same (xr.of sx) (sm.no s1 (by simp)) rx.rfl'⟩, FO.of (fun b hb => by rw [hL']; exact hb) rx.rfl' s1 (by simp), sx, hL'⟩
end PUB6

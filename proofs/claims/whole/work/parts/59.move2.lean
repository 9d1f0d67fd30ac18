/-! THE TRUST'S OWN METHODS: moveOn, takeToll -/
section MOVE2
variable {Z : tk_Z} {d mc ms : Nat} {S : tk_S} {QR : tk_R}
def gateM (td : Nat) (re su : Nat → Int32) (i : Nat) (k : mK) : mK := match k.2.1 i with
  | none => k
  | some f => if k.2.2.1 i = td then keepM td re su i f k else k
def gatesM (td : Nat) (re su : Nat → Int32) : Nat → Nat → mK → mK
  | 0, _, k => k
  | m + 1, i, k => gatesM td re su m (i + 1) (gateM td re su i k)
theorem keepM_ge (td : Nat) (re su : Nat → Int32) (i f : Nat) (k : mK) : k.2.2.2.2.1 ≤ (keepM td re su i f k).2.2.2.2.1 ∧ (keepM td re su i f k).2.2.2.2.1 ≤ k.2.2.2.2.1 + 1 := by
  unfold keepM
  by_cases h1 : k.2.2.2.1 i = 0
  · rw [if_pos h1]; exact ⟨Nat.le_refl _, Nat.le_succ _⟩
  · rw [if_neg h1]
    by_cases h2 : k.1 f < (re i).toInt64
    · rw [if_pos h2]; exact ⟨Nat.le_succ _, Nat.le_refl _⟩
    · rw [if_neg h2]; exact ⟨Nat.le_succ _, Nat.le_refl _⟩
theorem gateM_ge (td : Nat) (re su : Nat → Int32) (i : Nat) (k : mK) : k.2.2.2.2.1 ≤ (gateM td re su i k).2.2.2.2.1 ∧ (gateM td re su i k).2.2.2.2.1 ≤ k.2.2.2.2.1 + 1 := by
  unfold gateM
  split
  · exact ⟨Nat.le_refl _, Nat.le_succ _⟩
  · split
    · exact keepM_ge td re su i _ k
    · exact ⟨Nat.le_refl _, Nat.le_succ _⟩
theorem gatesM_ge (td : Nat) (re su : Nat → Int32) : ∀ m i (k : mK), k.2.2.2.2.1 ≤ (gatesM td re su m i k).2.2.2.2.1 := by
  intro m
  induction m with
  | zero => intro i k; exact Nat.le_refl _
  | succ m ih =>
    intro i k
    exact Nat.le_trans (gateM_ge td re su i k).1 (ih (i + 1) _)
theorem keepM_du (td : Nat) (re su : Nat → Int32) (i f : Nat) (k : mK) (j : Nat) : (keepM td re su i f k).2.2.1 j ≤ if j = i then k.2.2.1 i + 91 else k.2.2.1 j := by
  unfold keepM
  by_cases h1 : k.2.2.2.1 i = 0
  · rw [if_pos h1]
    dsimp only
    split
    · rename_i h; rw [h]; omega
    · exact Nat.le_refl _
  · rw [if_neg h1]
    by_cases h2 : k.1 f < (re i).toInt64
    · rw [if_pos h2]
      dsimp only
      split
      · rename_i h; rw [h]; omega
      · exact Nat.le_refl _
    · rw [if_neg h2]
      dsimp only
      split
      · rename_i h; rw [h, va_up_self]; exact Nat.le_refl _
      · rename_i h; rw [va_up_ne _ _ h]; exact Nat.le_refl _
theorem keepM_le (td : Nat) (re su : Nat → Int32) (i f : Nat) (k : mK) (j : Nat) : (keepM td re su i f k).2.2.2.1 j ≤ k.2.2.2.1 j := by
  unfold keepM
  by_cases h1 : k.2.2.2.1 i = 0
  · rw [if_pos h1]; exact Nat.le_refl _
  · rw [if_neg h1]
    by_cases h2 : k.1 f < (re i).toInt64
    · rw [if_pos h2]; exact Nat.le_refl _
    · rw [if_neg h2]
      dsimp only
      by_cases hj : j = i
      · rw [hj, va_up_self]; omega
      · rw [va_up_ne _ _ hj]; exact Nat.le_refl _
/-- but for the box, the gates, the farmers, the loans -/
def bgF (ρ ρ' : Nat → Nat) (S S' : tk_S) : Prop := gr S S' ∧ rx ρ ρ' S ∧ ∀ b, b ∈ q_L S → ρ b ∉ [4, 21, 41, 48, 49] → sameAt S S' b
theorem bgF.rfl' {ρ : Nat → Nat} : bgF ρ ρ S S := ⟨fun _ h => h, fun _ _ => rfl, fun b hb _ => sameAt.rfl' hb⟩
theorem bgF.trans {ρ ρ1 ρ2 : Nat → Nat} {S1 S2 : tk_S} (h : bgF ρ ρ1 S S1) (g : bgF ρ1 ρ2 S1 S2) : bgF ρ ρ2 S S2 := ⟨h.1.trans g.1, fun b hb => (g.2.1 b (h.1 b hb)).trans (h.2.1 b hb), fun b hb hn => (h.2.2 b hb hn).trans (g.2.2 b (h.1 b hb) (by rw [h.2.1 b hb]; exact hn))⟩
theorem blF.bg {ρ ρ' : Nat → Nat} {S' : tk_S} (h : blF ρ ρ' S S') : bgF ρ ρ' S S' := ⟨h.1, h.2.1, fun b hb hn => h.2.2 b hb (fun z => hn (by
  simp only [List.mem_cons, List.not_mem_nil, or_false] at z ⊢
  omega))⟩
abbrev mW : Type := (Nat → Int64) × mK
/-- the day moves on to td -/
def moveM (td nG nL : Nat) (re su lsu lra lrk : Nat → Int32) (w : mW) : mW :=
  if td % 365 = 0 then ((interM td nL lsu lra lrk (w.1, w.2.2.2.2.2)).1, gatesM td re su nG 0 (w.2.1, w.2.2.1, w.2.2.2.1, w.2.2.2.2.1, (interM td nL lsu lra lrk (w.1, w.2.2.2.2.2)).2))
  else (w.1, gatesM td re su nG 0 w.2)
set_option maxHeartbeats 4000000 in
theorem m_moveOn {ρ : Nat → Nat} {x nS nF nG nL td : Nat} {fG fS fF fL bl os nb bf : Nat → Nat} {ps re su br bs lsu lra lrk : Nat → Int32} {w : mW} (hd : 8 ≤ d) (hZ : Z.2.2.2.2.2.1 ∉ q_L S) (hx : x ∈ q_L S) (hk : q_K S x = 12) (hρ : ρ x = 1) (htd : q_I S 12 9 x = nI td) (ht : td ≤ 9998) (hG : cG Z ρ S x fG fS fF bl nS nF nG os ps w.2.2.1 re su w.2.2.2.1 w.2.2.2.2.1 nb bf br bs) (hF : cF Z ρ S x fF nF w.2.1) (hL : cL Z ρ S x fL nL lsu lra lrk w.1) (hJ : cJ' ρ S x w.2.2.2.2.2) (hle : ∀ i, w.2.2.2.2.1 i ≤ 1000) (hdu : ∀ i, w.2.2.2.1 i ≤ 10090) (hJn : (moveM (td + 1) nG nL re su lsu lra lrk w).2.2.2.2.2.1 < 12000) (hbx : (td + 1) % 365 = 0 → ∀ m, m < 4 → 0 ≤ (ranksM (td + 1) nL lrk m (growM lsu lra nL w.1, w.2.2.2.2.2)).2.2.1)
    (hmc : 5 * (lvl (moveM (td + 1) nG nL re su lsu lra lrk w).2.2.2.2.2.1 - lvl w.2.2.2.2.2.1) ≤ mc) (hms : 60000 * (lvl (moveM (td + 1) nG nL re su lsu lra lrk w).2.2.2.2.2.1 - lvl w.2.2.2.2.2.1) ≤ ms)
    (H : ∀ S' ρ', bgF ρ ρ' (s_I S 12 9 x (nI (td + 1))) S' → cG Z ρ' S' x fG fS fF bl nS nF nG os ps (moveM (td + 1) nG nL re su lsu lra lrk w).2.2.1 re su (moveM (td + 1) nG nL re su lsu lra lrk w).2.2.2.1 (moveM (td + 1) nG nL re su lsu lra lrk w).2.2.2.2.1 nb bf br bs → cF Z ρ' S' x fF nF (moveM (td + 1) nG nL re su lsu lra lrk w).2.1 → cL Z ρ' S' x fL nL lsu lra lrk (moveM (td + 1) nG nL re su lsu lra lrk w).1 → cJ' ρ' S' x (moveM (td + 1) nG nL re su lsu lra lrk w).2.2.2.2.2 → QR none S') : tk_M Z mX11_moveOn d mc ms [.ref x] S QR tk_noX := by
  refine M_X11_moveOn (Nat.le_of_ble_eq_true rfl) (fun E hE => hE.1 _ _ _ _ _ ?_)
  generalize hS0 : s_I S 12 9 x (nI (td + 1)) = S0 at H
  have s0 : ∀ b, b ∈ q_L S → b ≠ x → sameAt S S0 b := fun b hb hn => by rw [← hS0]; exact s_I_same hb hn
  have hx0 : x ∈ q_L S0 := by rw [← hS0]; exact hx
  have hk0 : q_K S0 x = 12 := by rw [← hS0]; exact hk
  have ht0 : q_I S0 12 9 x = nI (td + 1) := by rw [← hS0]; simp -implicitDefEqProofs [z_q_L_s_I, z_q_K_s_I, z_q_I_s_I, z_q_J_s_I, z_q_R_s_I, z_q_n_s_I, z_q_aI_s_I, z_q_aJ_s_I, z_q_aR_s_I, z_q_L_s_J, z_q_K_s_J, z_q_I_s_J, z_q_J_s_J, z_q_R_s_J, z_q_n_s_J, z_q_aI_s_J, z_q_aJ_s_J, z_q_aR_s_J, z_q_L_s_R, z_q_K_s_R, z_q_I_s_R, z_q_J_s_R, z_q_R_s_R, z_q_n_s_R, z_q_aI_s_R, z_q_aJ_s_R, z_q_aR_s_R, z_q_L_s_aI, z_q_K_s_aI, z_q_I_s_aI, z_q_J_s_aI, z_q_R_s_aI, z_q_n_s_aI, z_q_aI_s_aI, z_q_aJ_s_aI, z_q_aR_s_aI, z_q_L_s_aJ, z_q_K_s_aJ, z_q_I_s_aJ, z_q_J_s_aJ, z_q_R_s_aJ, z_q_n_s_aJ, z_q_aI_s_aJ, z_q_aJ_s_aJ, z_q_aR_s_aJ, z_q_L_s_aR, z_q_K_s_aR, z_q_I_s_aR, z_q_J_s_aR, z_q_R_s_aR, z_q_n_s_aR, z_q_aI_s_aR, z_q_aJ_s_aR, z_q_aR_s_aR, z_q_L_s_new, z_q_K_s_new, z_q_I_s_new, z_q_J_s_new, z_q_R_s_new, z_q_n_s_new, z_q_aI_s_new, z_q_aJ_s_new, z_q_aR_s_new, z_q_L_s_arr, z_q_K_s_arr, z_q_I_s_arr, z_q_J_s_arr, z_q_R_s_arr, z_q_n_s_arr, z_q_aI_s_arr, z_q_aJ_s_arr, z_q_aR_s_arr]
  have hZ0 : Z.2.2.2.2.2.1 ∉ q_L S0 := by rw [← hS0]; exact hZ
  have xr0 : xr S S0 x := ⟨hx0, hk0.trans hk.symm, fun k => by rw [← hS0]; rfl⟩
  have sm0 : ∀ R, 1 ∉ R → sm ρ S S0 R := fun R hR => sm_one hρ hR s0
  have hG0 := hG.same hZ xr0 (sm0 _ (by simp)) (rx.rfl' (ρ := ρ))
  have hF0 := hF.same hZ xr0 (sm0 _ (by simp)) (rx.rfl' (ρ := ρ))
  have hL0 := hL.same hZ xr0 (sm0 _ (by simp)) (rx.rfl' (ρ := ρ))
  have hJ0 := hJ.same xr0 (sm0 _ (by simp)) (rx.rfl' (ρ := ρ))
  obtain ⟨ldu, mo, ls, du, le, J⟩ := w
  dsimp only at hG0 hF0 hL0 hJ0 hle hdu hJn hbx hmc hms H
  clear hG hF hL hJ
  generalize hP : moveM (td + 1) nG nL re su lsu lra lrk (ldu, mo, ls, du, le, J) = P at *
  have loop : ∀ m i S1 ρ1 (k1 : mK) ldu1 cs ss x2, m + i = nG → Z.2.2.2.2.2.1 ∉ q_L S1 → bgF ρ ρ1 S0 S1 → cG Z ρ1 S1 x fG fS fF bl nS nF nG os ps k1.2.1 re su k1.2.2.1 k1.2.2.2.1 nb bf br bs → cF Z ρ1 S1 x fF nF k1.1 → cL Z ρ1 S1 x fL nL lsu lra lrk ldu1 → cJ' ρ1 S1 x k1.2.2.2.2 → (∀ j, k1.2.2.2.1 j ≤ 1000) → (∀ j, k1.2.2.1 j ≤ 10090) → (ldu1, gatesM (td + 1) re su m i k1) = P → J.1 ≤ k1.2.2.2.2.1 → cs ≤ 5 * (lvl k1.2.2.2.2.1 - lvl J.1) → ss ≤ 60000 * (lvl k1.2.2.2.2.1 - lvl J.1) → E 27 [some (.ref x), some (.int (nI i)), x2] [] S1 cs ss := by
    intro m
    induction m with
    | zero =>
      intro i S1 ρ1 k1 ldu1 cs ss x2 hi hZ1 hB hG1 hF1 hL1 hJ1 hle1 hdu1 hP1 hJJ hcs hss
      refine hE.2 _ _ _ _ _ ?_
      have hi2 : i = nG := by omega
      subst hi2
      have sx := hB.2.2 x hx0 (by rw [hρ]; decide)
      have hP1 : (ldu1, k1) = P := hP1
      subst hP1
      dsimp only at hmc hms hJn H
      have hGG := hG1
      obtain ⟨l, e, h1, h2, -⟩ := hGG
      have hl := h2.1
      simp -implicitDefEqProofs [t_X11_moveOn_27, i_aload, i_iload, i_lload, i_istore, i_lstore, i_astore, i_iinc, i_push, i_getI, i_getJ, i_getR, i_putI, i_putJ, i_putR, i_iadd, i_isub, i_imul, i_iand, i_ior, i_ixor, i_ishl, i_ishr, i_iushr, i_idiv, i_irem, i_ladd, i_lsub, i_lmul, i_land, i_lor, i_lxor, i_ldiv, i_lrem, i_lshl, i_lshr, i_lcmp, i_ineg, i_lneg, i_i2l, i_l2i, i_i2b, i_i2c, i_dup, i_pop, i_dup_x1, i_dup2, i_icmp_eq, i_icmp_lt, i_icmp_ge, i_icmp_gt, i_icmp_le, i_if_eq, i_if_lt, i_if_ge, i_if_gt, i_if_le, i_goto, i_ifnull, i_iald, i_bald, i_zald, i_lald, i_aald, i_iast, i_bast, i_zast, i_last, i_alen, i_iret, i_lret, i_aret, i_vret, i_oinit, i_cast, i_tsw, i_cases, i_mmin, i_mmax, i_lmin, i_throw, nb0, nb1, nint, nby0, rf_s, rf_n, of_r, of_n, tk_orf_rf, tk_c2, tk_ls, Value.category, tk_isR_ref, tk_isR_rf, tk_isR_null, sx.1, sx.2.1.trans hk0, h1]
      refine ⟨by simp, hl.1, hl.2.1, by simp [Value.category], 0, 0, 0, by omega, by omega, by omega, ?_⟩
      refine l_size hl ?_
      simp -implicitDefEqProofs [i_aload, i_iload, i_lload, i_istore, i_lstore, i_astore, i_iinc, i_push, i_getI, i_getJ, i_getR, i_putI, i_putJ, i_putR, i_iadd, i_isub, i_imul, i_iand, i_ior, i_ixor, i_ishl, i_ishr, i_iushr, i_idiv, i_irem, i_ladd, i_lsub, i_lmul, i_land, i_lor, i_lxor, i_ldiv, i_lrem, i_lshl, i_lshr, i_lcmp, i_ineg, i_lneg, i_i2l, i_l2i, i_i2b, i_i2c, i_dup, i_pop, i_dup_x1, i_dup2, i_icmp_eq, i_icmp_lt, i_icmp_ge, i_icmp_gt, i_icmp_le, i_if_eq, i_if_lt, i_if_ge, i_if_gt, i_if_le, i_goto, i_ifnull, i_iald, i_bald, i_zald, i_lald, i_aald, i_iast, i_bast, i_zast, i_last, i_alen, i_iret, i_lret, i_aret, i_vret, i_oinit, i_cast, i_tsw, i_cases, i_mmin, i_mmax, i_lmin, i_throw, nb0, nb1, nint, nby0, rf_s, rf_n, of_r, of_n, tk_orf_rf, tk_c2, tk_ls, Value.category, tk_isR_ref, tk_isR_rf, tk_isR_null]
      exact ⟨by omega, by omega, H S1 ρ1 hB hG1 hF1 hL1 hJ1⟩
    | succ m ih =>
      intro i S1 ρ1 k1 ldu1 cs ss x2 hi hZ1 hB hG1 hF1 hL1 hJ1 hle1 hdu1 hP1 hJJ hcs hss
      refine hE.2 _ _ _ _ _ ?_
      have hil : i < nG := by omega
      have sx := hB.2.2 x hx0 (by rw [hρ]; decide)
      have sx1 := sx.1
      have sx2 := sx.2.1.trans hk0
      have sx3 := (sx.2.2.1 12 9).trans ht0
      have hρ1 : ρ1 x = 1 := (hB.2.1 x hx0).trans hρ
      have hge : k1.2.2.2.2.1 ≤ P.2.2.2.2.2.1 := by rw [← hP1]; exact gatesM_ge (td + 1) re su (m + 1) i k1
      have hP2 : (ldu1, gatesM (td + 1) re su m (i + 1) (gateM (td + 1) re su i k1)) = P := hP1
      have hge2 : (gateM (td + 1) re su i k1).2.2.2.2.1 ≤ P.2.2.2.2.2.1 := by rw [← hP2]; exact gatesM_ge (td + 1) re su m (i + 1) _
      have l1 := lvl_mono hge
      have l2 := lvl_mono hge2
      have l3 := lvl_mono hJJ
      have l4 := lvl_mono (gateM_ge (td + 1) re su i k1).1
      have g4 := gateM_ge (td + 1) re su i k1
      have hGG := hG1
      obtain ⟨l, e, h1, h2, h3, h31, h4, h5⟩ := hGG
      have hl := h2.1
      have z : ¬ nI nG ≤ nI i := nI_ge (by omega) (by omega)
      have e1 : nI i + 1 = nI (i + 1) := nI_add i 1
      obtain ⟨y1, y2⟩ := hl.2.2.2.2.2.2.1 i hil
      obtain ⟨⟨u1, u2, u3, u4, u5⟩, -⟩ := h5 i hil
      simp -implicitDefEqProofs [t_X11_moveOn_27, i_aload, i_iload, i_lload, i_istore, i_lstore, i_astore, i_iinc, i_push, i_getI, i_getJ, i_getR, i_putI, i_putJ, i_putR, i_iadd, i_isub, i_imul, i_iand, i_ior, i_ixor, i_ishl, i_ishr, i_iushr, i_idiv, i_irem, i_ladd, i_lsub, i_lmul, i_land, i_lor, i_lxor, i_ldiv, i_lrem, i_lshl, i_lshr, i_lcmp, i_ineg, i_lneg, i_i2l, i_l2i, i_i2b, i_i2c, i_dup, i_pop, i_dup_x1, i_dup2, i_icmp_eq, i_icmp_lt, i_icmp_ge, i_icmp_gt, i_icmp_le, i_if_eq, i_if_lt, i_if_ge, i_if_gt, i_if_le, i_goto, i_ifnull, i_iald, i_bald, i_zald, i_lald, i_aald, i_iast, i_bast, i_zast, i_last, i_alen, i_iret, i_lret, i_aret, i_vret, i_oinit, i_cast, i_tsw, i_cases, i_mmin, i_mmax, i_lmin, i_throw, nb0, nb1, nint, nby0, rf_s, rf_n, of_r, of_n, tk_orf_rf, tk_c2, tk_ls, Value.category, tk_isR_ref, tk_isR_rf, tk_isR_null, sx1, sx2, h1]
      refine ⟨by simp, hl.1, hl.2.1, by simp [Value.category], 0, 0, 0, by omega, by omega, by omega, ?_⟩
      refine l_size hl ?_
      simp -implicitDefEqProofs [i_aload, i_iload, i_lload, i_istore, i_lstore, i_astore, i_iinc, i_push, i_getI, i_getJ, i_getR, i_putI, i_putJ, i_putR, i_iadd, i_isub, i_imul, i_iand, i_ior, i_ixor, i_ishl, i_ishr, i_iushr, i_idiv, i_irem, i_ladd, i_lsub, i_lmul, i_land, i_lor, i_lxor, i_ldiv, i_lrem, i_lshl, i_lshr, i_lcmp, i_ineg, i_lneg, i_i2l, i_l2i, i_i2b, i_i2c, i_dup, i_pop, i_dup_x1, i_dup2, i_icmp_eq, i_icmp_lt, i_icmp_ge, i_icmp_gt, i_icmp_le, i_if_eq, i_if_lt, i_if_ge, i_if_gt, i_if_le, i_goto, i_ifnull, i_iald, i_bald, i_zald, i_lald, i_aald, i_iast, i_bast, i_zast, i_last, i_alen, i_iret, i_lret, i_aret, i_vret, i_oinit, i_cast, i_tsw, i_cases, i_mmin, i_mmax, i_lmin, i_throw, nb0, nb1, nint, nby0, rf_s, rf_n, of_r, of_n, tk_orf_rf, tk_c2, tk_ls, Value.category, tk_isR_ref, tk_isR_rf, tk_isR_null, sx1, sx2, h1, z]
      refine ⟨by simp, hl.1, hl.2.1, by simp [Value.category], 3, 0, 0, by omega, by omega, by omega, ?_⟩
      refine l_get (Nat.le_refl 3) hl hil ?_
      rcases u5 with ⟨v1, v2, -⟩ | ⟨f, v1, v2, v3, v4, v5, v6, v7⟩
      · have eg : gateM (td + 1) re su i k1 = k1 := by unfold gateM; rw [v1]
        rw [eg] at hP2
        simp -implicitDefEqProofs [i_aload, i_iload, i_lload, i_istore, i_lstore, i_astore, i_iinc, i_push, i_getI, i_getJ, i_getR, i_putI, i_putJ, i_putR, i_iadd, i_isub, i_imul, i_iand, i_ior, i_ixor, i_ishl, i_ishr, i_iushr, i_idiv, i_irem, i_ladd, i_lsub, i_lmul, i_land, i_lor, i_lxor, i_ldiv, i_lrem, i_lshl, i_lshr, i_lcmp, i_ineg, i_lneg, i_i2l, i_l2i, i_i2b, i_i2c, i_dup, i_pop, i_dup_x1, i_dup2, i_icmp_eq, i_icmp_lt, i_icmp_ge, i_icmp_gt, i_icmp_le, i_if_eq, i_if_lt, i_if_ge, i_if_gt, i_if_le, i_goto, i_ifnull, i_iald, i_bald, i_zald, i_lald, i_aald, i_iast, i_bast, i_zast, i_last, i_alen, i_iret, i_lret, i_aret, i_vret, i_oinit, i_cast, i_tsw, i_cases, i_mmin, i_mmax, i_lmin, i_throw, nb0, nb1, nint, nby0, rf_s, rf_n, of_r, of_n, tk_orf_rf, tk_c2, tk_ls, Value.category, tk_isR_ref, tk_isR_rf, tk_isR_null, y1, y2, v2, e1]
        exact ih (i + 1) S1 ρ1 k1 ldu1 cs ss _ (by omega) hZ1 hB hG1 hF1 hL1 hJ1 hle1 hdu1 hP2 hJJ hcs hss
      · simp -implicitDefEqProofs [i_aload, i_iload, i_lload, i_istore, i_lstore, i_astore, i_iinc, i_push, i_getI, i_getJ, i_getR, i_putI, i_putJ, i_putR, i_iadd, i_isub, i_imul, i_iand, i_ior, i_ixor, i_ishl, i_ishr, i_iushr, i_idiv, i_irem, i_ladd, i_lsub, i_lmul, i_land, i_lor, i_lxor, i_ldiv, i_lrem, i_lshl, i_lshr, i_lcmp, i_ineg, i_lneg, i_i2l, i_l2i, i_i2b, i_i2c, i_dup, i_pop, i_dup_x1, i_dup2, i_icmp_eq, i_icmp_lt, i_icmp_ge, i_icmp_gt, i_icmp_le, i_if_eq, i_if_lt, i_if_ge, i_if_gt, i_if_le, i_goto, i_ifnull, i_iald, i_bald, i_zald, i_lald, i_aald, i_iast, i_bast, i_zast, i_last, i_alen, i_iret, i_lret, i_aret, i_vret, i_oinit, i_cast, i_tsw, i_cases, i_mmin, i_mmax, i_lmin, i_throw, nb0, nb1, nint, nby0, rf_s, rf_n, of_r, of_n, tk_orf_rf, tk_c2, tk_ls, Value.category, tk_isR_ref, tk_isR_rf, tk_isR_null, y1, y2, v3, v6, e1, sx1, sx2, sx3]
        by_cases hdu : k1.2.2.1 i = td + 1
        · have eg : gateM (td + 1) re su i k1 = keepM (td + 1) re su i f k1 := by unfold gateM; rw [v1]; exact if_pos hdu
          rw [eg] at hP2 hge2 l2 l4 g4
          refine ⟨fun _ => ?_, fun q => absurd (by rw [hdu]) q⟩
          refine ⟨by simp, sx1, sx2, by simp [Value.category], 4, 5 * (lvl (keepM (td + 1) re su i f k1).2.2.2.2.1 - lvl k1.2.2.2.2.1), 60000 * (lvl (keepM (td + 1) re su i f k1).2.2.2.2.1 - lvl k1.2.2.2.2.1), by omega, by omega, by omega, ?_⟩
          have hJ12 : k1.2.2.2.2.1 < 12000 := by omega
          refine tk_M.out (m_keepLease (td := td + 1) (mo := k1.1) (J := k1.2.2.2.2) (Nat.le_refl 4) hZ1 sx1 sx2 hρ1 sx3 hG1 hF1 hJ1 hil v1 (hle1 i) hJ12 (Nat.le_refl _) (Nat.le_refl _) (fun S2 ρ2 g2 r2 s2 hG2 hF2 hJ2 hZ2 => ?_))
          simp -implicitDefEqProofs [i_aload, i_iload, i_lload, i_istore, i_lstore, i_astore, i_iinc, i_push, i_getI, i_getJ, i_getR, i_putI, i_putJ, i_putR, i_iadd, i_isub, i_imul, i_iand, i_ior, i_ixor, i_ishl, i_ishr, i_iushr, i_idiv, i_irem, i_ladd, i_lsub, i_lmul, i_land, i_lor, i_lxor, i_ldiv, i_lrem, i_lshl, i_lshr, i_lcmp, i_ineg, i_lneg, i_i2l, i_l2i, i_i2b, i_i2c, i_dup, i_pop, i_dup_x1, i_dup2, i_icmp_eq, i_icmp_lt, i_icmp_ge, i_icmp_gt, i_icmp_le, i_if_eq, i_if_lt, i_if_ge, i_if_gt, i_if_le, i_goto, i_ifnull, i_iald, i_bald, i_zald, i_lald, i_aald, i_iast, i_bast, i_zast, i_last, i_alen, i_iret, i_lret, i_aret, i_vret, i_oinit, i_cast, i_tsw, i_cases, i_mmin, i_mmax, i_lmin, i_throw, nb0, nb1, nint, nby0, rf_s, rf_n, of_r, of_n, tk_orf_rf, tk_c2, tk_ls, Value.category, tk_isR_ref, tk_isR_rf, tk_isR_null, e1]
          have sx4 := s2 x sx1 (by rw [hρ1]; decide)
          refine ih (i + 1) S2 ρ2 (keepM (td + 1) re su i f k1) ldu1 _ _ _ (by omega) hZ2 (hB.trans ⟨g2, r2, fun b hb hn => s2 b hb (fun q => hn (by
            simp only [List.mem_cons, List.not_mem_nil, or_false] at q ⊢
            omega))⟩) hG2 hF2 (hL1.same hZ1 (xr.of sx4) (sm.no s2 (by simp)) r2) hJ2 (fun j => Nat.le_trans (keepM_le (td + 1) re su i f k1 j) (hle1 j)) (fun j => ?_) hP2 (by omega) (by omega) (by omega)
          have := keepM_du (td + 1) re su i f k1 j
          have h1 := hdu1 j
          by_cases hj : j = i
          · rw [if_pos hj, hdu] at this
            omega
          · rw [if_neg hj] at this
            omega
        · have eg : gateM (td + 1) re su i k1 = k1 := by unfold gateM; rw [v1]; exact if_neg hdu
          rw [eg] at hP2
          have hne : ¬ nI (k1.2.2.1 i) = nI (td + 1) := fun q => hdu ((nI_eq (by have := hdu1 i; omega) (by omega)).mp q)
          exact ⟨fun q => absurd q hne, fun _ => ih (i + 1) S1 ρ1 k1 ldu1 cs ss _ (by omega) hZ1 hB hG1 hF1 hL1 hJ1 hle1 hdu1 hP2 hJJ hcs hss⟩
  show t_X11_moveOn_0 Z d mc ms QR E [some (.ref x), none, none] [] S 0 0
  have e1 : nI td + 1 = nI (td + 1) := nI_add td 1
  have er : nI (td + 1) - nI (td + 1) / 365 * 365 = nI ((td + 1) % 365) := pk_rem (d := 365) (by omega) (by omega) (by omega)
  have ez : (nI ((td + 1) % 365) = 0 ↔ (td + 1) % 365 = 0) := nI_eq (b := 0) (by omega) (by omega)
  simp -implicitDefEqProofs [t_X11_moveOn_0, i_aload, i_iload, i_lload, i_istore, i_lstore, i_astore, i_iinc, i_push, i_getI, i_getJ, i_getR, i_putI, i_putJ, i_putR, i_iadd, i_isub, i_imul, i_iand, i_ior, i_ixor, i_ishl, i_ishr, i_iushr, i_idiv, i_irem, i_ladd, i_lsub, i_lmul, i_land, i_lor, i_lxor, i_ldiv, i_lrem, i_lshl, i_lshr, i_lcmp, i_ineg, i_lneg, i_i2l, i_l2i, i_i2b, i_i2c, i_dup, i_pop, i_dup_x1, i_dup2, i_icmp_eq, i_icmp_lt, i_icmp_ge, i_icmp_gt, i_icmp_le, i_if_eq, i_if_lt, i_if_ge, i_if_gt, i_if_le, i_goto, i_ifnull, i_iald, i_bald, i_zald, i_lald, i_aald, i_iast, i_bast, i_zast, i_last, i_alen, i_iret, i_lret, i_aret, i_vret, i_oinit, i_cast, i_tsw, i_cases, i_mmin, i_mmax, i_lmin, i_throw, nb0, nb1, nint, nby0, rf_s, rf_n, of_r, of_n, tk_orf_rf, tk_c2, tk_ls, Value.category, tk_isR_ref, tk_isR_rf, tk_isR_null, z_q_L_s_I, z_q_K_s_I, z_q_I_s_I, z_q_J_s_I, z_q_R_s_I, z_q_n_s_I, z_q_aI_s_I, z_q_aJ_s_I, z_q_aR_s_I, z_q_L_s_J, z_q_K_s_J, z_q_I_s_J, z_q_J_s_J, z_q_R_s_J, z_q_n_s_J, z_q_aI_s_J, z_q_aJ_s_J, z_q_aR_s_J, z_q_L_s_R, z_q_K_s_R, z_q_I_s_R, z_q_J_s_R, z_q_R_s_R, z_q_n_s_R, z_q_aI_s_R, z_q_aJ_s_R, z_q_aR_s_R, z_q_L_s_aI, z_q_K_s_aI, z_q_I_s_aI, z_q_J_s_aI, z_q_R_s_aI, z_q_n_s_aI, z_q_aI_s_aI, z_q_aJ_s_aI, z_q_aR_s_aI, z_q_L_s_aJ, z_q_K_s_aJ, z_q_I_s_aJ, z_q_J_s_aJ, z_q_R_s_aJ, z_q_n_s_aJ, z_q_aI_s_aJ, z_q_aJ_s_aJ, z_q_aR_s_aJ, z_q_L_s_aR, z_q_K_s_aR, z_q_I_s_aR, z_q_J_s_aR, z_q_R_s_aR, z_q_n_s_aR, z_q_aI_s_aR, z_q_aJ_s_aR, z_q_aR_s_aR, z_q_L_s_new, z_q_K_s_new, z_q_I_s_new, z_q_J_s_new, z_q_R_s_new, z_q_n_s_new, z_q_aI_s_new, z_q_aJ_s_new, z_q_aR_s_new, z_q_L_s_arr, z_q_K_s_arr, z_q_I_s_arr, z_q_J_s_arr, z_q_R_s_arr, z_q_n_s_arr, z_q_aI_s_arr, z_q_aJ_s_arr, z_q_aR_s_arr, hx, hk, htd, e1, er]
  unfold moveM at hP
  dsimp only at hP
  rw [hS0]
  refine ⟨fun q => ?_, fun q => ?_⟩
  · have h0 := ez.mp q
    rw [if_pos h0] at hP
    have hb := hbx h0
    have hge : (interM (td + 1) nL lsu lra lrk (ldu, J)).2.1 ≤ P.2.2.2.2.2.1 := by
      rw [← hP]
      exact gatesM_ge (td + 1) re su nG 0 (mo, ls, du, le, (interM (td + 1) nL lsu lra lrk (ldu, J)).2)
    have hge0 : J.1 ≤ (interM (td + 1) nL lsu lra lrk (ldu, J)).2.1 := by
      have := ranksM_ge (td + 1) nL lrk (growM lsu lra nL ldu, J) 0 4
      exact this
    have l1 := lvl_mono hge
    have l2 := lvl_mono hge0
    refine ⟨by simp, hx0, hk0, by simp [Value.category], 6, 5 * (lvl (interM (td + 1) nL lsu lra lrk (ldu, J)).2.1 - lvl J.1), 60000 * (lvl (interM (td + 1) nL lsu lra lrk (ldu, J)).2.1 - lvl J.1), by omega, by omega, by omega, ?_⟩
    refine tk_M.out (m_payInterest (td := td + 1) (J := J) (Nat.le_refl 6) hZ0 hx0 hk0 hρ ht0 hL0 hJ0 (by omega) hb (Nat.le_refl _) (Nat.le_refl _) (fun S2 ρ2 b2 hL2 hJ2 hZ2 => ?_))
    simp -implicitDefEqProofs [i_aload, i_iload, i_lload, i_istore, i_lstore, i_astore, i_iinc, i_push, i_getI, i_getJ, i_getR, i_putI, i_putJ, i_putR, i_iadd, i_isub, i_imul, i_iand, i_ior, i_ixor, i_ishl, i_ishr, i_iushr, i_idiv, i_irem, i_ladd, i_lsub, i_lmul, i_land, i_lor, i_lxor, i_ldiv, i_lrem, i_lshl, i_lshr, i_lcmp, i_ineg, i_lneg, i_i2l, i_l2i, i_i2b, i_i2c, i_dup, i_pop, i_dup_x1, i_dup2, i_icmp_eq, i_icmp_lt, i_icmp_ge, i_icmp_gt, i_icmp_le, i_if_eq, i_if_lt, i_if_ge, i_if_gt, i_if_le, i_goto, i_ifnull, i_iald, i_bald, i_zald, i_lald, i_aald, i_iast, i_bast, i_zast, i_last, i_alen, i_iret, i_lret, i_aret, i_vret, i_oinit, i_cast, i_tsw, i_cases, i_mmin, i_mmax, i_lmin, i_throw, nb0, nb1, nint, nby0, rf_s, rf_n, of_r, of_n, tk_orf_rf, tk_c2, tk_ls, Value.category, tk_isR_ref, tk_isR_rf, tk_isR_null]
    have sx := b2.2.2 x hx0 (by rw [hρ]; decide)
    refine loop nG 0 S2 ρ2 (mo, ls, du, le, (interM (td + 1) nL lsu lra lrk (ldu, J)).2) (interM (td + 1) nL lsu lra lrk (ldu, J)).1 _ _ _ rfl hZ2 b2.bg (hG0.same hZ0 (xr.of sx) (sm.no b2.2.2 (by simp)) b2.2.1) (hF0.same hZ0 (xr.of sx) (sm.no b2.2.2 (by simp)) b2.2.1) hL2 hJ2 hle hdu hP hge0 ?_ ?_
    · simp
    · simp
  · have h0 : ¬ (td + 1) % 365 = 0 := fun z => q (ez.mpr z)
    rw [if_neg h0] at hP
    exact loop nG 0 S0 ρ (mo, ls, du, le, J) ldu 0 0 _ rfl hZ0 bgF.rfl' hG0 hF0 hL0 hJ0 hle hdu hP (Nat.le_refl _) (Nat.zero_le _) (Nat.zero_le _)
theorem m_takeToll {ρ : Nat → Nat} {x nS nF n i td t : Nat} {fG fS fF bl os du le nb bf : Nat → Nat} {ps re su br bs : Nat → Int32} {ls : Nat → Option Nat} {mo : Nat → Int64} {J : mJ} {v : Int32} (hd : 4 ≤ d) (hZ : Z.2.2.2.2.2.1 ∉ q_L S) (hx : x ∈ q_L S) (hk : q_K S x = 12) (hρ : ρ x = 1) (htd : q_I S 12 9 x = nI td) (hG : cG Z ρ S x fG fS fF bl nS nF n os ps ls re su du le nb bf br bs) (hF : cF Z ρ S x fF nF mo) (hJ : cJ' ρ S x J) (hi : i < n) (hJn : J.1 < 12000)
    (hmc : 5 * (lvl (J.1 + 1) - lvl J.1) ≤ mc) (hms : 60000 * (lvl (J.1 + 1) - lvl J.1) ≤ ms)
    (H : ∀ S' ρ', gr S S' → rx ρ ρ' S → (∀ b, b ∈ q_L S → ρ b ∉ [4, 21, 48] → sameAt S S' b) → cF Z ρ' S' x fF nF (match ls i with
      | none => mo
      | some f => vp_updL mo f (mo f + v.toInt64)) → cJ' ρ' S' x (match ls i with
      | none => if 0 < v then lineM J (nI td) 0 (nI t) v.toInt64 else J
      | some _ => J) → QR none S') : tk_M Z mX11_takeToll d mc ms [.ref x, .int (nI t), .ref (fG i), .int v] S QR tk_noX := by
  refine M_X11_takeToll (Nat.le_of_ble_eq_true rfl) (fun E hE => hE _ _ _ _ _ ?_)
  show t_X11_takeToll_0 Z d mc ms QR E [some (.ref x), some (.int (nI t)), some (.ref (fG i)), some (.int v)] [] S 0 0
  have hG0 := hG
  have hF0 := hF
  obtain ⟨l, e, g1, g2, g3, g31, g4, g5⟩ := hG0
  obtain ⟨lF, eF, f1, f2, f3, f4, f5⟩ := hF0
  obtain ⟨⟨u1, u2, u3, u4, u5⟩, -⟩ := g5 i hi
  obtain ⟨a1, a2⟩ := g2.1.2.2.2.2.2.2.1 i hi
  have hJ0 := hJ
  obtain ⟨bx, r2, r3, r4, r5, r6, j1, j2, jB, -⟩ := hJ0
  have jb := jB.1.1
  have jk := jB.1.2.1
  rcases u5 with ⟨v1, v2, -⟩ | ⟨f, v1, v2, v3, -⟩
  · rw [v1] at H
    dsimp only at H
    simp -implicitDefEqProofs [t_X11_takeToll_0, i_aload, i_iload, i_lload, i_istore, i_lstore, i_astore, i_iinc, i_push, i_getI, i_getJ, i_getR, i_putI, i_putJ, i_putR, i_iadd, i_isub, i_imul, i_iand, i_ior, i_ixor, i_ishl, i_ishr, i_iushr, i_idiv, i_irem, i_ladd, i_lsub, i_lmul, i_land, i_lor, i_lxor, i_ldiv, i_lrem, i_lshl, i_lshr, i_lcmp, i_ineg, i_lneg, i_i2l, i_l2i, i_i2b, i_i2c, i_dup, i_pop, i_dup_x1, i_dup2, i_icmp_eq, i_icmp_lt, i_icmp_ge, i_icmp_gt, i_icmp_le, i_if_eq, i_if_lt, i_if_ge, i_if_gt, i_if_le, i_goto, i_ifnull, i_iald, i_bald, i_zald, i_lald, i_aald, i_iast, i_bast, i_zast, i_last, i_alen, i_iret, i_lret, i_aret, i_vret, i_oinit, i_cast, i_tsw, i_cases, i_mmin, i_mmax, i_lmin, i_throw, nb0, nb1, nint, nby0, rf_s, rf_n, of_r, of_n, tk_orf_rf, tk_c2, tk_ls, Value.category, tk_isR_ref, tk_isR_rf, tk_isR_null, a1, a2, v2, hx, hk, j1, htd]
    refine ⟨fun w => ?_, fun w => ?_⟩
    · rw [if_neg (Int32.not_lt.mpr w)] at H
      exact H S ρ (fun b hb => hb) rx.rfl' (fun b hb _ => sameAt.rfl' hb) hF hJ
    · rw [if_pos w] at H
      refine ⟨by simp, jb, jk, by simp [Value.category], 3, 5 * (lvl (J.1 + 1) - lvl J.1), 60000 * (lvl (J.1 + 1) - lvl J.1), by omega, by omega, by omega, ?_⟩
      refine m_line (Nat.le_refl 3) hJ hx hk hρ j1 hJn (Nat.le_refl _) (Nat.le_refl _) (fun S2 ρ' g2' s2 r2' hJ2 => ?_)
      simp -implicitDefEqProofs [i_aload, i_iload, i_lload, i_istore, i_lstore, i_astore, i_iinc, i_push, i_getI, i_getJ, i_getR, i_putI, i_putJ, i_putR, i_iadd, i_isub, i_imul, i_iand, i_ior, i_ixor, i_ishl, i_ishr, i_iushr, i_idiv, i_irem, i_ladd, i_lsub, i_lmul, i_land, i_lor, i_lxor, i_ldiv, i_lrem, i_lshl, i_lshr, i_lcmp, i_ineg, i_lneg, i_i2l, i_l2i, i_i2b, i_i2c, i_dup, i_pop, i_dup_x1, i_dup2, i_icmp_eq, i_icmp_lt, i_icmp_ge, i_icmp_gt, i_icmp_le, i_if_eq, i_if_lt, i_if_ge, i_if_gt, i_if_le, i_goto, i_ifnull, i_iald, i_bald, i_zald, i_lald, i_aald, i_iast, i_bast, i_zast, i_last, i_alen, i_iret, i_lret, i_aret, i_vret, i_oinit, i_cast, i_tsw, i_cases, i_mmin, i_mmax, i_lmin, i_throw, nb0, nb1, nint, nby0, rf_s, rf_n, of_r, of_n, tk_orf_rf, tk_c2, tk_ls, Value.category, tk_isR_ref, tk_isR_rf, tk_isR_null]
      have sx := s2 x hx (by rw [hρ]; decide)
      refine ⟨by omega, by omega, H S2 ρ' g2' r2' (fun b hb hn => s2 b hb (fun q => hn (by
        simp only [List.mem_cons, List.not_mem_nil, or_false] at q ⊢
        omega))) (hF.same hZ (xr.of sx) (sm.no s2 (by simp)) r2') hJ2⟩
  · rw [v1] at H
    dsimp only at H
    obtain ⟨b1, b2⟩ := f2.1.2.2.2.2.2.2.1 f v2
    have hfr := f2.2.2.2 f v2
    simp -implicitDefEqProofs [t_X11_takeToll_0, i_aload, i_iload, i_lload, i_istore, i_lstore, i_astore, i_iinc, i_push, i_getI, i_getJ, i_getR, i_putI, i_putJ, i_putR, i_iadd, i_isub, i_imul, i_iand, i_ior, i_ixor, i_ishl, i_ishr, i_iushr, i_idiv, i_irem, i_ladd, i_lsub, i_lmul, i_land, i_lor, i_lxor, i_ldiv, i_lrem, i_lshl, i_lshr, i_lcmp, i_ineg, i_lneg, i_i2l, i_l2i, i_i2b, i_i2c, i_dup, i_pop, i_dup_x1, i_dup2, i_icmp_eq, i_icmp_lt, i_icmp_ge, i_icmp_gt, i_icmp_le, i_if_eq, i_if_lt, i_if_ge, i_if_gt, i_if_le, i_goto, i_ifnull, i_iald, i_bald, i_zald, i_lald, i_aald, i_iast, i_bast, i_zast, i_last, i_alen, i_iret, i_lret, i_aret, i_vret, i_oinit, i_cast, i_tsw, i_cases, i_mmin, i_mmax, i_lmin, i_throw, nb0, nb1, nint, nby0, rf_s, rf_n, of_r, of_n, tk_orf_rf, tk_c2, tk_ls, Value.category, tk_isR_ref, tk_isR_rf, tk_isR_null, a1, a2, v3, b1, b2, (f5 f v2).2]
    have xr1 : xr S (s_J S 5 1 (fF f) (mo f + v.toInt64)) x := ⟨hx, rfl, fun _ => rfl⟩
    exact H _ ρ (fun b hb => hb) rx.rfl' (fun b hb hn => s_J_same hb (fun q => hn (by rw [q, hfr]; simp))) (hF.put v2) (hJ.same xr1 (sm_one hfr (by simp) (fun b hb hn => s_J_same hb hn)) rx.rfl')
end MOVE2

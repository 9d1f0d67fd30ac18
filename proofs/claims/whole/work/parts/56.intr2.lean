/-! THE TRUST'S OWN METHODS: interest is parted and paid -/
section INTR2
variable {Z : tk_Z} {d mc ms : Nat} {S : tk_S} {QR : tk_R}
/-- what is left when each has its cut part -/
def leftM (rk : Nat → Int32) (r : Int32) (g : Nat → Int64) : Nat → Nat → Int64 → Int64
  | 0, _, l => l
  | m + 1, i, l => leftM rk r g m (i + 1) (if rk i = r then l - g i else l)
/-- the rest goes one by one to whom most was cut -/
def greedyM (rk : Nat → Int32) (r : Int32) (n : Nat) : Nat → (Nat → Int64) → (Nat → Int64) → Int64 → Nat → Int64
  | 0, g, _, _ => g
  | m + 1, g, rs, l => if 0 < l then (match mostM rk rs r n 0 none with
    | none => g
    | some j => greedyM rk r n m (vp_updL g j (g j + 1)) (vp_updL rs j 0) (l - 1)) else g
def partsM (rk : Nat → Int32) (du : Nat → Int64) (r : Int32) (n : Nat) (bx al : Int64) : Nat → Int64 := greedyM rk r n n (fun i => du i * bx / al) (fun i => du i * bx - du i * bx / al * al) (leftM rk r (fun i => du i * bx / al) n 0 bx)
theorem greedyM_ext {rk : Nat → Int32} {r : Int32} {n : Nat} : ∀ m (g g' rs rs' : Nat → Int64) (l : Int64), (∀ i, i < n → rk i = r → g i = g' i ∧ rs i = rs' i) → ∀ i, i < n → rk i = r → greedyM rk r n m g rs l i = greedyM rk r n m g' rs' l i := by
  intro m
  induction m with
  | zero => intro g g' rs rs' l h i hi hr; exact (h i hi hr).1
  | succ m ih =>
    intro g g' rs rs' l h i hi hr
    unfold greedyM
    by_cases hl : 0 < l
    · rw [if_pos hl, if_pos hl]
      have e := mostM_ext (n := n) (fun i hi hr => (h i hi hr).2) n 0 none rfl (fun j hj => by cases hj)
      have hok := mostM_ok (rk := rk) (rs := rs) (r := r) n 0 none rfl (fun j hj => by cases hj)
      rw [← e]
      generalize mostM rk rs r n 0 none = b at hok
      rcases b with _ | j
      · exact (h i hi hr).1
      · dsimp only
        refine ih _ _ _ _ _ (fun k hk hkr => ?_) i hi hr
        obtain ⟨j1, j2, j3⟩ := hok j rfl
        by_cases hkj : k = j
        · subst hkj
          rw [pk_uLs, pk_uLs, pk_uLs, pk_uLs, (h k hk hkr).1]
          exact ⟨rfl, rfl⟩
        · rw [pk_uLn hkj, pk_uLn hkj, pk_uLn hkj, pk_uLn hkj]
          exact h k hk hkr
    · rw [if_neg hl, if_neg hl]
      exact (h i hi hr).1
set_option maxHeartbeats 4000000 in
theorem m_grantParts {ρ : Nat → Nat} {x n bx : Nat} {fL : Nat → Nat} {su ra rk : Nat → Int32} {du gr rs : Nat → Int64} {r : Int32} {al has : Int64} (hd : 5 ≤ d) (hx : x ∈ q_L S) (hk : q_K S x = 12) (hρ : ρ x = 1) (hL : cLx Z ρ S x fL n su ra rk du gr rs) (hbx : q_R S 12 2 x = some bx ∧ bx ∈ q_L S ∧ q_K S bx = 3 ∧ ρ bx = 4 ∧ q_J S 3 0 bx = has) (hal : 0 < al)
    (H : ∀ S' gr' rs', lnF ρ S S' → cLx Z ρ S' x fL n su ra rk du gr' rs' → (∀ i, i < n → rk i = r → gr' i = partsM rk du r n has al i) → QR none S') : tk_M Z mX11_grantParts d mc ms [.ref x, .int r, .long al] S QR tk_noX := by
  refine M_X11_grantParts (Nat.le_of_ble_eq_true rfl) (fun E hE => hE.1 _ _ _ _ _ ?_)
  obtain ⟨b1, b2, b3, b4, b5⟩ := hbx
  have loop2 : ∀ m i S1 gr1 rs1 left x7, m + i = n → lnF ρ S S1 → cLx Z ρ S1 x fL n su ra rk du gr1 rs1 → (∀ S' gr' rs', lnF ρ S S' → cLx Z ρ S' x fL n su ra rk du gr' rs' → (∀ k, k < n → rk k = r → gr' k = greedyM rk r n m gr1 rs1 left k) → QR none S') → E 79 [some (.ref x), some (.int r), some (.long al), none, some (.long left), none, some (.int (nI i)), x7] [] S1 0 0 := by
    intro m
    induction m with
    | zero =>
      intro i S1 gr1 rs1 left x7 hi hF hL1 H
      refine hE.2.2 _ _ _ _ _ ?_
      have hi2 : i = n := by omega
      subst hi2
      have sx := hF.2 x hx (by rw [hρ]; decide)
      have hL0 := hL1
      obtain ⟨⟨l, e, h1, h2, h3, h4, h5⟩, h6⟩ := hL0
      have hl := h2.1
      simp -implicitDefEqProofs [t_X11_grantParts_79, i_aload, i_iload, i_lload, i_istore, i_lstore, i_astore, i_iinc, i_push, i_getI, i_getJ, i_getR, i_putI, i_putJ, i_putR, i_iadd, i_isub, i_imul, i_iand, i_ior, i_ixor, i_ishl, i_ishr, i_iushr, i_idiv, i_irem, i_ladd, i_lsub, i_lmul, i_land, i_lor, i_lxor, i_ldiv, i_lrem, i_lshl, i_lshr, i_lcmp, i_ineg, i_lneg, i_i2l, i_l2i, i_i2b, i_i2c, i_dup, i_pop, i_dup_x1, i_dup2, i_icmp_eq, i_icmp_lt, i_icmp_ge, i_icmp_gt, i_icmp_le, i_if_eq, i_if_lt, i_if_ge, i_if_gt, i_if_le, i_goto, i_ifnull, i_iald, i_bald, i_zald, i_lald, i_aald, i_iast, i_bast, i_zast, i_last, i_alen, i_iret, i_lret, i_aret, i_vret, i_oinit, i_cast, i_tsw, i_cases, i_mmin, i_mmax, i_lmin, i_throw, nb0, nb1, nint, nby0, rf_s, rf_n, of_r, of_n, tk_orf_rf, tk_c2, tk_ls, Value.category, tk_isR_ref, tk_isR_rf, tk_isR_null, sx.1, sx.2.1.trans hk, h1]
      refine ⟨by simp, hl.1, hl.2.1, by simp [Value.category], 0, 0, 0, by omega, by omega, by omega, ?_⟩
      refine l_size hl ?_
      simp -implicitDefEqProofs [i_aload, i_iload, i_lload, i_istore, i_lstore, i_astore, i_iinc, i_push, i_getI, i_getJ, i_getR, i_putI, i_putJ, i_putR, i_iadd, i_isub, i_imul, i_iand, i_ior, i_ixor, i_ishl, i_ishr, i_iushr, i_idiv, i_irem, i_ladd, i_lsub, i_lmul, i_land, i_lor, i_lxor, i_ldiv, i_lrem, i_lshl, i_lshr, i_lcmp, i_ineg, i_lneg, i_i2l, i_l2i, i_i2b, i_i2c, i_dup, i_pop, i_dup_x1, i_dup2, i_icmp_eq, i_icmp_lt, i_icmp_ge, i_icmp_gt, i_icmp_le, i_if_eq, i_if_lt, i_if_ge, i_if_gt, i_if_le, i_goto, i_ifnull, i_iald, i_bald, i_zald, i_lald, i_aald, i_iast, i_bast, i_zast, i_last, i_alen, i_iret, i_lret, i_aret, i_vret, i_oinit, i_cast, i_tsw, i_cases, i_mmin, i_mmax, i_lmin, i_throw, nb0, nb1, nint, nby0, rf_s, rf_n, of_r, of_n, tk_orf_rf, tk_c2, tk_ls, Value.category, tk_isR_ref, tk_isR_rf, tk_isR_null]
      exact H S1 gr1 rs1 hF hL1 (fun k _ _ => rfl)
    | succ m ih =>
      intro i S1 gr1 rs1 left x7 hi hF hL1 H
      refine hE.2.2 _ _ _ _ _ ?_
      have sx := hF.2 x hx (by rw [hρ]; decide)
      have sx1 := sx.1
      have sx2 := sx.2.1.trans hk
      have hL0 := hL1
      obtain ⟨⟨l, e, h1, h2, h3, h4, h5⟩, h6⟩ := hL0
      have hl := h2.1
      have hil : i < n := by omega
      have z : ¬ nI n ≤ nI i := nI_ge (by omega) (by omega)
      have e1 : nI i + 1 = nI (i + 1) := nI_add i 1
      unfold greedyM at H
      simp -implicitDefEqProofs [t_X11_grantParts_79, i_aload, i_iload, i_lload, i_istore, i_lstore, i_astore, i_iinc, i_push, i_getI, i_getJ, i_getR, i_putI, i_putJ, i_putR, i_iadd, i_isub, i_imul, i_iand, i_ior, i_ixor, i_ishl, i_ishr, i_iushr, i_idiv, i_irem, i_ladd, i_lsub, i_lmul, i_land, i_lor, i_lxor, i_ldiv, i_lrem, i_lshl, i_lshr, i_lcmp, i_ineg, i_lneg, i_i2l, i_l2i, i_i2b, i_i2c, i_dup, i_pop, i_dup_x1, i_dup2, i_icmp_eq, i_icmp_lt, i_icmp_ge, i_icmp_gt, i_icmp_le, i_if_eq, i_if_lt, i_if_ge, i_if_gt, i_if_le, i_goto, i_ifnull, i_iald, i_bald, i_zald, i_lald, i_aald, i_iast, i_bast, i_zast, i_last, i_alen, i_iret, i_lret, i_aret, i_vret, i_oinit, i_cast, i_tsw, i_cases, i_mmin, i_mmax, i_lmin, i_throw, nb0, nb1, nint, nby0, rf_s, rf_n, of_r, of_n, tk_orf_rf, tk_c2, tk_ls, Value.category, tk_isR_ref, tk_isR_rf, tk_isR_null, sx1, sx2, h1]
      refine ⟨by simp, hl.1, hl.2.1, by simp [Value.category], 0, 0, 0, by omega, by omega, by omega, ?_⟩
      refine l_size hl ?_
      simp -implicitDefEqProofs [i_aload, i_iload, i_lload, i_istore, i_lstore, i_astore, i_iinc, i_push, i_getI, i_getJ, i_getR, i_putI, i_putJ, i_putR, i_iadd, i_isub, i_imul, i_iand, i_ior, i_ixor, i_ishl, i_ishr, i_iushr, i_idiv, i_irem, i_ladd, i_lsub, i_lmul, i_land, i_lor, i_lxor, i_ldiv, i_lrem, i_lshl, i_lshr, i_lcmp, i_ineg, i_lneg, i_i2l, i_l2i, i_i2b, i_i2c, i_dup, i_pop, i_dup_x1, i_dup2, i_icmp_eq, i_icmp_lt, i_icmp_ge, i_icmp_gt, i_icmp_le, i_if_eq, i_if_lt, i_if_ge, i_if_gt, i_if_le, i_goto, i_ifnull, i_iald, i_bald, i_zald, i_lald, i_aald, i_iast, i_bast, i_zast, i_last, i_alen, i_iret, i_lret, i_aret, i_vret, i_oinit, i_cast, i_tsw, i_cases, i_mmin, i_mmax, i_lmin, i_throw, nb0, nb1, nint, nby0, rf_s, rf_n, of_r, of_n, tk_orf_rf, tk_c2, tk_ls, Value.category, tk_isR_ref, tk_isR_rf, tk_isR_null, z, lg_cmp_le, lg_cmp_gt]
      refine ⟨fun w => ?_, fun w => ?_⟩
      · rw [if_neg (Int64.not_lt.mpr w)] at H
        exact H S1 gr1 rs1 hF hL1 (fun k _ _ => rfl)
      · rw [if_pos w] at H
        refine ⟨by simp, sx1, sx2, by simp [Value.category], 4, 0, 0, by omega, by omega, by omega, ?_⟩
        refine m_mostCut (Nat.le_refl 4) sx1 sx2 hL1 ?_
        have hok := mostM_ok (rk := rk) (rs := rs1) (r := r) n 0 none rfl (fun j hj => by cases hj)
        generalize mostM rk rs1 r n 0 none = b at H hok
        rcases b with _ | j
        · simp -implicitDefEqProofs [i_aload, i_iload, i_lload, i_istore, i_lstore, i_astore, i_iinc, i_push, i_getI, i_getJ, i_getR, i_putI, i_putJ, i_putR, i_iadd, i_isub, i_imul, i_iand, i_ior, i_ixor, i_ishl, i_ishr, i_iushr, i_idiv, i_irem, i_ladd, i_lsub, i_lmul, i_land, i_lor, i_lxor, i_ldiv, i_lrem, i_lshl, i_lshr, i_lcmp, i_ineg, i_lneg, i_i2l, i_l2i, i_i2b, i_i2c, i_dup, i_pop, i_dup_x1, i_dup2, i_icmp_eq, i_icmp_lt, i_icmp_ge, i_icmp_gt, i_icmp_le, i_if_eq, i_if_lt, i_if_ge, i_if_gt, i_if_le, i_goto, i_ifnull, i_iald, i_bald, i_zald, i_lald, i_aald, i_iast, i_bast, i_zast, i_last, i_alen, i_iret, i_lret, i_aret, i_vret, i_oinit, i_cast, i_tsw, i_cases, i_mmin, i_mmax, i_lmin, i_throw, nb0, nb1, nint, nby0, rf_s, rf_n, of_r, of_n, tk_orf_rf, tk_c2, tk_ls, Value.category, tk_isR_ref, tk_isR_rf, tk_isR_null]
          exact H S1 gr1 rs1 hF hL1 (fun k _ _ => rfl)
        · obtain ⟨hj, hjr, hj0⟩ := hok j rfl
          obtain ⟨u1, u2⟩ := hl.2.2.2.2.2.2.1 j hj
          have hj49 := h2.2.2.2 j hj
          simp -implicitDefEqProofs [i_aload, i_iload, i_lload, i_istore, i_lstore, i_astore, i_iinc, i_push, i_getI, i_getJ, i_getR, i_putI, i_putJ, i_putR, i_iadd, i_isub, i_imul, i_iand, i_ior, i_ixor, i_ishl, i_ishr, i_iushr, i_idiv, i_irem, i_ladd, i_lsub, i_lmul, i_land, i_lor, i_lxor, i_ldiv, i_lrem, i_lshl, i_lshr, i_lcmp, i_ineg, i_lneg, i_i2l, i_l2i, i_i2b, i_i2c, i_dup, i_pop, i_dup_x1, i_dup2, i_icmp_eq, i_icmp_lt, i_icmp_ge, i_icmp_gt, i_icmp_le, i_if_eq, i_if_lt, i_if_ge, i_if_gt, i_if_le, i_goto, i_ifnull, i_iald, i_bald, i_zald, i_lald, i_aald, i_iast, i_bast, i_zast, i_last, i_alen, i_iret, i_lret, i_aret, i_vret, i_oinit, i_cast, i_tsw, i_cases, i_mmin, i_mmax, i_lmin, i_throw, nb0, nb1, nint, nby0, rf_s, rf_n, of_r, of_n, tk_orf_rf, tk_c2, tk_ls, Value.category, tk_isR_ref, tk_isR_rf, tk_isR_null, z_q_L_s_I, z_q_K_s_I, z_q_I_s_I, z_q_J_s_I, z_q_R_s_I, z_q_n_s_I, z_q_aI_s_I, z_q_aJ_s_I, z_q_aR_s_I, z_q_L_s_J, z_q_K_s_J, z_q_I_s_J, z_q_J_s_J, z_q_R_s_J, z_q_n_s_J, z_q_aI_s_J, z_q_aJ_s_J, z_q_aR_s_J, z_q_L_s_R, z_q_K_s_R, z_q_I_s_R, z_q_J_s_R, z_q_R_s_R, z_q_n_s_R, z_q_aI_s_R, z_q_aJ_s_R, z_q_aR_s_R, z_q_L_s_aI, z_q_K_s_aI, z_q_I_s_aI, z_q_J_s_aI, z_q_R_s_aI, z_q_n_s_aI, z_q_aI_s_aI, z_q_aJ_s_aI, z_q_aR_s_aI, z_q_L_s_aJ, z_q_K_s_aJ, z_q_I_s_aJ, z_q_J_s_aJ, z_q_R_s_aJ, z_q_n_s_aJ, z_q_aI_s_aJ, z_q_aJ_s_aJ, z_q_aR_s_aJ, z_q_L_s_aR, z_q_K_s_aR, z_q_I_s_aR, z_q_J_s_aR, z_q_R_s_aR, z_q_n_s_aR, z_q_aI_s_aR, z_q_aJ_s_aR, z_q_aR_s_aR, z_q_L_s_new, z_q_K_s_new, z_q_I_s_new, z_q_J_s_new, z_q_R_s_new, z_q_n_s_new, z_q_aI_s_new, z_q_aJ_s_new, z_q_aR_s_new, z_q_L_s_arr, z_q_K_s_arr, z_q_I_s_arr, z_q_J_s_arr, z_q_R_s_arr, z_q_n_s_arr, z_q_aI_s_arr, z_q_aJ_s_arr, z_q_aR_s_arr, u1, u2, e1, (h6 j hj).1]
          refine ih (i + 1) _ _ _ (left - 1) _ (by omega) (hF.trans ((lnF.put hj49).trans (lnF.put hj49))) ((hL1.put4 hj).put5 hj) H
  have loop1 : ∀ m i S1 gr1 rs1 left x7, m + i = n → lnF ρ S S1 → cLx Z ρ S1 x fL n su ra rk du gr1 rs1 → (∀ j, j < i → rk j = r → gr1 j = du j * has / al ∧ rs1 j = du j * has - du j * has / al * al) → leftM rk r (fun i => du i * has / al) m i left = leftM rk r (fun i => du i * has / al) n 0 has → E 12 [some (.ref x), some (.int r), some (.long al), none, some (.long left), none, some (.int (nI i)), x7] [] S1 0 0 := by
    intro m
    induction m with
    | zero =>
      intro i S1 gr1 rs1 left x7 hi hF hL1 hg hlft
      refine hE.2.1 _ _ _ _ _ ?_
      have hi2 : i = n := by omega
      subst hi2
      have sx := hF.2 x hx (by rw [hρ]; decide)
      have hL0 := hL1
      obtain ⟨⟨l, e, h1, h2, h3, h4, h5⟩, h6⟩ := hL0
      have hl := h2.1
      simp -implicitDefEqProofs [t_X11_grantParts_12, i_aload, i_iload, i_lload, i_istore, i_lstore, i_astore, i_iinc, i_push, i_getI, i_getJ, i_getR, i_putI, i_putJ, i_putR, i_iadd, i_isub, i_imul, i_iand, i_ior, i_ixor, i_ishl, i_ishr, i_iushr, i_idiv, i_irem, i_ladd, i_lsub, i_lmul, i_land, i_lor, i_lxor, i_ldiv, i_lrem, i_lshl, i_lshr, i_lcmp, i_ineg, i_lneg, i_i2l, i_l2i, i_i2b, i_i2c, i_dup, i_pop, i_dup_x1, i_dup2, i_icmp_eq, i_icmp_lt, i_icmp_ge, i_icmp_gt, i_icmp_le, i_if_eq, i_if_lt, i_if_ge, i_if_gt, i_if_le, i_goto, i_ifnull, i_iald, i_bald, i_zald, i_lald, i_aald, i_iast, i_bast, i_zast, i_last, i_alen, i_iret, i_lret, i_aret, i_vret, i_oinit, i_cast, i_tsw, i_cases, i_mmin, i_mmax, i_lmin, i_throw, nb0, nb1, nint, nby0, rf_s, rf_n, of_r, of_n, tk_orf_rf, tk_c2, tk_ls, Value.category, tk_isR_ref, tk_isR_rf, tk_isR_null, sx.1, sx.2.1.trans hk, h1]
      refine ⟨by simp, hl.1, hl.2.1, by simp [Value.category], 0, 0, 0, by omega, by omega, by omega, ?_⟩
      refine l_size hl ?_
      simp -implicitDefEqProofs [i_aload, i_iload, i_lload, i_istore, i_lstore, i_astore, i_iinc, i_push, i_getI, i_getJ, i_getR, i_putI, i_putJ, i_putR, i_iadd, i_isub, i_imul, i_iand, i_ior, i_ixor, i_ishl, i_ishr, i_iushr, i_idiv, i_irem, i_ladd, i_lsub, i_lmul, i_land, i_lor, i_lxor, i_ldiv, i_lrem, i_lshl, i_lshr, i_lcmp, i_ineg, i_lneg, i_i2l, i_l2i, i_i2b, i_i2c, i_dup, i_pop, i_dup_x1, i_dup2, i_icmp_eq, i_icmp_lt, i_icmp_ge, i_icmp_gt, i_icmp_le, i_if_eq, i_if_lt, i_if_ge, i_if_gt, i_if_le, i_goto, i_ifnull, i_iald, i_bald, i_zald, i_lald, i_aald, i_iast, i_bast, i_zast, i_last, i_alen, i_iret, i_lret, i_aret, i_vret, i_oinit, i_cast, i_tsw, i_cases, i_mmin, i_mmax, i_lmin, i_throw, nb0, nb1, nint, nby0, rf_s, rf_n, of_r, of_n, tk_orf_rf, tk_c2, tk_ls, Value.category, tk_isR_ref, tk_isR_rf, tk_isR_null]
      have hlft : left = leftM rk r (fun i => du i * has / al) i 0 has := hlft
      refine loop2 i 0 S1 gr1 rs1 left _ rfl hF hL1 (fun S' gr' rs' f1 f2 f3 => H S' gr' rs' f1 f2 (fun k hk hr => ?_))
      rw [f3 k hk hr]
      unfold partsM
      rw [← hlft]
      exact greedyM_ext _ _ _ _ _ _ hg k hk hr
    | succ m ih =>
      intro i S1 gr1 rs1 left x7 hi hF hL1 hg hlft
      refine hE.2.1 _ _ _ _ _ ?_
      have sx := hF.2 x hx (by rw [hρ]; decide)
      have sx1 := sx.1
      have sx2 := sx.2.1.trans hk
      have sb := hF.2 bx b2 (by rw [b4]; decide)
      have sb1 := sb.1
      have sb2 := sb.2.1.trans b3
      have sb3 := (sb.2.2.2.1 3 0).trans b5
      have sb4 := (sx.2.2.2.2.1 12 2).trans b1
      have hL0 := hL1
      obtain ⟨⟨l, e, h1, h2, h3, h4, h5⟩, h6⟩ := hL0
      have hl := h2.1
      have hil : i < n := by omega
      have z : ¬ nI n ≤ nI i := nI_ge (by omega) (by omega)
      have e1 : nI i + 1 = nI (i + 1) := nI_add i 1
      obtain ⟨y1, y2⟩ := hl.2.2.2.2.2.2.1 i hil
      obtain ⟨w1, w2, w3, w4⟩ := h5 i hil
      have hi49 := h2.2.2.2 i hil
      rw [leftM] at hlft
      simp -implicitDefEqProofs [t_X11_grantParts_12, i_aload, i_iload, i_lload, i_istore, i_lstore, i_astore, i_iinc, i_push, i_getI, i_getJ, i_getR, i_putI, i_putJ, i_putR, i_iadd, i_isub, i_imul, i_iand, i_ior, i_ixor, i_ishl, i_ishr, i_iushr, i_idiv, i_irem, i_ladd, i_lsub, i_lmul, i_land, i_lor, i_lxor, i_ldiv, i_lrem, i_lshl, i_lshr, i_lcmp, i_ineg, i_lneg, i_i2l, i_l2i, i_i2b, i_i2c, i_dup, i_pop, i_dup_x1, i_dup2, i_icmp_eq, i_icmp_lt, i_icmp_ge, i_icmp_gt, i_icmp_le, i_if_eq, i_if_lt, i_if_ge, i_if_gt, i_if_le, i_goto, i_ifnull, i_iald, i_bald, i_zald, i_lald, i_aald, i_iast, i_bast, i_zast, i_last, i_alen, i_iret, i_lret, i_aret, i_vret, i_oinit, i_cast, i_tsw, i_cases, i_mmin, i_mmax, i_lmin, i_throw, nb0, nb1, nint, nby0, rf_s, rf_n, of_r, of_n, tk_orf_rf, tk_c2, tk_ls, Value.category, tk_isR_ref, tk_isR_rf, tk_isR_null, sx1, sx2, h1]
      refine ⟨by simp, hl.1, hl.2.1, by simp [Value.category], 0, 0, 0, by omega, by omega, by omega, ?_⟩
      refine l_size hl ?_
      simp -implicitDefEqProofs [i_aload, i_iload, i_lload, i_istore, i_lstore, i_astore, i_iinc, i_push, i_getI, i_getJ, i_getR, i_putI, i_putJ, i_putR, i_iadd, i_isub, i_imul, i_iand, i_ior, i_ixor, i_ishl, i_ishr, i_iushr, i_idiv, i_irem, i_ladd, i_lsub, i_lmul, i_land, i_lor, i_lxor, i_ldiv, i_lrem, i_lshl, i_lshr, i_lcmp, i_ineg, i_lneg, i_i2l, i_l2i, i_i2b, i_i2c, i_dup, i_pop, i_dup_x1, i_dup2, i_icmp_eq, i_icmp_lt, i_icmp_ge, i_icmp_gt, i_icmp_le, i_if_eq, i_if_lt, i_if_ge, i_if_gt, i_if_le, i_goto, i_ifnull, i_iald, i_bald, i_zald, i_lald, i_aald, i_iast, i_bast, i_zast, i_last, i_alen, i_iret, i_lret, i_aret, i_vret, i_oinit, i_cast, i_tsw, i_cases, i_mmin, i_mmax, i_lmin, i_throw, nb0, nb1, nint, nby0, rf_s, rf_n, of_r, of_n, tk_orf_rf, tk_c2, tk_ls, Value.category, tk_isR_ref, tk_isR_rf, tk_isR_null, sx1, sx2, h1, z]
      refine ⟨by simp, hl.1, hl.2.1, by simp [Value.category], 3, 0, 0, by omega, by omega, by omega, ?_⟩
      refine l_get (Nat.le_refl 3) hl hil ?_
      simp -implicitDefEqProofs [i_aload, i_iload, i_lload, i_istore, i_lstore, i_astore, i_iinc, i_push, i_getI, i_getJ, i_getR, i_putI, i_putJ, i_putR, i_iadd, i_isub, i_imul, i_iand, i_ior, i_ixor, i_ishl, i_ishr, i_iushr, i_idiv, i_irem, i_ladd, i_lsub, i_lmul, i_land, i_lor, i_lxor, i_ldiv, i_lrem, i_lshl, i_lshr, i_lcmp, i_ineg, i_lneg, i_i2l, i_l2i, i_i2b, i_i2c, i_dup, i_pop, i_dup_x1, i_dup2, i_icmp_eq, i_icmp_lt, i_icmp_ge, i_icmp_gt, i_icmp_le, i_if_eq, i_if_lt, i_if_ge, i_if_gt, i_if_le, i_goto, i_ifnull, i_iald, i_bald, i_zald, i_lald, i_aald, i_iast, i_bast, i_zast, i_last, i_alen, i_iret, i_lret, i_aret, i_vret, i_oinit, i_cast, i_tsw, i_cases, i_mmin, i_mmax, i_lmin, i_throw, nb0, nb1, nint, nby0, rf_s, rf_n, of_r, of_n, tk_orf_rf, tk_c2, tk_ls, Value.category, tk_isR_ref, tk_isR_rf, tk_isR_null, y1, y2, w3, e1, sx1, sx2, sb1, sb2, sb3, sb4]
      refine ⟨fun w => ?_, fun w => ?_⟩
      · rw [if_pos w] at hlft
        refine ⟨by simp, y1, y2, by simp [Value.category], 0, 0, 0, by omega, by omega, by omega, ?_⟩
        refine m_grantPart y1 y2 hal ?_
        rw [w4]
        simp -implicitDefEqProofs [i_aload, i_iload, i_lload, i_istore, i_lstore, i_astore, i_iinc, i_push, i_getI, i_getJ, i_getR, i_putI, i_putJ, i_putR, i_iadd, i_isub, i_imul, i_iand, i_ior, i_ixor, i_ishl, i_ishr, i_iushr, i_idiv, i_irem, i_ladd, i_lsub, i_lmul, i_land, i_lor, i_lxor, i_ldiv, i_lrem, i_lshl, i_lshr, i_lcmp, i_ineg, i_lneg, i_i2l, i_l2i, i_i2b, i_i2c, i_dup, i_pop, i_dup_x1, i_dup2, i_icmp_eq, i_icmp_lt, i_icmp_ge, i_icmp_gt, i_icmp_le, i_if_eq, i_if_lt, i_if_ge, i_if_gt, i_if_le, i_goto, i_ifnull, i_iald, i_bald, i_zald, i_lald, i_aald, i_iast, i_bast, i_zast, i_last, i_alen, i_iret, i_lret, i_aret, i_vret, i_oinit, i_cast, i_tsw, i_cases, i_mmin, i_mmax, i_lmin, i_throw, nb0, nb1, nint, nby0, rf_s, rf_n, of_r, of_n, tk_orf_rf, tk_c2, tk_ls, Value.category, tk_isR_ref, tk_isR_rf, tk_isR_null, z_q_L_s_I, z_q_K_s_I, z_q_I_s_I, z_q_J_s_I, z_q_R_s_I, z_q_n_s_I, z_q_aI_s_I, z_q_aJ_s_I, z_q_aR_s_I, z_q_L_s_J, z_q_K_s_J, z_q_I_s_J, z_q_J_s_J, z_q_R_s_J, z_q_n_s_J, z_q_aI_s_J, z_q_aJ_s_J, z_q_aR_s_J, z_q_L_s_R, z_q_K_s_R, z_q_I_s_R, z_q_J_s_R, z_q_R_s_R, z_q_n_s_R, z_q_aI_s_R, z_q_aJ_s_R, z_q_aR_s_R, z_q_L_s_aI, z_q_K_s_aI, z_q_I_s_aI, z_q_J_s_aI, z_q_R_s_aI, z_q_n_s_aI, z_q_aI_s_aI, z_q_aJ_s_aI, z_q_aR_s_aI, z_q_L_s_aJ, z_q_K_s_aJ, z_q_I_s_aJ, z_q_J_s_aJ, z_q_R_s_aJ, z_q_n_s_aJ, z_q_aI_s_aJ, z_q_aJ_s_aJ, z_q_aR_s_aJ, z_q_L_s_aR, z_q_K_s_aR, z_q_I_s_aR, z_q_J_s_aR, z_q_R_s_aR, z_q_n_s_aR, z_q_aI_s_aR, z_q_aJ_s_aR, z_q_aR_s_aR, z_q_L_s_new, z_q_K_s_new, z_q_I_s_new, z_q_J_s_new, z_q_R_s_new, z_q_n_s_new, z_q_aI_s_new, z_q_aJ_s_new, z_q_aR_s_new, z_q_L_s_arr, z_q_K_s_arr, z_q_I_s_arr, z_q_J_s_arr, z_q_R_s_arr, z_q_n_s_arr, z_q_aI_s_arr, z_q_aJ_s_arr, z_q_aR_s_arr, y1, y2, e1]
        refine ih (i + 1) _ _ _ _ _ (by omega) (hF.trans ((lnF.put hi49).trans (lnF.put hi49))) ((hL1.put4 hil).put5 hil) (fun j hj hr => ?_) hlft
        by_cases hji : j = i
        · subst hji
          rw [pk_uLs, pk_uLs]
          exact ⟨rfl, rfl⟩
        · rw [pk_uLn hji, pk_uLn hji]
          exact hg j (by omega) hr
      · rw [if_neg w] at hlft
        refine ih (i + 1) _ _ _ _ _ (by omega) hF hL1 (fun j hj hr => ?_) hlft
        by_cases hji : j = i
        · exact absurd (hji ▸ hr) w
        · exact hg j (by omega) hr
  show t_X11_grantParts_0 Z d mc ms QR E [some (.ref x), some (.int r), some (.long al), none, none, none, none, none] [] S 0 0
  simp -implicitDefEqProofs [t_X11_grantParts_0, i_aload, i_iload, i_lload, i_istore, i_lstore, i_astore, i_iinc, i_push, i_getI, i_getJ, i_getR, i_putI, i_putJ, i_putR, i_iadd, i_isub, i_imul, i_iand, i_ior, i_ixor, i_ishl, i_ishr, i_iushr, i_idiv, i_irem, i_ladd, i_lsub, i_lmul, i_land, i_lor, i_lxor, i_ldiv, i_lrem, i_lshl, i_lshr, i_lcmp, i_ineg, i_lneg, i_i2l, i_l2i, i_i2b, i_i2c, i_dup, i_pop, i_dup_x1, i_dup2, i_icmp_eq, i_icmp_lt, i_icmp_ge, i_icmp_gt, i_icmp_le, i_if_eq, i_if_lt, i_if_ge, i_if_gt, i_if_le, i_goto, i_ifnull, i_iald, i_bald, i_zald, i_lald, i_aald, i_iast, i_bast, i_zast, i_last, i_alen, i_iret, i_lret, i_aret, i_vret, i_oinit, i_cast, i_tsw, i_cases, i_mmin, i_mmax, i_lmin, i_throw, nb0, nb1, nint, nby0, rf_s, rf_n, of_r, of_n, tk_orf_rf, tk_c2, tk_ls, Value.category, tk_isR_ref, tk_isR_rf, tk_isR_null, hx, hk, b1, b2, b3, b5]
  exact loop1 n 0 S gr rs has _ rfl lnF.rfl' hL (fun j hj => absurd hj (by omega)) rfl
/-- what was granted is paid -/
def payM (td : Nat) (rk : Nat → Int32) (r : Int32) (g : Nat → Int64) : Nat → Nat → (Nat → Int64) × mJ → (Nat → Int64) × mJ
  | 0, _, k => k
  | m + 1, i, k => payM td rk r g m (i + 1) (if rk i = r ∧ 0 < g i then (vp_updL k.1 i (k.1 i - g i), lineM k.2 (nI td) 4 (nI i) (-(g i))) else k)
theorem payM_ge {td : Nat} {rk : Nat → Int32} {r : Int32} {g : Nat → Int64} : ∀ m i (k : (Nat → Int64) × mJ), k.2.1 ≤ (payM td rk r g m i k).2.1 := by
  intro m
  induction m with
  | zero => intro i k; exact Nat.le_refl _
  | succ m ih =>
    intro i k
    unfold payM
    refine Nat.le_trans ?_ (ih (i + 1) _)
    by_cases h : rk i = r ∧ 0 < g i
    · rw [if_pos h]; exact Nat.le_succ _
    · rw [if_neg h]; exact Nat.le_refl _
theorem payM_ext {td : Nat} {rk : Nat → Int32} {r : Int32} {g g' : Nat → Int64} {n : Nat} (h : ∀ i, i < n → rk i = r → g i = g' i) : ∀ m i (k : (Nat → Int64) × mJ), m + i = n → payM td rk r g m i k = payM td rk r g' m i k := by
  intro m
  induction m with
  | zero => intro i k _; rfl
  | succ m ih =>
    intro i k hi
    have e : (if rk i = r ∧ 0 < g i then (vp_updL k.1 i (k.1 i - g i), lineM k.2 (nI td) 4 (nI i) (-(g i))) else k) = (if rk i = r ∧ 0 < g' i then (vp_updL k.1 i (k.1 i - g' i), lineM k.2 (nI td) 4 (nI i) (-(g' i))) else k) := by
      by_cases hr : rk i = r
      · rw [h i (by omega) hr]
      · rw [if_neg (fun z => hr z.1), if_neg (fun z => hr z.1)]
    unfold payM
    rw [e]
    exact ih (i + 1) _ (by omega)
end INTR2

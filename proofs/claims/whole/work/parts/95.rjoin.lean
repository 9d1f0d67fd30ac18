/-! THE REFERENCE READS: and, or -/
section RJOIN
variable {Z : tk_Z} {len : Nat} {g : Nat → Int32} {B : bS} {V V1 V2 : vR} {ρ : Nat → Nat} {S : tk_S} {R : Nat → Nat}
def oneC (Z : tk_Z) (g : Nat → Int32) (len : Nat) (y : tk_Y) (one : Nat → pR) (dd o : Nat) : Prop := ∀ (B : bS) (m : Nat) (ρ : Nat → Nat) (S : tk_S) (cl : Nat) (R : Nat → Nat) (V : vR) (hw k p d mc ms : Nat) (QR : tk_R), dd ≤ d → RS B m ρ S (rLk (cp 400 hw) cl) R V → rdV V len g p → vI V 17 = nI k → vI V 7 = nI o → k ≤ hw → max hw (k + jn (one (tkStart g len p))) < 12800 → 2 * gS hw (k + jn (one (tkStart g len p))) ≤ mc → 30000 * gS hw (k + jn (one (tkStart g len p))) ≤ ms → okP B m g len V hw cl k QR none (one (tkStart g len p)) → tk_M Z y d mc ms [.ref m] S QR tk_noX
theorem pLoop_jn (g : Nat → Int32) (len : Nat) (one : Nat → pR) (tv : Int32) : ∀ f s c, c.length ≤ jn (pLoop g len one tv f s c) := by
  intro f
  induction f with
  | zero => intro s c; exact Nat.le_refl _
  | succ f ih =>
    intro s c
    rw [pLoop]
    split
    · split
      · have := ih (by assumption) (c ++ (by assumption) ++ [(tv, 0, 0)])
        rename_i s' c' _
        have := ih s' (c ++ c' ++ [(tv, 0, 0)])
        simp only [List.length_append, List.length_cons, List.length_nil] at this
        omega
      · show _ ≤ _ + _ + 1
        omega
    · exact Nat.le_refl _
theorem pJoin_jn (g : Nat → Int32) (len : Nat) (one : Nat → pR) (tv : Int32) (s : Nat) : jn (one s) ≤ jn (pJoin g len one tv s) := by
  unfold pJoin
  split
  · rename_i s' c e
    rw [e]
    exact pLoop_jn _ _ _ _ _ _ _
  · rename_i e he
    rw [he]
    exact Nat.le_refl _
theorem gS_mono {hw a b : Nat} (h : a ≤ b) : gS hw a ≤ gS hw b := by
  have := (gS_add (hw := hw) h).1
  omega
theorem rdR.at {k q s1 : Nat} {c : List pS} (h : rdR g len V V1 k (.inl (s1, c))) (hq : q ≤ len) : rdR g len V (wI V1 4 (nI q)) k (.inl (tkStart g len q, c)) := by
  obtain ⟨a1, a2, a3, a4, a5, a6, a7⟩ := h
  exact ⟨a1.trans (pF.ofI (k := k) (Or.inl rfl)) (Nat.le_refl _), by simpa [vI_wI] using a2, by simpa [vI_wI] using a3, by simpa [vI_wI] using a4, ⟨q, hq, by simp [vI_wI], rfl⟩, by simpa [vI_wI] using a6, a7⟩
theorem rdR.err {k q pl s1 : Nat} {kd : Int32} {c : List pS} (h : rdR g len V V1 k (.inl (s1, c))) (hq : q ≤ len) (hkd : kd = 1 ∨ kd = 2 ∨ kd = 3) : rdR g len V (wI (wI (wI V1 4 (nI q)) 5 kd) 6 (nI pl)) k (.inr (kd, pl, c.length)) := by
  obtain ⟨a1, a2, a3, a4, a5, a6, a7⟩ := h
  exact ⟨a1.trans ((pF.ofI (k := k) (Or.inl rfl)).trans ((pF.ofI (k := k) (Or.inr (Or.inl rfl))).trans (pF.ofI (k := k) (Or.inr (Or.inr (Or.inl rfl)))) (Nat.le_refl _)) (Nat.le_refl _)) (Nat.le_refl _), by simp [vI_wI], hkd, by simp [vI_wI], by simpa [vI_wI] using a6, q, hq, by simp [vI_wI]⟩
theorem rdR.at_le {k s1 : Nat} {c : List pS} (h : rdR g len V V1 k (.inl (s1, c))) : s1 ≤ len := by
  obtain ⟨-, -, -, -, ⟨p, a, -, b⟩, -⟩ := h
  rw [← b]
  exact (tkStart_le g a).2
theorem isWd_and : isWd 54 9 := ⟨by decide, by decide, by decide +kernel⟩
theorem isWd_or : isWd 55 8 := ⟨by decide, by decide, by decide +kernel⟩
set_option maxHeartbeats 4000000 in
theorem r_joined {one : Nat → pR} {dd o : Nat} (h1 : oneC Z g len mX12_one one dd o) (hdd : 6 ≤ dd) (hone : ∀ s s' c, s ≤ len → one s = .inl (s', c) → s ≤ s') : oneC Z g len mX12_joined (pJoin g len one 265) (dd + 1) o := by
  intro B m ρ S cl R V hw k p d mc ms QR hd hR hv hk ho hkh hmax hmc hms H
  refine M_X12_joined (Nat.le_of_ble_eq_true rfl) (fun E hE => hE.1 _ _ _ _ _ ?_)
  show t_X12_joined_0 Z d mc ms QR E [some (.ref m)] [] S 0 0
  have hs := tkStart_le g hv.2.2.2.2.1
  have hl2 := hv.2.2.1
  generalize hrt : pJoin g len one 265 (tkStart g len p) = rt at *
  -- a fault stays
  have flt : ∀ ρ S R V1 kd pl j cs ss, rdR g len V V1 k (.inr (kd, pl, j)) → RS B m ρ S (rLk (cp 400 (max hw (k + j))) cl) R V1 → rt = .inr (kd, pl, j) → cs ≤ mc → ss ≤ ms → E 4 [some (.ref m)] [] S cs ss := by
    intro ρ S R V1 kd pl j cs ss hr hR hrt hcs hss
    refine hE.2 _ _ _ _ _ ?_
    obtain ⟨u1, u2, u3⟩ := hR.1.1
    have hf : q_I S 13 5 m ≠ 0 := by
      rw [hR.2.1.1 5, hr.2.1]
      rcases hr.2.2.1 with e | e | e <;> rw [e] <;> decide
    simp -implicitDefEqProofs [t_X12_joined_4, i_aload, i_iload, i_lload, i_istore, i_lstore, i_astore, i_iinc, i_push, i_getI, i_getJ, i_getR, i_putI, i_putJ, i_putR, i_iadd, i_isub, i_imul, i_iand, i_ior, i_ixor, i_ishl, i_ishr, i_iushr, i_idiv, i_irem, i_ladd, i_lsub, i_lmul, i_land, i_lor, i_lxor, i_ldiv, i_lrem, i_lshl, i_lshr, i_lcmp, i_ineg, i_lneg, i_i2l, i_l2i, i_i2b, i_i2c, i_dup, i_pop, i_dup_x1, i_dup2, i_icmp_eq, i_icmp_lt, i_icmp_ge, i_icmp_gt, i_icmp_le, i_if_eq, i_if_lt, i_if_ge, i_if_gt, i_if_le, i_goto, i_ifnull, i_iald, i_bald, i_zald, i_lald, i_aald, i_iast, i_bast, i_zast, i_last, i_alen, i_iret, i_lret, i_aret, i_vret, i_oinit, i_cast, i_tsw, i_cases, i_mmin, i_mmax, i_lmin, i_throw, nb0, nb1, nint, nby0, rf_s, rf_n, of_r, of_n, tk_orf_rf, tk_c2, tk_ls, Value.category, tk_isR_ref, tk_isR_rf, tk_isR_null, u1, u2]
    refine ⟨by simp, u1, u2, by simp, 5, 0, 0, by omega, by omega, by omega, ?_⟩
    refine r_eatF u1 u2 hf ?_
    simp -implicitDefEqProofs [i_aload, i_iload, i_lload, i_istore, i_lstore, i_astore, i_iinc, i_push, i_getI, i_getJ, i_getR, i_putI, i_putJ, i_putR, i_iadd, i_isub, i_imul, i_iand, i_ior, i_ixor, i_ishl, i_ishr, i_iushr, i_idiv, i_irem, i_ladd, i_lsub, i_lmul, i_land, i_lor, i_lxor, i_ldiv, i_lrem, i_lshl, i_lshr, i_lcmp, i_ineg, i_lneg, i_i2l, i_l2i, i_i2b, i_i2c, i_dup, i_pop, i_dup_x1, i_dup2, i_icmp_eq, i_icmp_lt, i_icmp_ge, i_icmp_gt, i_icmp_le, i_if_eq, i_if_lt, i_if_ge, i_if_gt, i_if_le, i_goto, i_ifnull, i_iald, i_bald, i_zald, i_lald, i_aald, i_iast, i_bast, i_zast, i_last, i_alen, i_iret, i_lret, i_aret, i_vret, i_oinit, i_cast, i_tsw, i_cases, i_mmin, i_mmax, i_lmin, i_throw, nb0, nb1, nint, nby0, rf_s, rf_n, of_r, of_n, tk_orf_rf, tk_c2, tk_ls, Value.category, tk_isR_ref, tk_isR_rf, tk_isR_null]
    rw [hrt] at H
    exact ⟨hcs, hss, H V1 hr S ρ R hR⟩
  have loop : ∀ f s1 c1 ρ S R V1, 2000 ≤ s1 + f → rdR g len V V1 k (.inl (s1, c1)) → RS B m ρ S (rLk (cp 400 (max hw (k + c1.length))) cl) R V1 → rt = pLoop g len one 265 f s1 c1 → E 4 [some (.ref m)] [] S (2 * gS hw (k + c1.length)) (30000 * gS hw (k + c1.length)) := by
    intro f
    induction f with
    | zero =>
      intro s1 c1 ρ S R V1 hf hr hR hrt
      refine hE.2 _ _ _ _ _ ?_
      obtain ⟨u1, u2, u3⟩ := hR.1.1
      obtain ⟨p1, w1, w2⟩ := hr.next hv
      rw [pLoop] at hrt
      subst hrt
      have hsl := hr.at_le
      have hmc : 2 * gS hw (k + c1.length) ≤ mc := hmc
      have hms : 30000 * gS hw (k + c1.length) ≤ ms := hms
      simp -implicitDefEqProofs [t_X12_joined_4, i_aload, i_iload, i_lload, i_istore, i_lstore, i_astore, i_iinc, i_push, i_getI, i_getJ, i_getR, i_putI, i_putJ, i_putR, i_iadd, i_isub, i_imul, i_iand, i_ior, i_ixor, i_ishl, i_ishr, i_iushr, i_idiv, i_irem, i_ladd, i_lsub, i_lmul, i_land, i_lor, i_lxor, i_ldiv, i_lrem, i_lshl, i_lshr, i_lcmp, i_ineg, i_lneg, i_i2l, i_l2i, i_i2b, i_i2c, i_dup, i_pop, i_dup_x1, i_dup2, i_icmp_eq, i_icmp_lt, i_icmp_ge, i_icmp_gt, i_icmp_le, i_if_eq, i_if_lt, i_if_ge, i_if_gt, i_if_le, i_goto, i_ifnull, i_iald, i_bald, i_zald, i_lald, i_aald, i_iast, i_bast, i_zast, i_last, i_alen, i_iret, i_lret, i_aret, i_vret, i_oinit, i_cast, i_tsw, i_cases, i_mmin, i_mmax, i_lmin, i_throw, nb0, nb1, nint, nby0, rf_s, rf_n, of_r, of_n, tk_orf_rf, tk_c2, tk_ls, Value.category, tk_isR_ref, tk_isR_rf, tk_isR_null, u1, u2]
      refine ⟨by simp, u1, u2, by simp, 5, 0, 0, by omega, by omega, by omega, ?_⟩
      refine r_eat (g := g) (len := len) (qt := R 1) (p := p1) (by omega) (hR.rP rfl w1.2.1 w1.2.2.1 w1.1) ((hR.2.1.1 5).trans w1.2.2.2.2.2) isWd_and ((hR.2.1.1 4).trans w1.2.2.2.1) w1.2.2.2.2.1 (fun y => ?_) (fun y => ?_)
      · rw [w2] at y
        exfalso
        have := tkTok_lt (g := g) (len := len) (s := s1) (by rw [y]; decide)
        omega
      · rw [w2]
        simp -implicitDefEqProofs [i_aload, i_iload, i_lload, i_istore, i_lstore, i_astore, i_iinc, i_push, i_getI, i_getJ, i_getR, i_putI, i_putJ, i_putR, i_iadd, i_isub, i_imul, i_iand, i_ior, i_ixor, i_ishl, i_ishr, i_iushr, i_idiv, i_irem, i_ladd, i_lsub, i_lmul, i_land, i_lor, i_lxor, i_ldiv, i_lrem, i_lshl, i_lshr, i_lcmp, i_ineg, i_lneg, i_i2l, i_l2i, i_i2b, i_i2c, i_dup, i_pop, i_dup_x1, i_dup2, i_icmp_eq, i_icmp_lt, i_icmp_ge, i_icmp_gt, i_icmp_le, i_if_eq, i_if_lt, i_if_ge, i_if_gt, i_if_le, i_goto, i_ifnull, i_iald, i_bald, i_zald, i_lald, i_aald, i_iast, i_bast, i_zast, i_last, i_alen, i_iret, i_lret, i_aret, i_vret, i_oinit, i_cast, i_tsw, i_cases, i_mmin, i_mmax, i_lmin, i_throw, nb0, nb1, nint, nby0, rf_s, rf_n, of_r, of_n, tk_orf_rf, tk_c2, tk_ls, Value.category, tk_isR_ref, tk_isR_rf, tk_isR_null]
        refine ⟨hmc, hms, H _ ?_ _ _ _ (hR.iI 4 _)⟩
        have := hr.at (q := s1) hsl
        rw [← w2, tkStart_idem w1.2.2.2.2.1] at this
        rw [w2] at this
        exact this
    | succ f ih =>
      intro s1 c1 ρ S R V1 hf hr hR hrt
      refine hE.2 _ _ _ _ _ ?_
      obtain ⟨u1, u2, u3⟩ := hR.1.1
      obtain ⟨p1, w1, w2⟩ := hr.next hv
      have hsl := hr.at_le
      have hjn1 : c1.length ≤ jn rt := by rw [hrt]; exact pLoop_jn _ _ _ _ _ _ _
      have hg1 : gS hw (k + c1.length) ≤ gS hw (k + jn rt) := gS_mono (by omega)
      rw [pLoop] at hrt
      simp -implicitDefEqProofs [t_X12_joined_4, i_aload, i_iload, i_lload, i_istore, i_lstore, i_astore, i_iinc, i_push, i_getI, i_getJ, i_getR, i_putI, i_putJ, i_putR, i_iadd, i_isub, i_imul, i_iand, i_ior, i_ixor, i_ishl, i_ishr, i_iushr, i_idiv, i_irem, i_ladd, i_lsub, i_lmul, i_land, i_lor, i_lxor, i_ldiv, i_lrem, i_lshl, i_lshr, i_lcmp, i_ineg, i_lneg, i_i2l, i_l2i, i_i2b, i_i2c, i_dup, i_pop, i_dup_x1, i_dup2, i_icmp_eq, i_icmp_lt, i_icmp_ge, i_icmp_gt, i_icmp_le, i_if_eq, i_if_lt, i_if_ge, i_if_gt, i_if_le, i_goto, i_ifnull, i_iald, i_bald, i_zald, i_lald, i_aald, i_iast, i_bast, i_zast, i_last, i_alen, i_iret, i_lret, i_aret, i_vret, i_oinit, i_cast, i_tsw, i_cases, i_mmin, i_mmax, i_lmin, i_throw, nb0, nb1, nint, nby0, rf_s, rf_n, of_r, of_n, tk_orf_rf, tk_c2, tk_ls, Value.category, tk_isR_ref, tk_isR_rf, tk_isR_null, u1, u2]
      refine ⟨by simp, u1, u2, by simp, 5, 0, 0, by omega, by omega, by omega, ?_⟩
      refine r_eat (g := g) (len := len) (qt := R 1) (p := p1) (by omega) (hR.rP rfl w1.2.1 w1.2.2.1 w1.1) ((hR.2.1.1 5).trans w1.2.2.2.2.2) isWd_and ((hR.2.1.1 4).trans w1.2.2.2.1) w1.2.2.2.2.1 (fun y => ?_) (fun y => ?_)
      · rw [w2] at y ⊢
        have y2 : tkTok g len s1 = 265 := y
        have hen := tkEnd_w (g := g) (len := len) (s := s1) (w := 9) (by decide) y
        have hnx : tkStart g len (tkEnd g len s1) = tkNext g len s1 := rfl
        have hnn := tkNext_le g hsl
        have hen2 := tkEnd_lt g hen.2
        rw [if_pos y2] at hrt
        simp -implicitDefEqProofs [i_aload, i_iload, i_lload, i_istore, i_lstore, i_astore, i_iinc, i_push, i_getI, i_getJ, i_getR, i_putI, i_putJ, i_putR, i_iadd, i_isub, i_imul, i_iand, i_ior, i_ixor, i_ishl, i_ishr, i_iushr, i_idiv, i_irem, i_ladd, i_lsub, i_lmul, i_land, i_lor, i_lxor, i_ldiv, i_lrem, i_lshl, i_lshr, i_lcmp, i_ineg, i_lneg, i_i2l, i_l2i, i_i2b, i_i2c, i_dup, i_pop, i_dup_x1, i_dup2, i_icmp_eq, i_icmp_lt, i_icmp_ge, i_icmp_gt, i_icmp_le, i_if_eq, i_if_lt, i_if_ge, i_if_gt, i_if_le, i_goto, i_ifnull, i_iald, i_bald, i_zald, i_lald, i_aald, i_iast, i_bast, i_zast, i_last, i_alen, i_iret, i_lret, i_aret, i_vret, i_oinit, i_cast, i_tsw, i_cases, i_mmin, i_mmax, i_lmin, i_throw, nb0, nb1, nint, nby0, rf_s, rf_n, of_r, of_n, tk_orf_rf, tk_c2, tk_ls, Value.category, tk_isR_ref, tk_isR_rf, tk_isR_null, z_q_L_s_I, z_q_K_s_I, z_q_I_s_I, z_q_J_s_I, z_q_R_s_I, z_q_n_s_I, z_q_aI_s_I, z_q_aJ_s_I, z_q_aR_s_I, z_q_L_s_J, z_q_K_s_J, z_q_I_s_J, z_q_J_s_J, z_q_R_s_J, z_q_n_s_J, z_q_aI_s_J, z_q_aJ_s_J, z_q_aR_s_J, z_q_L_s_R, z_q_K_s_R, z_q_I_s_R, z_q_J_s_R, z_q_R_s_R, z_q_n_s_R, z_q_aI_s_R, z_q_aJ_s_R, z_q_aR_s_R, z_q_L_s_aI, z_q_K_s_aI, z_q_I_s_aI, z_q_J_s_aI, z_q_R_s_aI, z_q_n_s_aI, z_q_aI_s_aI, z_q_aJ_s_aI, z_q_aR_s_aI, z_q_L_s_aJ, z_q_K_s_aJ, z_q_I_s_aJ, z_q_J_s_aJ, z_q_R_s_aJ, z_q_n_s_aJ, z_q_aI_s_aJ, z_q_aJ_s_aJ, z_q_aR_s_aJ, z_q_L_s_aR, z_q_K_s_aR, z_q_I_s_aR, z_q_J_s_aR, z_q_R_s_aR, z_q_n_s_aR, z_q_aI_s_aR, z_q_aJ_s_aR, z_q_aR_s_aR, z_q_L_s_new, z_q_K_s_new, z_q_I_s_new, z_q_J_s_new, z_q_R_s_new, z_q_n_s_new, z_q_aI_s_new, z_q_aJ_s_new, z_q_aR_s_new, z_q_L_s_arr, z_q_K_s_arr, z_q_I_s_arr, z_q_J_s_arr, z_q_R_s_arr, z_q_n_s_arr, z_q_aI_s_arr, z_q_aJ_s_arr, z_q_aR_s_arr, u1, u2]
        have hjn2 : c1.length + jn (one (tkNext g len s1)) + 1 ≤ jn rt := by
          rw [hrt]
          split
          · rename_i s' c' e
            rw [e]
            have := pLoop_jn g len one 265 f s' (c1 ++ c' ++ [(265, 0, 0)])
            simp only [List.length_append, List.length_cons, List.length_nil] at this
            exact this
          · rename_i kd pl j e
            rw [e]
            exact Nat.le_refl _
        have g1 := gS_add (hw := hw) (a := k + c1.length) (b := k + c1.length + jn (one (tkNext g len s1))) (by omega)
        have g2 := gS_add (hw := hw) (a := k + c1.length + jn (one (tkNext g len s1))) (b := k + c1.length + jn (one (tkNext g len s1)) + 1) (by omega)
        have g3 : gS hw (k + c1.length + jn (one (tkNext g len s1)) + 1) ≤ gS hw (k + jn rt) := gS_mono (by omega)
        refine ⟨by simp, u1, u2, by simp, dd, 2 * gS (max hw (k + c1.length)) (k + c1.length + jn (one (tkNext g len s1))), 30000 * gS (max hw (k + c1.length)) (k + c1.length + jn (one (tkNext g len s1))), by omega, by omega, by omega, ?_⟩
        refine h1 B m ρ _ cl R (wI V1 4 (nI (tkEnd g len s1))) (max hw (k + c1.length)) (k + c1.length) (tkEnd g len s1) _ _ _ _ (Nat.le_refl _) (hR.iI 4 _) (w1.at4 hen.1) (by simpa [vI_wI] using hr.2.2.2.2.2.1) (by simpa [vI_wI] using hr.2.2.2.1.trans ho) (by omega) (by rw [hnx]; omega) (by rw [hnx]; exact Nat.le_refl _) (by rw [hnx]; exact Nat.le_refl _) (fun V2 hr2 S2 ρ2 R2 hR2 => ?_)
        rw [hnx] at hr2 hR2
        rw [g1.2] at hR2
        obtain ⟨v1, v2, v3⟩ := hR2.1.1
        simp -implicitDefEqProofs [i_aload, i_iload, i_lload, i_istore, i_lstore, i_astore, i_iinc, i_push, i_getI, i_getJ, i_getR, i_putI, i_putJ, i_putR, i_iadd, i_isub, i_imul, i_iand, i_ior, i_ixor, i_ishl, i_ishr, i_iushr, i_idiv, i_irem, i_ladd, i_lsub, i_lmul, i_land, i_lor, i_lxor, i_ldiv, i_lrem, i_lshl, i_lshr, i_lcmp, i_ineg, i_lneg, i_i2l, i_l2i, i_i2b, i_i2c, i_dup, i_pop, i_dup_x1, i_dup2, i_icmp_eq, i_icmp_lt, i_icmp_ge, i_icmp_gt, i_icmp_le, i_if_eq, i_if_lt, i_if_ge, i_if_gt, i_if_le, i_goto, i_ifnull, i_iald, i_bald, i_zald, i_lald, i_aald, i_iast, i_bast, i_zast, i_last, i_alen, i_iret, i_lret, i_aret, i_vret, i_oinit, i_cast, i_tsw, i_cases, i_mmin, i_mmax, i_lmin, i_throw, nb0, nb1, nint, nby0, rf_s, rf_n, of_r, of_n, tk_orf_rf, tk_c2, tk_ls, Value.category, tk_isR_ref, tk_isR_rf, tk_isR_null, z_q_L_s_I, z_q_K_s_I, z_q_I_s_I, z_q_J_s_I, z_q_R_s_I, z_q_n_s_I, z_q_aI_s_I, z_q_aJ_s_I, z_q_aR_s_I, z_q_L_s_J, z_q_K_s_J, z_q_I_s_J, z_q_J_s_J, z_q_R_s_J, z_q_n_s_J, z_q_aI_s_J, z_q_aJ_s_J, z_q_aR_s_J, z_q_L_s_R, z_q_K_s_R, z_q_I_s_R, z_q_J_s_R, z_q_R_s_R, z_q_n_s_R, z_q_aI_s_R, z_q_aJ_s_R, z_q_aR_s_R, z_q_L_s_aI, z_q_K_s_aI, z_q_I_s_aI, z_q_J_s_aI, z_q_R_s_aI, z_q_n_s_aI, z_q_aI_s_aI, z_q_aJ_s_aI, z_q_aR_s_aI, z_q_L_s_aJ, z_q_K_s_aJ, z_q_I_s_aJ, z_q_J_s_aJ, z_q_R_s_aJ, z_q_n_s_aJ, z_q_aI_s_aJ, z_q_aJ_s_aJ, z_q_aR_s_aJ, z_q_L_s_aR, z_q_K_s_aR, z_q_I_s_aR, z_q_J_s_aR, z_q_R_s_aR, z_q_n_s_aR, z_q_aI_s_aR, z_q_aJ_s_aR, z_q_aR_s_aR, z_q_L_s_new, z_q_K_s_new, z_q_I_s_new, z_q_J_s_new, z_q_R_s_new, z_q_n_s_new, z_q_aI_s_new, z_q_aJ_s_new, z_q_aR_s_new, z_q_L_s_arr, z_q_K_s_arr, z_q_I_s_arr, z_q_J_s_arr, z_q_R_s_arr, z_q_n_s_arr, z_q_aI_s_arr, z_q_aJ_s_arr, z_q_aR_s_arr, v1, v2]
        have gg : gS (max hw (k + c1.length + jn (one (tkNext g len s1)))) (k + c1.length + jn (one (tkNext g len s1)) + 1) = lv 400 (max (max hw (k + c1.length + jn (one (tkNext g len s1)))) (k + c1.length + jn (one (tkNext g len s1)) + 1)) - lv 400 (max hw (k + c1.length + jn (one (tkNext g len s1)))) := rfl
        have emit : ∀ n, n = k + c1.length + jn (one (tkNext g len s1)) → vI V2 17 = nI n → (∀ f1 f2 S' ρ' R', (∀ j, j < n → f1 j = vA V2 15 j ∧ f2 j = vA V2 16 j) → RS B m ρ' S' (rLk (cp 400 (max hw (n + 1))) cl) R' (emV V2 n 0 0 f1 f2) → E 4 [some (.ref m)] [] S' (2 * gS hw (n + 1)) (30000 * gS hw (n + 1))) → tk_M Z mX12_emits 1 (2 * gS (max hw n) (n + 1)) (30000 * gS (max hw n) (n + 1)) [.ref m, .int 0, .int 0] S2 (fun v S' => E 4 [some (.ref m)] (v.toList ++ []) S' (2 * gS hw (n + 1)) (30000 * gS hw (n + 1))) tk_noX := by
          intro n hn h17 hh
          subst hn
          refine r_emits (by omega) hR2 h17 (by omega) (by omega) (by omega) (by omega) (fun f1 f2 hff S' ρ' R' hR' => ?_)
          rw [g2.2] at hR'
          exact hh f1 f2 S' ρ' R' hff hR'
        refine ⟨by simp, v1, v2, by simp, 1, 2 * gS (max hw (k + c1.length + jn (one (tkNext g len s1)))) (k + c1.length + jn (one (tkNext g len s1)) + 1), 30000 * gS (max hw (k + c1.length + jn (one (tkNext g len s1)))) (k + c1.length + jn (one (tkNext g len s1)) + 1), by omega, by omega, by omega, ?_⟩
        have ec : 2 * gS hw (k + c1.length) + 2 * gS (max hw (k + c1.length)) (k + c1.length + jn (one (tkNext g len s1))) + 2 * gS (max hw (k + c1.length + jn (one (tkNext g len s1)))) (k + c1.length + jn (one (tkNext g len s1)) + 1) = 2 * gS hw (k + c1.length + jn (one (tkNext g len s1)) + 1) := by omega
        have es : 30000 * gS hw (k + c1.length) + 30000 * gS (max hw (k + c1.length)) (k + c1.length + jn (one (tkNext g len s1))) + 30000 * gS (max hw (k + c1.length + jn (one (tkNext g len s1)))) (k + c1.length + jn (one (tkNext g len s1)) + 1) = 30000 * gS hw (k + c1.length + jn (one (tkNext g len s1)) + 1) := by omega
        rw [ec, es]
        rcases he : one (tkNext g len s1) with ⟨s', c'⟩ | ⟨kd, pl, j⟩
        · rw [he] at hr2 hrt emit ec es
          have hr3 := hr.step (p := 0) hr2
          have h17 := hr3.2.2.2.2.2.1
          simp only [List.length_append, ← Nat.add_assoc] at h17
          refine emit (k + c1.length + c'.length) rfl h17 (fun f1 f2 S' ρ' R' hff hR' => ?_)
          have hlen : (c1 ++ c' ++ [((265 : Int32), (0 : Int32), (0 : Int32))]).length = c1.length + c'.length + 1 := by simp [Nat.add_assoc]
          have hr4 := hr3.emit (n := k + c1.length + c'.length) (c := 0) (v := 0) (x := (265, 0, 0)) (by simp [Nat.add_assoc]) hff rfl
          have hh := ih s' (c1 ++ c' ++ [(265, 0, 0)]) ρ' S' R' _ (by have := hone _ _ _ hnn.2.1 he; omega) hr4 (by rw [hlen, ← Nat.add_assoc, ← Nat.add_assoc]; exact hR') hrt
          rw [hlen, ← Nat.add_assoc, ← Nat.add_assoc] at hh
          exact hh
        · rw [he] at hr2 hrt emit ec es
          have hr3 := hr.stepF hr2
          have h17 := hr3.2.2.2.2.1
          rw [← Nat.add_assoc] at h17
          refine emit (k + c1.length + j) rfl h17 (fun f1 f2 S' ρ' R' hff hR' => ?_)
          have hr4 := hr3.emitF (n := k + c1.length + j) (c := 0) (v := 0) (by omega) hff
          rw [he] at g3
          refine flt ρ' S' R' _ kd pl (c1.length + j + 1) _ _ hr4 (by rw [show k + (c1.length + j + 1) = k + c1.length + j + 1 by omega]; exact hR') hrt ?_ ?_
          · exact Nat.le_trans (Nat.mul_le_mul_left 2 g3) hmc
          · exact Nat.le_trans (Nat.mul_le_mul_left 30000 g3) hms
      · rw [w2] at y ⊢
        have y2 : tkTok g len s1 ≠ 265 := y
        rw [if_neg y2] at hrt
        subst hrt
        simp -implicitDefEqProofs [i_aload, i_iload, i_lload, i_istore, i_lstore, i_astore, i_iinc, i_push, i_getI, i_getJ, i_getR, i_putI, i_putJ, i_putR, i_iadd, i_isub, i_imul, i_iand, i_ior, i_ixor, i_ishl, i_ishr, i_iushr, i_idiv, i_irem, i_ladd, i_lsub, i_lmul, i_land, i_lor, i_lxor, i_ldiv, i_lrem, i_lshl, i_lshr, i_lcmp, i_ineg, i_lneg, i_i2l, i_l2i, i_i2b, i_i2c, i_dup, i_pop, i_dup_x1, i_dup2, i_icmp_eq, i_icmp_lt, i_icmp_ge, i_icmp_gt, i_icmp_le, i_if_eq, i_if_lt, i_if_ge, i_if_gt, i_if_le, i_goto, i_ifnull, i_iald, i_bald, i_zald, i_lald, i_aald, i_iast, i_bast, i_zast, i_last, i_alen, i_iret, i_lret, i_aret, i_vret, i_oinit, i_cast, i_tsw, i_cases, i_mmin, i_mmax, i_lmin, i_throw, nb0, nb1, nint, nby0, rf_s, rf_n, of_r, of_n, tk_orf_rf, tk_c2, tk_ls, Value.category, tk_isR_ref, tk_isR_rf, tk_isR_null]
        refine ⟨hmc, hms, H _ ?_ _ _ _ (hR.iI 4 _)⟩
        have := hr.at (q := s1) hsl
        rw [← w2, tkStart_idem w1.2.2.2.2.1] at this
        rw [w2] at this
        exact this
  obtain ⟨u1, u2, u3⟩ := hR.1.1
  have hj0 : jn (one (tkStart g len p)) ≤ jn rt := by rw [← hrt]; exact pJoin_jn _ _ _ _ _
  have hg0 : gS hw (k + jn (one (tkStart g len p))) ≤ gS hw (k + jn rt) := gS_mono (by omega)
  simp -implicitDefEqProofs [t_X12_joined_0, i_aload, i_iload, i_lload, i_istore, i_lstore, i_astore, i_iinc, i_push, i_getI, i_getJ, i_getR, i_putI, i_putJ, i_putR, i_iadd, i_isub, i_imul, i_iand, i_ior, i_ixor, i_ishl, i_ishr, i_iushr, i_idiv, i_irem, i_ladd, i_lsub, i_lmul, i_land, i_lor, i_lxor, i_ldiv, i_lrem, i_lshl, i_lshr, i_lcmp, i_ineg, i_lneg, i_i2l, i_l2i, i_i2b, i_i2c, i_dup, i_pop, i_dup_x1, i_dup2, i_icmp_eq, i_icmp_lt, i_icmp_ge, i_icmp_gt, i_icmp_le, i_if_eq, i_if_lt, i_if_ge, i_if_gt, i_if_le, i_goto, i_ifnull, i_iald, i_bald, i_zald, i_lald, i_aald, i_iast, i_bast, i_zast, i_last, i_alen, i_iret, i_lret, i_aret, i_vret, i_oinit, i_cast, i_tsw, i_cases, i_mmin, i_mmax, i_lmin, i_throw, nb0, nb1, nint, nby0, rf_s, rf_n, of_r, of_n, tk_orf_rf, tk_c2, tk_ls, Value.category, tk_isR_ref, tk_isR_rf, tk_isR_null, u1, u2]
  refine ⟨by simp, u1, u2, by simp, dd, 2 * gS hw (k + jn (one (tkStart g len p))), 30000 * gS hw (k + jn (one (tkStart g len p))), by omega, by omega, by omega, ?_⟩
  refine h1 B m ρ S cl R V hw k p _ _ _ _ (Nat.le_refl _) hR hv hk ho hkh (by omega) (Nat.le_refl _) (Nat.le_refl _) (fun V2 hr2 S2 ρ2 R2 hR2 => ?_)
  simp -implicitDefEqProofs [i_aload, i_iload, i_lload, i_istore, i_lstore, i_astore, i_iinc, i_push, i_getI, i_getJ, i_getR, i_putI, i_putJ, i_putR, i_iadd, i_isub, i_imul, i_iand, i_ior, i_ixor, i_ishl, i_ishr, i_iushr, i_idiv, i_irem, i_ladd, i_lsub, i_lmul, i_land, i_lor, i_lxor, i_ldiv, i_lrem, i_lshl, i_lshr, i_lcmp, i_ineg, i_lneg, i_i2l, i_l2i, i_i2b, i_i2c, i_dup, i_pop, i_dup_x1, i_dup2, i_icmp_eq, i_icmp_lt, i_icmp_ge, i_icmp_gt, i_icmp_le, i_if_eq, i_if_lt, i_if_ge, i_if_gt, i_if_le, i_goto, i_ifnull, i_iald, i_bald, i_zald, i_lald, i_aald, i_iast, i_bast, i_zast, i_last, i_alen, i_iret, i_lret, i_aret, i_vret, i_oinit, i_cast, i_tsw, i_cases, i_mmin, i_mmax, i_lmin, i_throw, nb0, nb1, nint, nby0, rf_s, rf_n, of_r, of_n, tk_orf_rf, tk_c2, tk_ls, Value.category, tk_isR_ref, tk_isR_rf, tk_isR_null]
  unfold pJoin at hrt
  rcases he : one (tkStart g len p) with ⟨s', c'⟩ | ⟨kd, pl, j⟩
  · rw [he] at hr2 hrt hR2
    exact loop 2000 s' c' ρ2 S2 R2 V2 (by omega) hr2 hR2 hrt.symm
  · rw [he] at hr2 hrt hR2 hg0
    refine flt ρ2 S2 R2 V2 kd pl j _ _ hr2 hR2 hrt.symm ?_ ?_
    · exact Nat.le_trans (Nat.mul_le_mul_left 2 hg0) hmc
    · exact Nat.le_trans (Nat.mul_le_mul_left 30000 hg0) hms
set_option maxHeartbeats 4000000 in
theorem r_condition {one : Nat → pR} {dd o : Nat} (h1 : oneC Z g len mX12_joined one dd o) (hdd : 6 ≤ dd) (hone : ∀ s s' c, s ≤ len → one s = .inl (s', c) → s ≤ s') : oneC Z g len mX12_condition (pJoin g len one 264) (dd + 1) o := by
  intro B m ρ S cl R V hw k p d mc ms QR hd hR hv hk ho hkh hmax hmc hms H
  refine M_X12_condition (Nat.le_of_ble_eq_true rfl) (fun E hE => hE.1 _ _ _ _ _ ?_)
  show t_X12_condition_0 Z d mc ms QR E [some (.ref m)] [] S 0 0
  have hs := tkStart_le g hv.2.2.2.2.1
  have hl2 := hv.2.2.1
  generalize hrt : pJoin g len one 264 (tkStart g len p) = rt at *
  -- a fault stays
  have flt : ∀ ρ S R V1 kd pl j cs ss, rdR g len V V1 k (.inr (kd, pl, j)) → RS B m ρ S (rLk (cp 400 (max hw (k + j))) cl) R V1 → rt = .inr (kd, pl, j) → cs ≤ mc → ss ≤ ms → E 4 [some (.ref m)] [] S cs ss := by
    intro ρ S R V1 kd pl j cs ss hr hR hrt hcs hss
    refine hE.2 _ _ _ _ _ ?_
    obtain ⟨u1, u2, u3⟩ := hR.1.1
    have hf : q_I S 13 5 m ≠ 0 := by
      rw [hR.2.1.1 5, hr.2.1]
      rcases hr.2.2.1 with e | e | e <;> rw [e] <;> decide
    simp -implicitDefEqProofs [t_X12_condition_4, i_aload, i_iload, i_lload, i_istore, i_lstore, i_astore, i_iinc, i_push, i_getI, i_getJ, i_getR, i_putI, i_putJ, i_putR, i_iadd, i_isub, i_imul, i_iand, i_ior, i_ixor, i_ishl, i_ishr, i_iushr, i_idiv, i_irem, i_ladd, i_lsub, i_lmul, i_land, i_lor, i_lxor, i_ldiv, i_lrem, i_lshl, i_lshr, i_lcmp, i_ineg, i_lneg, i_i2l, i_l2i, i_i2b, i_i2c, i_dup, i_pop, i_dup_x1, i_dup2, i_icmp_eq, i_icmp_lt, i_icmp_ge, i_icmp_gt, i_icmp_le, i_if_eq, i_if_lt, i_if_ge, i_if_gt, i_if_le, i_goto, i_ifnull, i_iald, i_bald, i_zald, i_lald, i_aald, i_iast, i_bast, i_zast, i_last, i_alen, i_iret, i_lret, i_aret, i_vret, i_oinit, i_cast, i_tsw, i_cases, i_mmin, i_mmax, i_lmin, i_throw, nb0, nb1, nint, nby0, rf_s, rf_n, of_r, of_n, tk_orf_rf, tk_c2, tk_ls, Value.category, tk_isR_ref, tk_isR_rf, tk_isR_null, u1, u2]
    refine ⟨by simp, u1, u2, by simp, 5, 0, 0, by omega, by omega, by omega, ?_⟩
    refine r_eatF u1 u2 hf ?_
    simp -implicitDefEqProofs [i_aload, i_iload, i_lload, i_istore, i_lstore, i_astore, i_iinc, i_push, i_getI, i_getJ, i_getR, i_putI, i_putJ, i_putR, i_iadd, i_isub, i_imul, i_iand, i_ior, i_ixor, i_ishl, i_ishr, i_iushr, i_idiv, i_irem, i_ladd, i_lsub, i_lmul, i_land, i_lor, i_lxor, i_ldiv, i_lrem, i_lshl, i_lshr, i_lcmp, i_ineg, i_lneg, i_i2l, i_l2i, i_i2b, i_i2c, i_dup, i_pop, i_dup_x1, i_dup2, i_icmp_eq, i_icmp_lt, i_icmp_ge, i_icmp_gt, i_icmp_le, i_if_eq, i_if_lt, i_if_ge, i_if_gt, i_if_le, i_goto, i_ifnull, i_iald, i_bald, i_zald, i_lald, i_aald, i_iast, i_bast, i_zast, i_last, i_alen, i_iret, i_lret, i_aret, i_vret, i_oinit, i_cast, i_tsw, i_cases, i_mmin, i_mmax, i_lmin, i_throw, nb0, nb1, nint, nby0, rf_s, rf_n, of_r, of_n, tk_orf_rf, tk_c2, tk_ls, Value.category, tk_isR_ref, tk_isR_rf, tk_isR_null]
    rw [hrt] at H
    exact ⟨hcs, hss, H V1 hr S ρ R hR⟩
  have loop : ∀ f s1 c1 ρ S R V1, 2000 ≤ s1 + f → rdR g len V V1 k (.inl (s1, c1)) → RS B m ρ S (rLk (cp 400 (max hw (k + c1.length))) cl) R V1 → rt = pLoop g len one 264 f s1 c1 → E 4 [some (.ref m)] [] S (2 * gS hw (k + c1.length)) (30000 * gS hw (k + c1.length)) := by
    intro f
    induction f with
    | zero =>
      intro s1 c1 ρ S R V1 hf hr hR hrt
      refine hE.2 _ _ _ _ _ ?_
      obtain ⟨u1, u2, u3⟩ := hR.1.1
      obtain ⟨p1, w1, w2⟩ := hr.next hv
      rw [pLoop] at hrt
      subst hrt
      have hsl := hr.at_le
      have hmc : 2 * gS hw (k + c1.length) ≤ mc := hmc
      have hms : 30000 * gS hw (k + c1.length) ≤ ms := hms
      simp -implicitDefEqProofs [t_X12_condition_4, i_aload, i_iload, i_lload, i_istore, i_lstore, i_astore, i_iinc, i_push, i_getI, i_getJ, i_getR, i_putI, i_putJ, i_putR, i_iadd, i_isub, i_imul, i_iand, i_ior, i_ixor, i_ishl, i_ishr, i_iushr, i_idiv, i_irem, i_ladd, i_lsub, i_lmul, i_land, i_lor, i_lxor, i_ldiv, i_lrem, i_lshl, i_lshr, i_lcmp, i_ineg, i_lneg, i_i2l, i_l2i, i_i2b, i_i2c, i_dup, i_pop, i_dup_x1, i_dup2, i_icmp_eq, i_icmp_lt, i_icmp_ge, i_icmp_gt, i_icmp_le, i_if_eq, i_if_lt, i_if_ge, i_if_gt, i_if_le, i_goto, i_ifnull, i_iald, i_bald, i_zald, i_lald, i_aald, i_iast, i_bast, i_zast, i_last, i_alen, i_iret, i_lret, i_aret, i_vret, i_oinit, i_cast, i_tsw, i_cases, i_mmin, i_mmax, i_lmin, i_throw, nb0, nb1, nint, nby0, rf_s, rf_n, of_r, of_n, tk_orf_rf, tk_c2, tk_ls, Value.category, tk_isR_ref, tk_isR_rf, tk_isR_null, u1, u2]
      refine ⟨by simp, u1, u2, by simp, 5, 0, 0, by omega, by omega, by omega, ?_⟩
      refine r_eat (g := g) (len := len) (qt := R 1) (p := p1) (by omega) (hR.rP rfl w1.2.1 w1.2.2.1 w1.1) ((hR.2.1.1 5).trans w1.2.2.2.2.2) isWd_or ((hR.2.1.1 4).trans w1.2.2.2.1) w1.2.2.2.2.1 (fun y => ?_) (fun y => ?_)
      · rw [w2] at y
        exfalso
        have := tkTok_lt (g := g) (len := len) (s := s1) (by rw [y]; decide)
        omega
      · rw [w2]
        simp -implicitDefEqProofs [i_aload, i_iload, i_lload, i_istore, i_lstore, i_astore, i_iinc, i_push, i_getI, i_getJ, i_getR, i_putI, i_putJ, i_putR, i_iadd, i_isub, i_imul, i_iand, i_ior, i_ixor, i_ishl, i_ishr, i_iushr, i_idiv, i_irem, i_ladd, i_lsub, i_lmul, i_land, i_lor, i_lxor, i_ldiv, i_lrem, i_lshl, i_lshr, i_lcmp, i_ineg, i_lneg, i_i2l, i_l2i, i_i2b, i_i2c, i_dup, i_pop, i_dup_x1, i_dup2, i_icmp_eq, i_icmp_lt, i_icmp_ge, i_icmp_gt, i_icmp_le, i_if_eq, i_if_lt, i_if_ge, i_if_gt, i_if_le, i_goto, i_ifnull, i_iald, i_bald, i_zald, i_lald, i_aald, i_iast, i_bast, i_zast, i_last, i_alen, i_iret, i_lret, i_aret, i_vret, i_oinit, i_cast, i_tsw, i_cases, i_mmin, i_mmax, i_lmin, i_throw, nb0, nb1, nint, nby0, rf_s, rf_n, of_r, of_n, tk_orf_rf, tk_c2, tk_ls, Value.category, tk_isR_ref, tk_isR_rf, tk_isR_null]
        refine ⟨hmc, hms, H _ ?_ _ _ _ (hR.iI 4 _)⟩
        have := hr.at (q := s1) hsl
        rw [← w2, tkStart_idem w1.2.2.2.2.1] at this
        rw [w2] at this
        exact this
    | succ f ih =>
      intro s1 c1 ρ S R V1 hf hr hR hrt
      refine hE.2 _ _ _ _ _ ?_
      obtain ⟨u1, u2, u3⟩ := hR.1.1
      obtain ⟨p1, w1, w2⟩ := hr.next hv
      have hsl := hr.at_le
      have hjn1 : c1.length ≤ jn rt := by rw [hrt]; exact pLoop_jn _ _ _ _ _ _ _
      have hg1 : gS hw (k + c1.length) ≤ gS hw (k + jn rt) := gS_mono (by omega)
      rw [pLoop] at hrt
      simp -implicitDefEqProofs [t_X12_condition_4, i_aload, i_iload, i_lload, i_istore, i_lstore, i_astore, i_iinc, i_push, i_getI, i_getJ, i_getR, i_putI, i_putJ, i_putR, i_iadd, i_isub, i_imul, i_iand, i_ior, i_ixor, i_ishl, i_ishr, i_iushr, i_idiv, i_irem, i_ladd, i_lsub, i_lmul, i_land, i_lor, i_lxor, i_ldiv, i_lrem, i_lshl, i_lshr, i_lcmp, i_ineg, i_lneg, i_i2l, i_l2i, i_i2b, i_i2c, i_dup, i_pop, i_dup_x1, i_dup2, i_icmp_eq, i_icmp_lt, i_icmp_ge, i_icmp_gt, i_icmp_le, i_if_eq, i_if_lt, i_if_ge, i_if_gt, i_if_le, i_goto, i_ifnull, i_iald, i_bald, i_zald, i_lald, i_aald, i_iast, i_bast, i_zast, i_last, i_alen, i_iret, i_lret, i_aret, i_vret, i_oinit, i_cast, i_tsw, i_cases, i_mmin, i_mmax, i_lmin, i_throw, nb0, nb1, nint, nby0, rf_s, rf_n, of_r, of_n, tk_orf_rf, tk_c2, tk_ls, Value.category, tk_isR_ref, tk_isR_rf, tk_isR_null, u1, u2]
      refine ⟨by simp, u1, u2, by simp, 5, 0, 0, by omega, by omega, by omega, ?_⟩
      refine r_eat (g := g) (len := len) (qt := R 1) (p := p1) (by omega) (hR.rP rfl w1.2.1 w1.2.2.1 w1.1) ((hR.2.1.1 5).trans w1.2.2.2.2.2) isWd_or ((hR.2.1.1 4).trans w1.2.2.2.1) w1.2.2.2.2.1 (fun y => ?_) (fun y => ?_)
      · rw [w2] at y ⊢
        have y2 : tkTok g len s1 = 264 := y
        have hen := tkEnd_w (g := g) (len := len) (s := s1) (w := 8) (by decide) y
        have hnx : tkStart g len (tkEnd g len s1) = tkNext g len s1 := rfl
        have hnn := tkNext_le g hsl
        have hen2 := tkEnd_lt g hen.2
        rw [if_pos y2] at hrt
        simp -implicitDefEqProofs [i_aload, i_iload, i_lload, i_istore, i_lstore, i_astore, i_iinc, i_push, i_getI, i_getJ, i_getR, i_putI, i_putJ, i_putR, i_iadd, i_isub, i_imul, i_iand, i_ior, i_ixor, i_ishl, i_ishr, i_iushr, i_idiv, i_irem, i_ladd, i_lsub, i_lmul, i_land, i_lor, i_lxor, i_ldiv, i_lrem, i_lshl, i_lshr, i_lcmp, i_ineg, i_lneg, i_i2l, i_l2i, i_i2b, i_i2c, i_dup, i_pop, i_dup_x1, i_dup2, i_icmp_eq, i_icmp_lt, i_icmp_ge, i_icmp_gt, i_icmp_le, i_if_eq, i_if_lt, i_if_ge, i_if_gt, i_if_le, i_goto, i_ifnull, i_iald, i_bald, i_zald, i_lald, i_aald, i_iast, i_bast, i_zast, i_last, i_alen, i_iret, i_lret, i_aret, i_vret, i_oinit, i_cast, i_tsw, i_cases, i_mmin, i_mmax, i_lmin, i_throw, nb0, nb1, nint, nby0, rf_s, rf_n, of_r, of_n, tk_orf_rf, tk_c2, tk_ls, Value.category, tk_isR_ref, tk_isR_rf, tk_isR_null, z_q_L_s_I, z_q_K_s_I, z_q_I_s_I, z_q_J_s_I, z_q_R_s_I, z_q_n_s_I, z_q_aI_s_I, z_q_aJ_s_I, z_q_aR_s_I, z_q_L_s_J, z_q_K_s_J, z_q_I_s_J, z_q_J_s_J, z_q_R_s_J, z_q_n_s_J, z_q_aI_s_J, z_q_aJ_s_J, z_q_aR_s_J, z_q_L_s_R, z_q_K_s_R, z_q_I_s_R, z_q_J_s_R, z_q_R_s_R, z_q_n_s_R, z_q_aI_s_R, z_q_aJ_s_R, z_q_aR_s_R, z_q_L_s_aI, z_q_K_s_aI, z_q_I_s_aI, z_q_J_s_aI, z_q_R_s_aI, z_q_n_s_aI, z_q_aI_s_aI, z_q_aJ_s_aI, z_q_aR_s_aI, z_q_L_s_aJ, z_q_K_s_aJ, z_q_I_s_aJ, z_q_J_s_aJ, z_q_R_s_aJ, z_q_n_s_aJ, z_q_aI_s_aJ, z_q_aJ_s_aJ, z_q_aR_s_aJ, z_q_L_s_aR, z_q_K_s_aR, z_q_I_s_aR, z_q_J_s_aR, z_q_R_s_aR, z_q_n_s_aR, z_q_aI_s_aR, z_q_aJ_s_aR, z_q_aR_s_aR, z_q_L_s_new, z_q_K_s_new, z_q_I_s_new, z_q_J_s_new, z_q_R_s_new, z_q_n_s_new, z_q_aI_s_new, z_q_aJ_s_new, z_q_aR_s_new, z_q_L_s_arr, z_q_K_s_arr, z_q_I_s_arr, z_q_J_s_arr, z_q_R_s_arr, z_q_n_s_arr, z_q_aI_s_arr, z_q_aJ_s_arr, z_q_aR_s_arr, u1, u2]
        have hjn2 : c1.length + jn (one (tkNext g len s1)) + 1 ≤ jn rt := by
          rw [hrt]
          split
          · rename_i s' c' e
            rw [e]
            have := pLoop_jn g len one 264 f s' (c1 ++ c' ++ [(264, 0, 0)])
            simp only [List.length_append, List.length_cons, List.length_nil] at this
            exact this
          · rename_i kd pl j e
            rw [e]
            exact Nat.le_refl _
        have g1 := gS_add (hw := hw) (a := k + c1.length) (b := k + c1.length + jn (one (tkNext g len s1))) (by omega)
        have g2 := gS_add (hw := hw) (a := k + c1.length + jn (one (tkNext g len s1))) (b := k + c1.length + jn (one (tkNext g len s1)) + 1) (by omega)
        have g3 : gS hw (k + c1.length + jn (one (tkNext g len s1)) + 1) ≤ gS hw (k + jn rt) := gS_mono (by omega)
        refine ⟨by simp, u1, u2, by simp, dd, 2 * gS (max hw (k + c1.length)) (k + c1.length + jn (one (tkNext g len s1))), 30000 * gS (max hw (k + c1.length)) (k + c1.length + jn (one (tkNext g len s1))), by omega, by omega, by omega, ?_⟩
        refine h1 B m ρ _ cl R (wI V1 4 (nI (tkEnd g len s1))) (max hw (k + c1.length)) (k + c1.length) (tkEnd g len s1) _ _ _ _ (Nat.le_refl _) (hR.iI 4 _) (w1.at4 hen.1) (by simpa [vI_wI] using hr.2.2.2.2.2.1) (by simpa [vI_wI] using hr.2.2.2.1.trans ho) (by omega) (by rw [hnx]; omega) (by rw [hnx]; exact Nat.le_refl _) (by rw [hnx]; exact Nat.le_refl _) (fun V2 hr2 S2 ρ2 R2 hR2 => ?_)
        rw [hnx] at hr2 hR2
        rw [g1.2] at hR2
        obtain ⟨v1, v2, v3⟩ := hR2.1.1
        simp -implicitDefEqProofs [i_aload, i_iload, i_lload, i_istore, i_lstore, i_astore, i_iinc, i_push, i_getI, i_getJ, i_getR, i_putI, i_putJ, i_putR, i_iadd, i_isub, i_imul, i_iand, i_ior, i_ixor, i_ishl, i_ishr, i_iushr, i_idiv, i_irem, i_ladd, i_lsub, i_lmul, i_land, i_lor, i_lxor, i_ldiv, i_lrem, i_lshl, i_lshr, i_lcmp, i_ineg, i_lneg, i_i2l, i_l2i, i_i2b, i_i2c, i_dup, i_pop, i_dup_x1, i_dup2, i_icmp_eq, i_icmp_lt, i_icmp_ge, i_icmp_gt, i_icmp_le, i_if_eq, i_if_lt, i_if_ge, i_if_gt, i_if_le, i_goto, i_ifnull, i_iald, i_bald, i_zald, i_lald, i_aald, i_iast, i_bast, i_zast, i_last, i_alen, i_iret, i_lret, i_aret, i_vret, i_oinit, i_cast, i_tsw, i_cases, i_mmin, i_mmax, i_lmin, i_throw, nb0, nb1, nint, nby0, rf_s, rf_n, of_r, of_n, tk_orf_rf, tk_c2, tk_ls, Value.category, tk_isR_ref, tk_isR_rf, tk_isR_null, z_q_L_s_I, z_q_K_s_I, z_q_I_s_I, z_q_J_s_I, z_q_R_s_I, z_q_n_s_I, z_q_aI_s_I, z_q_aJ_s_I, z_q_aR_s_I, z_q_L_s_J, z_q_K_s_J, z_q_I_s_J, z_q_J_s_J, z_q_R_s_J, z_q_n_s_J, z_q_aI_s_J, z_q_aJ_s_J, z_q_aR_s_J, z_q_L_s_R, z_q_K_s_R, z_q_I_s_R, z_q_J_s_R, z_q_R_s_R, z_q_n_s_R, z_q_aI_s_R, z_q_aJ_s_R, z_q_aR_s_R, z_q_L_s_aI, z_q_K_s_aI, z_q_I_s_aI, z_q_J_s_aI, z_q_R_s_aI, z_q_n_s_aI, z_q_aI_s_aI, z_q_aJ_s_aI, z_q_aR_s_aI, z_q_L_s_aJ, z_q_K_s_aJ, z_q_I_s_aJ, z_q_J_s_aJ, z_q_R_s_aJ, z_q_n_s_aJ, z_q_aI_s_aJ, z_q_aJ_s_aJ, z_q_aR_s_aJ, z_q_L_s_aR, z_q_K_s_aR, z_q_I_s_aR, z_q_J_s_aR, z_q_R_s_aR, z_q_n_s_aR, z_q_aI_s_aR, z_q_aJ_s_aR, z_q_aR_s_aR, z_q_L_s_new, z_q_K_s_new, z_q_I_s_new, z_q_J_s_new, z_q_R_s_new, z_q_n_s_new, z_q_aI_s_new, z_q_aJ_s_new, z_q_aR_s_new, z_q_L_s_arr, z_q_K_s_arr, z_q_I_s_arr, z_q_J_s_arr, z_q_R_s_arr, z_q_n_s_arr, z_q_aI_s_arr, z_q_aJ_s_arr, z_q_aR_s_arr, v1, v2]
        have gg : gS (max hw (k + c1.length + jn (one (tkNext g len s1)))) (k + c1.length + jn (one (tkNext g len s1)) + 1) = lv 400 (max (max hw (k + c1.length + jn (one (tkNext g len s1)))) (k + c1.length + jn (one (tkNext g len s1)) + 1)) - lv 400 (max hw (k + c1.length + jn (one (tkNext g len s1)))) := rfl
        have emit : ∀ n, n = k + c1.length + jn (one (tkNext g len s1)) → vI V2 17 = nI n → (∀ f1 f2 S' ρ' R', (∀ j, j < n → f1 j = vA V2 15 j ∧ f2 j = vA V2 16 j) → RS B m ρ' S' (rLk (cp 400 (max hw (n + 1))) cl) R' (emV V2 n 1 0 f1 f2) → E 4 [some (.ref m)] [] S' (2 * gS hw (n + 1)) (30000 * gS hw (n + 1))) → tk_M Z mX12_emits 1 (2 * gS (max hw n) (n + 1)) (30000 * gS (max hw n) (n + 1)) [.ref m, .int 1, .int 0] S2 (fun v S' => E 4 [some (.ref m)] (v.toList ++ []) S' (2 * gS hw (n + 1)) (30000 * gS hw (n + 1))) tk_noX := by
          intro n hn h17 hh
          subst hn
          refine r_emits (by omega) hR2 h17 (by omega) (by omega) (by omega) (by omega) (fun f1 f2 hff S' ρ' R' hR' => ?_)
          rw [g2.2] at hR'
          exact hh f1 f2 S' ρ' R' hff hR'
        refine ⟨by simp, v1, v2, by simp, 1, 2 * gS (max hw (k + c1.length + jn (one (tkNext g len s1)))) (k + c1.length + jn (one (tkNext g len s1)) + 1), 30000 * gS (max hw (k + c1.length + jn (one (tkNext g len s1)))) (k + c1.length + jn (one (tkNext g len s1)) + 1), by omega, by omega, by omega, ?_⟩
        have ec : 2 * gS hw (k + c1.length) + 2 * gS (max hw (k + c1.length)) (k + c1.length + jn (one (tkNext g len s1))) + 2 * gS (max hw (k + c1.length + jn (one (tkNext g len s1)))) (k + c1.length + jn (one (tkNext g len s1)) + 1) = 2 * gS hw (k + c1.length + jn (one (tkNext g len s1)) + 1) := by omega
        have es : 30000 * gS hw (k + c1.length) + 30000 * gS (max hw (k + c1.length)) (k + c1.length + jn (one (tkNext g len s1))) + 30000 * gS (max hw (k + c1.length + jn (one (tkNext g len s1)))) (k + c1.length + jn (one (tkNext g len s1)) + 1) = 30000 * gS hw (k + c1.length + jn (one (tkNext g len s1)) + 1) := by omega
        rw [ec, es]
        rcases he : one (tkNext g len s1) with ⟨s', c'⟩ | ⟨kd, pl, j⟩
        · rw [he] at hr2 hrt emit ec es
          have hr3 := hr.step (p := 0) hr2
          have h17 := hr3.2.2.2.2.2.1
          simp only [List.length_append, ← Nat.add_assoc] at h17
          refine emit (k + c1.length + c'.length) rfl h17 (fun f1 f2 S' ρ' R' hff hR' => ?_)
          have hlen : (c1 ++ c' ++ [((264 : Int32), (0 : Int32), (0 : Int32))]).length = c1.length + c'.length + 1 := by simp [Nat.add_assoc]
          have hr4 := hr3.emit (n := k + c1.length + c'.length) (c := 1) (v := 0) (x := (264, 0, 0)) (by simp [Nat.add_assoc]) hff rfl
          have hh := ih s' (c1 ++ c' ++ [(264, 0, 0)]) ρ' S' R' _ (by have := hone _ _ _ hnn.2.1 he; omega) hr4 (by rw [hlen, ← Nat.add_assoc, ← Nat.add_assoc]; exact hR') hrt
          rw [hlen, ← Nat.add_assoc, ← Nat.add_assoc] at hh
          exact hh
        · rw [he] at hr2 hrt emit ec es
          have hr3 := hr.stepF hr2
          have h17 := hr3.2.2.2.2.1
          rw [← Nat.add_assoc] at h17
          refine emit (k + c1.length + j) rfl h17 (fun f1 f2 S' ρ' R' hff hR' => ?_)
          have hr4 := hr3.emitF (n := k + c1.length + j) (c := 1) (v := 0) (by omega) hff
          rw [he] at g3
          refine flt ρ' S' R' _ kd pl (c1.length + j + 1) _ _ hr4 (by rw [show k + (c1.length + j + 1) = k + c1.length + j + 1 by omega]; exact hR') hrt ?_ ?_
          · exact Nat.le_trans (Nat.mul_le_mul_left 2 g3) hmc
          · exact Nat.le_trans (Nat.mul_le_mul_left 30000 g3) hms
      · rw [w2] at y ⊢
        have y2 : tkTok g len s1 ≠ 264 := y
        rw [if_neg y2] at hrt
        subst hrt
        simp -implicitDefEqProofs [i_aload, i_iload, i_lload, i_istore, i_lstore, i_astore, i_iinc, i_push, i_getI, i_getJ, i_getR, i_putI, i_putJ, i_putR, i_iadd, i_isub, i_imul, i_iand, i_ior, i_ixor, i_ishl, i_ishr, i_iushr, i_idiv, i_irem, i_ladd, i_lsub, i_lmul, i_land, i_lor, i_lxor, i_ldiv, i_lrem, i_lshl, i_lshr, i_lcmp, i_ineg, i_lneg, i_i2l, i_l2i, i_i2b, i_i2c, i_dup, i_pop, i_dup_x1, i_dup2, i_icmp_eq, i_icmp_lt, i_icmp_ge, i_icmp_gt, i_icmp_le, i_if_eq, i_if_lt, i_if_ge, i_if_gt, i_if_le, i_goto, i_ifnull, i_iald, i_bald, i_zald, i_lald, i_aald, i_iast, i_bast, i_zast, i_last, i_alen, i_iret, i_lret, i_aret, i_vret, i_oinit, i_cast, i_tsw, i_cases, i_mmin, i_mmax, i_lmin, i_throw, nb0, nb1, nint, nby0, rf_s, rf_n, of_r, of_n, tk_orf_rf, tk_c2, tk_ls, Value.category, tk_isR_ref, tk_isR_rf, tk_isR_null]
        refine ⟨hmc, hms, H _ ?_ _ _ _ (hR.iI 4 _)⟩
        have := hr.at (q := s1) hsl
        rw [← w2, tkStart_idem w1.2.2.2.2.1] at this
        rw [w2] at this
        exact this
  obtain ⟨u1, u2, u3⟩ := hR.1.1
  have hj0 : jn (one (tkStart g len p)) ≤ jn rt := by rw [← hrt]; exact pJoin_jn _ _ _ _ _
  have hg0 : gS hw (k + jn (one (tkStart g len p))) ≤ gS hw (k + jn rt) := gS_mono (by omega)
  simp -implicitDefEqProofs [t_X12_condition_0, i_aload, i_iload, i_lload, i_istore, i_lstore, i_astore, i_iinc, i_push, i_getI, i_getJ, i_getR, i_putI, i_putJ, i_putR, i_iadd, i_isub, i_imul, i_iand, i_ior, i_ixor, i_ishl, i_ishr, i_iushr, i_idiv, i_irem, i_ladd, i_lsub, i_lmul, i_land, i_lor, i_lxor, i_ldiv, i_lrem, i_lshl, i_lshr, i_lcmp, i_ineg, i_lneg, i_i2l, i_l2i, i_i2b, i_i2c, i_dup, i_pop, i_dup_x1, i_dup2, i_icmp_eq, i_icmp_lt, i_icmp_ge, i_icmp_gt, i_icmp_le, i_if_eq, i_if_lt, i_if_ge, i_if_gt, i_if_le, i_goto, i_ifnull, i_iald, i_bald, i_zald, i_lald, i_aald, i_iast, i_bast, i_zast, i_last, i_alen, i_iret, i_lret, i_aret, i_vret, i_oinit, i_cast, i_tsw, i_cases, i_mmin, i_mmax, i_lmin, i_throw, nb0, nb1, nint, nby0, rf_s, rf_n, of_r, of_n, tk_orf_rf, tk_c2, tk_ls, Value.category, tk_isR_ref, tk_isR_rf, tk_isR_null, u1, u2]
  refine ⟨by simp, u1, u2, by simp, dd, 2 * gS hw (k + jn (one (tkStart g len p))), 30000 * gS hw (k + jn (one (tkStart g len p))), by omega, by omega, by omega, ?_⟩
  refine h1 B m ρ S cl R V hw k p _ _ _ _ (Nat.le_refl _) hR hv hk ho hkh (by omega) (Nat.le_refl _) (Nat.le_refl _) (fun V2 hr2 S2 ρ2 R2 hR2 => ?_)
  simp -implicitDefEqProofs [i_aload, i_iload, i_lload, i_istore, i_lstore, i_astore, i_iinc, i_push, i_getI, i_getJ, i_getR, i_putI, i_putJ, i_putR, i_iadd, i_isub, i_imul, i_iand, i_ior, i_ixor, i_ishl, i_ishr, i_iushr, i_idiv, i_irem, i_ladd, i_lsub, i_lmul, i_land, i_lor, i_lxor, i_ldiv, i_lrem, i_lshl, i_lshr, i_lcmp, i_ineg, i_lneg, i_i2l, i_l2i, i_i2b, i_i2c, i_dup, i_pop, i_dup_x1, i_dup2, i_icmp_eq, i_icmp_lt, i_icmp_ge, i_icmp_gt, i_icmp_le, i_if_eq, i_if_lt, i_if_ge, i_if_gt, i_if_le, i_goto, i_ifnull, i_iald, i_bald, i_zald, i_lald, i_aald, i_iast, i_bast, i_zast, i_last, i_alen, i_iret, i_lret, i_aret, i_vret, i_oinit, i_cast, i_tsw, i_cases, i_mmin, i_mmax, i_lmin, i_throw, nb0, nb1, nint, nby0, rf_s, rf_n, of_r, of_n, tk_orf_rf, tk_c2, tk_ls, Value.category, tk_isR_ref, tk_isR_rf, tk_isR_null]
  unfold pJoin at hrt
  rcases he : one (tkStart g len p) with ⟨s', c'⟩ | ⟨kd, pl, j⟩
  · rw [he] at hr2 hrt hR2
    exact loop 2000 s' c' ρ2 S2 R2 V2 (by omega) hr2 hR2 hrt.symm
  · rw [he] at hr2 hrt hR2 hg0
    refine flt ρ2 S2 R2 V2 kd pl j _ _ hr2 hR2 hrt.symm ?_ ?_
    · exact Nat.le_trans (Nat.mul_le_mul_left 2 hg0) hmc
    · exact Nat.le_trans (Nat.mul_le_mul_left 30000 hg0) hms
end RJOIN

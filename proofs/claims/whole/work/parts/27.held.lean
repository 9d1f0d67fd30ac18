/-! THE BOX: what was held behind a day; the box made -/
section BOX3
variable {Z : tk_Z} {d mc ms : Nat} {S : tk_S} {QR : tk_R}
/-- one less -/
def jm : Nat → Int32
  | 0 => -1
  | k + 1 => nI k
theorem jm_s (k : Nat) : nI k - 1 = jm k := by
  cases k with
  | zero => decide
  | succ k => exact nI_pred k
theorem jm_a (k : Nat) : nI k + -1 = jm k := by
  rw [← jm_s]
  exact (Int32.sub_eq_add_neg (nI k) 1).symm
/-- what the box held at the last line not after a day -/
def heldIn (v2 : Nat → Int32) (v6 : Nat → Int64) (day : Int32) : Nat → Int64
  | 0 => 0
  | k + 1 => if day < v2 k then heldIn v2 v6 day k else v6 k
theorem m_heldBehind {bx n cap r2 r3 r4 r5 r6 : Nat} {m : Int64} {v2 v3 v4 : Nat → Int32} {v5 v6 : Nat → Int64} {day : Int32} (hd : 1 ≤ d) (hb : isBox S bx n m v2 v3 v4 v5 v6 cap r2 r3 r4 r5 r6)
    (h : QR (some (.long (heldIn v2 v6 day n))) S) : tk_M Z mX2_heldBehind d mc ms [.ref bx, .int day] S QR tk_noX := by
  obtain ⟨hr, hn, hm, hnc, hv⟩ := hb
  obtain ⟨b1, b2, ⟨a1, a2, a3, a4⟩, ⟨c1, c2, c3, c4⟩, ⟨d1, d2, d3, d4⟩, ⟨e1, e2, e3, e4⟩, ⟨f1, f2, f3, f4⟩, n1, n2, n3, n4, g1, g2⟩ := hr
  refine M_X2_heldBehind (Nat.le_of_ble_eq_true rfl) (fun E hE => hE.1 _ _ _ _ _ ?_)
  have loop : ∀ k, k ≤ n → QR (some (.long (heldIn v2 v6 day k))) S → E 15 [some (.ref bx), some (.int day), some (.int (jm k))] [] S 0 0 := by
    intro k
    induction k with
    | zero =>
      intro _ hk
      refine hE.2 _ _ _ _ _ ?_
      simp [t_X2_heldBehind_15, i_aload, i_iload, i_lload, i_istore, i_lstore, i_astore, i_iinc, i_push, i_getI, i_getJ, i_getR, i_putI, i_putJ, i_putR, i_iadd, i_isub, i_imul, i_iand, i_ior, i_ixor, i_ishl, i_ishr, i_iushr, i_idiv, i_irem, i_ladd, i_lsub, i_lmul, i_land, i_lor, i_lxor, i_ldiv, i_lrem, i_lshl, i_lshr, i_lcmp, i_ineg, i_lneg, i_i2l, i_l2i, i_i2b, i_i2c, i_dup, i_pop, i_dup_x1, i_dup2, i_icmp_eq, i_icmp_lt, i_icmp_ge, i_icmp_gt, i_icmp_le, i_if_eq, i_if_lt, i_if_ge, i_if_gt, i_if_le, i_goto, i_ifnull, i_iald, i_bald, i_zald, i_lald, i_aald, i_iast, i_bast, i_zast, i_last, i_alen, i_iret, i_lret, i_aret, i_vret, i_oinit, i_cast, i_tsw, i_cases, i_mmin, i_mmax, i_lmin, i_throw, nb0, nb1, nint, nby0, rf_s, rf_n, of_r, of_n, tk_orf_rf, tk_c2, tk_ls, Value.category, tk_isR_ref, tk_isR_rf, tk_isR_null, jm]
      exact hk
    | succ k ih =>
      intro hkn hk
      refine hE.2 _ _ _ _ _ ?_
      have z0 : ¬ nI k < 0 := nI_nlt (b := 0) (Nat.zero_le k) (by omega)
      have z : ¬ nI cap ≤ nI k := nI_ge (by omega) (by omega)
      have z1 : nI k < nI cap := nI_lt (by omega) (by omega)
      have hin : vp_in (nI k) cap := vp_in_nI (by omega) (by omega)
      have hc : (nI k).toNatClampNeg = k := nI_clamp (by omega)
      obtain ⟨k2, k3, k4, k5, k6⟩ := hv k (by omega)
      simp [t_X2_heldBehind_15, i_aload, i_iload, i_lload, i_istore, i_lstore, i_astore, i_iinc, i_push, i_getI, i_getJ, i_getR, i_putI, i_putJ, i_putR, i_iadd, i_isub, i_imul, i_iand, i_ior, i_ixor, i_ishl, i_ishr, i_iushr, i_idiv, i_irem, i_ladd, i_lsub, i_lmul, i_land, i_lor, i_lxor, i_ldiv, i_lrem, i_lshl, i_lshr, i_lcmp, i_ineg, i_lneg, i_i2l, i_l2i, i_i2b, i_i2c, i_dup, i_pop, i_dup_x1, i_dup2, i_icmp_eq, i_icmp_lt, i_icmp_ge, i_icmp_gt, i_icmp_le, i_if_eq, i_if_lt, i_if_ge, i_if_gt, i_if_le, i_goto, i_ifnull, i_iald, i_bald, i_zald, i_lald, i_aald, i_iast, i_bast, i_zast, i_last, i_alen, i_iret, i_lret, i_aret, i_vret, i_oinit, i_cast, i_tsw, i_cases, i_mmin, i_mmax, i_lmin, i_throw, nb0, nb1, nint, nby0, rf_s, rf_n, of_r, of_n, tk_orf_rf, tk_c2, tk_ls, Value.category, tk_isR_ref, tk_isR_rf, tk_isR_null, jm, b1, b2, a1, a2, a3, a4, f1, f2, f3, f4, z0, z, z1, hin, hc, k2, k6]
      refine ⟨fun w => ?_, fun w => ?_⟩
      · rw [jm_a]
        refine ih (by omega) ?_
        rw [heldIn, if_pos w] at hk
        exact hk
      · rw [heldIn, if_neg (Int32.not_lt.mpr w)] at hk
        exact hk
  show t_X2_heldBehind_0 Z d mc ms QR E [some (.ref bx), some (.int day), none] [] S 0 0
  simp [t_X2_heldBehind_0, i_aload, i_iload, i_lload, i_istore, i_lstore, i_astore, i_iinc, i_push, i_getI, i_getJ, i_getR, i_putI, i_putJ, i_putR, i_iadd, i_isub, i_imul, i_iand, i_ior, i_ixor, i_ishl, i_ishr, i_iushr, i_idiv, i_irem, i_ladd, i_lsub, i_lmul, i_land, i_lor, i_lxor, i_ldiv, i_lrem, i_lshl, i_lshr, i_lcmp, i_ineg, i_lneg, i_i2l, i_l2i, i_i2b, i_i2c, i_dup, i_pop, i_dup_x1, i_dup2, i_icmp_eq, i_icmp_lt, i_icmp_ge, i_icmp_gt, i_icmp_le, i_if_eq, i_if_lt, i_if_ge, i_if_gt, i_if_le, i_goto, i_ifnull, i_iald, i_bald, i_zald, i_lald, i_aald, i_iast, i_bast, i_zast, i_last, i_alen, i_iret, i_lret, i_aret, i_vret, i_oinit, i_cast, i_tsw, i_cases, i_mmin, i_mmax, i_lmin, i_throw, nb0, nb1, nint, nby0, rf_s, rf_n, of_r, of_n, tk_orf_rf, tk_c2, tk_ls, Value.category, tk_isR_ref, tk_isR_rf, tk_isR_null, b1, b2, a1, a2, a3, a4, f1, f2, f3, f4, hn]
  rw [if_neg (nI_nlt hnc (by omega)), jm_s]
  exact ⟨hd, loop n (Nat.le_refl n) h⟩
/-- five steps make the rows -/
theorem made5 {S S1 S2 S3 S4 S5 : tk_S} {bx N r2 r3 r4 r5 r6 q2 q3 q4 q5 q6 M2 M3 M4 M5 M6 : Nat} (b1 : bx ∈ q_L S) (b2 : q_K S bx = 3) (hN1 : 64 ≤ N) (hN : N ≤ 12000)
    (s1 : stp S S1 bx 2 q2 r2 N 15 M2) (s2 : stp S1 S2 bx 3 q3 r3 N 15 M3) (s3 : stp S2 S3 bx 4 q4 r4 N 15 M4) (s4 : stp S3 S4 bx 5 q5 r5 N 16 M5) (s5 : stp S4 S5 bx 6 q6 r6 N 16 M6) : isRows S5 bx N q2 q3 q4 q5 q6 ∧ q_I S5 3 1 bx = q_I S 3 1 bx ∧ q_J S5 3 0 bx = q_J S 3 0 bx ∧
  (∀ b, b ∈ q_L S → b ≠ bx → sameAt S S5 b) ∧ (∀ b, b ∈ q_L S → b ∈ q_L S5) ∧ (∀ b, b ∈ q_L S5 → b ∈ q_L S ∨ b = q2 ∨ b = q3 ∨ b = q4 ∨ b = q5 ∨ b = q6) ∧ (q2 ∉ q_L S ∧ q3 ∉ q_L S ∧ q4 ∉ q_L S ∧ q5 ∉ q_L S ∧ q6 ∉ q_L S) := by
  have mb : ∀ (T : tk_S) r c, q_K T bx = 3 → q_K T r = c → c ≠ 3 → r ≠ bx := fun T r c hb hc h3 w => h3 (by rw [← hc, w, hb])
  have B1 := s1.box b1 b2
  have B2 := s2.box B1.1 B1.2
  have B3 := s3.box B2.1 B2.2
  have B4 := s4.box B3.1 B3.2
  have B5 := s5.box B4.1 B4.2
  have u2 := s1.new
  have u3 := s2.new
  have u4 := s3.new
  have u5 := s4.new
  have u6 := s5.new
  have y2 := mb S1 q2 15 B1.2 u2.2.2.1 (by decide)
  have y3 := mb S2 q3 15 B2.2 u3.2.2.1 (by decide)
  have y4 := mb S3 q4 15 B3.2 u4.2.2.1 (by decide)
  have y5 := mb S4 q5 16 B4.2 u5.2.2.1 (by decide)
  have w12 : ∀ b, b ∈ q_L S → b ≠ bx → sameAt S S1 b := s1.2.2.1
  have w13 : ∀ b, b ∈ q_L S → b ≠ bx → sameAt S S2 b := fun b h k => (w12 b h k).trans (s2.2.2.1 b (w12 b h k).1 k)
  have w14 : ∀ b, b ∈ q_L S → b ≠ bx → sameAt S S3 b := fun b h k => (w13 b h k).trans (s3.2.2.1 b (w13 b h k).1 k)
  have w15 : ∀ b, b ∈ q_L S → b ≠ bx → sameAt S S4 b := fun b h k => (w14 b h k).trans (s4.2.2.1 b (w14 b h k).1 k)
  have w16 : ∀ b, b ∈ q_L S → b ≠ bx → sameAt S S5 b := fun b h k => (w15 b h k).trans (s5.2.2.1 b (w15 b h k).1 k)
  have k2 : sameAt S1 S5 q2 := by
    have a := s2.2.2.1 q2 u2.2.1 y2
    have a := a.trans (s3.2.2.1 q2 a.1 y2)
    have a := a.trans (s4.2.2.1 q2 a.1 y2)
    exact a.trans (s5.2.2.1 q2 a.1 y2)
  have k3 : sameAt S2 S5 q3 := by
    have a := s3.2.2.1 q3 u3.2.1 y3
    have a := a.trans (s4.2.2.1 q3 a.1 y3)
    exact a.trans (s5.2.2.1 q3 a.1 y3)
  have k4 : sameAt S3 S5 q4 := by
    have a := s4.2.2.1 q4 u4.2.1 y4
    exact a.trans (s5.2.2.1 q4 a.1 y4)
  have k5 : sameAt S4 S5 q5 := s5.2.2.1 q5 u5.2.1 y5
  have m12 : ∀ b, b ∈ q_L S → b ∈ q_L S1 := fun b h => by rw [s1.2.1]; exact List.mem_append_left _ h
  have m23 : ∀ b, b ∈ q_L S1 → b ∈ q_L S2 := fun b h => by rw [s2.2.1]; exact List.mem_append_left _ h
  have m34 : ∀ b, b ∈ q_L S2 → b ∈ q_L S3 := fun b h => by rw [s3.2.1]; exact List.mem_append_left _ h
  have m45 : ∀ b, b ∈ q_L S3 → b ∈ q_L S4 := fun b h => by rw [s4.2.1]; exact List.mem_append_left _ h
  have m56 : ∀ b, b ∈ q_L S4 → b ∈ q_L S5 := fun b h => by rw [s5.2.1]; exact List.mem_append_left _ h
  have f3 : q3 ∉ q_L S := fun h => s2.1 (m12 _ h)
  have f4 : q4 ∉ q_L S := fun h => s3.1 (m23 _ (m12 _ h))
  have f5 : q5 ∉ q_L S := fun h => s4.1 (m34 _ (m23 _ (m12 _ h)))
  have f6 : q6 ∉ q_L S := fun h => s5.1 (m45 _ (m34 _ (m23 _ (m12 _ h))))
  have p2 : q_R S5 3 2 bx = some q2 := by
    rw [s5.2.2.2.2.2.2.1, if_neg (by decide), s4.2.2.2.2.2.2.1, if_neg (by decide), s3.2.2.2.2.2.2.1, if_neg (by decide), s2.2.2.2.2.2.2.1, if_neg (by decide)]; exact u2.1
  have p3 : q_R S5 3 3 bx = some q3 := by
    rw [s5.2.2.2.2.2.2.1, if_neg (by decide), s4.2.2.2.2.2.2.1, if_neg (by decide), s3.2.2.2.2.2.2.1, if_neg (by decide)]; exact u3.1
  have p4 : q_R S5 3 4 bx = some q4 := by
    rw [s5.2.2.2.2.2.2.1, if_neg (by decide), s4.2.2.2.2.2.2.1, if_neg (by decide)]; exact u4.1
  have p5 : q_R S5 3 5 bx = some q5 := by
    rw [s5.2.2.2.2.2.2.1, if_neg (by decide)]; exact u5.1
  refine ⟨⟨B5.1, B5.2, ⟨p2, k2.1, k2.2.1.trans u2.2.2.1, k2.2.2.2.2.2.1.trans u2.2.2.2⟩, ⟨p3, k3.1, k3.2.1.trans u3.2.2.1, k3.2.2.2.2.2.1.trans u3.2.2.2⟩, ⟨p4, k4.1, k4.2.1.trans u4.2.2.1, k4.2.2.2.2.2.1.trans u4.2.2.2⟩, ⟨p5, k5.1, k5.2.1.trans u5.2.2.1, k5.2.2.2.2.2.1.trans u5.2.2.2⟩, u6,
    fun h => s2.1 (h ▸ u2.2.1), fun h => s3.1 (m23 _ (h ▸ u2.2.1)), fun h => s3.1 (h ▸ u3.2.1), fun h => s5.1 (h ▸ u5.2.1), hN1, hN⟩, ?_, ?_, w16, fun b h => m56 _ (m45 _ (m34 _ (m23 _ (m12 _ h)))), ?_, ⟨s1.1, f3, f4, f5, f6⟩⟩
  · rw [s5.2.2.2.2.1, s4.2.2.2.2.1, s3.2.2.2.2.1, s2.2.2.2.2.1, s1.2.2.2.2.1]
  · rw [s5.2.2.2.2.2.1, s4.2.2.2.2.2.1, s3.2.2.2.2.2.1, s2.2.2.2.2.2.1, s1.2.2.2.2.2.1]
  · intro b hb
    rw [s5.2.1, s4.2.1, s3.2.1, s2.2.1, s1.2.1] at hb
    simp only [List.mem_append, List.mem_singleton] at hb
    rcases hb with ((((h | h) | h) | h) | h) | h
    · exact Or.inl h
    · exact Or.inr (Or.inl h)
    · exact Or.inr (Or.inr (Or.inl h))
    · exact Or.inr (Or.inr (Or.inr (Or.inl h)))
    · exact Or.inr (Or.inr (Or.inr (Or.inr (Or.inl h))))
    · exact Or.inr (Or.inr (Or.inr (Or.inr (Or.inr h))))
theorem new1 {K : tk_K} {ls : List (Option Value)} {bx k kd cs ss : Nat} (h1 : bx ∈ q_L S) (h2 : q_K S bx = 3) (hkd : kd = 15 ∨ kd = 16) (hmc : cs + 1 ≤ mc) (hms : ss + 64 ≤ ms)
    (h : ∀ q S1, stp S S1 bx k q q 64 kd 0 → K ls [] S1 (cs + 1) (ss + 64)) : i_newa mc ms kd (i_putR 3 k K) ls [.int 64, .ref bx] S cs ss := by
  refine ⟨by decide, by decide, hmc, hms, fun q hq => ?_⟩
  have hbq : bx ≠ q := fun w => hq (w ▸ h1)
  simp [i_aload, i_iload, i_lload, i_istore, i_lstore, i_astore, i_iinc, i_push, i_getI, i_getJ, i_getR, i_putI, i_putJ, i_putR, i_iadd, i_isub, i_imul, i_iand, i_ior, i_ixor, i_ishl, i_ishr, i_iushr, i_idiv, i_irem, i_ladd, i_lsub, i_lmul, i_land, i_lor, i_lxor, i_ldiv, i_lrem, i_lshl, i_lshr, i_lcmp, i_ineg, i_lneg, i_i2l, i_l2i, i_i2b, i_i2c, i_dup, i_pop, i_dup_x1, i_dup2, i_icmp_eq, i_icmp_lt, i_icmp_ge, i_icmp_gt, i_icmp_le, i_if_eq, i_if_lt, i_if_ge, i_if_gt, i_if_le, i_goto, i_ifnull, i_iald, i_bald, i_zald, i_lald, i_aald, i_iast, i_bast, i_zast, i_last, i_alen, i_iret, i_lret, i_aret, i_vret, i_oinit, i_cast, i_tsw, i_cases, i_mmin, i_mmax, i_lmin, i_throw, nb0, nb1, nint, nby0, rf_s, rf_n, of_r, of_n, tk_orf_rf, tk_c2, tk_ls, Value.category, tk_isR_ref, tk_isR_rf, tk_isR_null, z_q_L_s_I, z_q_K_s_I, z_q_I_s_I, z_q_J_s_I, z_q_R_s_I, z_q_n_s_I, z_q_aI_s_I, z_q_aJ_s_I, z_q_aR_s_I, z_q_L_s_J, z_q_K_s_J, z_q_I_s_J, z_q_J_s_J, z_q_R_s_J, z_q_n_s_J, z_q_aI_s_J, z_q_aJ_s_J, z_q_aR_s_J, z_q_L_s_R, z_q_K_s_R, z_q_I_s_R, z_q_J_s_R, z_q_R_s_R, z_q_n_s_R, z_q_aI_s_R, z_q_aJ_s_R, z_q_aR_s_R, z_q_L_s_aI, z_q_K_s_aI, z_q_I_s_aI, z_q_J_s_aI, z_q_R_s_aI, z_q_n_s_aI, z_q_aI_s_aI, z_q_aJ_s_aI, z_q_aR_s_aI, z_q_L_s_aJ, z_q_K_s_aJ, z_q_I_s_aJ, z_q_J_s_aJ, z_q_R_s_aJ, z_q_n_s_aJ, z_q_aI_s_aJ, z_q_aJ_s_aJ, z_q_aR_s_aJ, z_q_L_s_aR, z_q_K_s_aR, z_q_I_s_aR, z_q_J_s_aR, z_q_R_s_aR, z_q_n_s_aR, z_q_aI_s_aR, z_q_aJ_s_aR, z_q_aR_s_aR, z_q_L_s_new, z_q_K_s_new, z_q_I_s_new, z_q_J_s_new, z_q_R_s_new, z_q_n_s_new, z_q_aI_s_new, z_q_aJ_s_new, z_q_aR_s_new, z_q_L_s_arr, z_q_K_s_arr, z_q_I_s_arr, z_q_J_s_arr, z_q_R_s_arr, z_q_n_s_arr, z_q_aI_s_arr, z_q_aJ_s_arr, z_q_aR_s_arr, hbq, h1, h2]
  refine h q _ ⟨hq, rfl, fun b hb hbb => ?_, ?_, fun c j => rfl, fun c j => rfl, fun j => ?_, ?_, ?_, fun i hi => absurd hi (Nat.not_lt_zero i), fun i hi => absurd hi (Nat.not_lt_zero i)⟩
  · have hbq2 : b ≠ q := fun w => hq (w ▸ hb)
    simp [sameAt, z_q_L_s_I, z_q_K_s_I, z_q_I_s_I, z_q_J_s_I, z_q_R_s_I, z_q_n_s_I, z_q_aI_s_I, z_q_aJ_s_I, z_q_aR_s_I, z_q_L_s_J, z_q_K_s_J, z_q_I_s_J, z_q_J_s_J, z_q_R_s_J, z_q_n_s_J, z_q_aI_s_J, z_q_aJ_s_J, z_q_aR_s_J, z_q_L_s_R, z_q_K_s_R, z_q_I_s_R, z_q_J_s_R, z_q_R_s_R, z_q_n_s_R, z_q_aI_s_R, z_q_aJ_s_R, z_q_aR_s_R, z_q_L_s_aI, z_q_K_s_aI, z_q_I_s_aI, z_q_J_s_aI, z_q_R_s_aI, z_q_n_s_aI, z_q_aI_s_aI, z_q_aJ_s_aI, z_q_aR_s_aI, z_q_L_s_aJ, z_q_K_s_aJ, z_q_I_s_aJ, z_q_J_s_aJ, z_q_R_s_aJ, z_q_n_s_aJ, z_q_aI_s_aJ, z_q_aJ_s_aJ, z_q_aR_s_aJ, z_q_L_s_aR, z_q_K_s_aR, z_q_I_s_aR, z_q_J_s_aR, z_q_R_s_aR, z_q_n_s_aR, z_q_aI_s_aR, z_q_aJ_s_aR, z_q_aR_s_aR, z_q_L_s_new, z_q_K_s_new, z_q_I_s_new, z_q_J_s_new, z_q_R_s_new, z_q_n_s_new, z_q_aI_s_new, z_q_aJ_s_new, z_q_aR_s_new, z_q_L_s_arr, z_q_K_s_arr, z_q_I_s_arr, z_q_J_s_arr, z_q_R_s_arr, z_q_n_s_arr, z_q_aI_s_arr, z_q_aJ_s_arr, z_q_aR_s_arr, hbq2, hbb, hb]
  · simp [z_q_L_s_I, z_q_K_s_I, z_q_I_s_I, z_q_J_s_I, z_q_R_s_I, z_q_n_s_I, z_q_aI_s_I, z_q_aJ_s_I, z_q_aR_s_I, z_q_L_s_J, z_q_K_s_J, z_q_I_s_J, z_q_J_s_J, z_q_R_s_J, z_q_n_s_J, z_q_aI_s_J, z_q_aJ_s_J, z_q_aR_s_J, z_q_L_s_R, z_q_K_s_R, z_q_I_s_R, z_q_J_s_R, z_q_R_s_R, z_q_n_s_R, z_q_aI_s_R, z_q_aJ_s_R, z_q_aR_s_R, z_q_L_s_aI, z_q_K_s_aI, z_q_I_s_aI, z_q_J_s_aI, z_q_R_s_aI, z_q_n_s_aI, z_q_aI_s_aI, z_q_aJ_s_aI, z_q_aR_s_aI, z_q_L_s_aJ, z_q_K_s_aJ, z_q_I_s_aJ, z_q_J_s_aJ, z_q_R_s_aJ, z_q_n_s_aJ, z_q_aI_s_aJ, z_q_aJ_s_aJ, z_q_aR_s_aJ, z_q_L_s_aR, z_q_K_s_aR, z_q_I_s_aR, z_q_J_s_aR, z_q_R_s_aR, z_q_n_s_aR, z_q_aI_s_aR, z_q_aJ_s_aR, z_q_aR_s_aR, z_q_L_s_new, z_q_K_s_new, z_q_I_s_new, z_q_J_s_new, z_q_R_s_new, z_q_n_s_new, z_q_aI_s_new, z_q_aJ_s_new, z_q_aR_s_new, z_q_L_s_arr, z_q_K_s_arr, z_q_I_s_arr, z_q_J_s_arr, z_q_R_s_arr, z_q_n_s_arr, z_q_aI_s_arr, z_q_aJ_s_arr, z_q_aR_s_arr, hbq]
  · simp [z_q_L_s_I, z_q_K_s_I, z_q_I_s_I, z_q_J_s_I, z_q_R_s_I, z_q_n_s_I, z_q_aI_s_I, z_q_aJ_s_I, z_q_aR_s_I, z_q_L_s_J, z_q_K_s_J, z_q_I_s_J, z_q_J_s_J, z_q_R_s_J, z_q_n_s_J, z_q_aI_s_J, z_q_aJ_s_J, z_q_aR_s_J, z_q_L_s_R, z_q_K_s_R, z_q_I_s_R, z_q_J_s_R, z_q_R_s_R, z_q_n_s_R, z_q_aI_s_R, z_q_aJ_s_R, z_q_aR_s_R, z_q_L_s_aI, z_q_K_s_aI, z_q_I_s_aI, z_q_J_s_aI, z_q_R_s_aI, z_q_n_s_aI, z_q_aI_s_aI, z_q_aJ_s_aI, z_q_aR_s_aI, z_q_L_s_aJ, z_q_K_s_aJ, z_q_I_s_aJ, z_q_J_s_aJ, z_q_R_s_aJ, z_q_n_s_aJ, z_q_aI_s_aJ, z_q_aJ_s_aJ, z_q_aR_s_aJ, z_q_L_s_aR, z_q_K_s_aR, z_q_I_s_aR, z_q_J_s_aR, z_q_R_s_aR, z_q_n_s_aR, z_q_aI_s_aR, z_q_aJ_s_aR, z_q_aR_s_aR, z_q_L_s_new, z_q_K_s_new, z_q_I_s_new, z_q_J_s_new, z_q_R_s_new, z_q_n_s_new, z_q_aI_s_new, z_q_aJ_s_new, z_q_aR_s_new, z_q_L_s_arr, z_q_K_s_arr, z_q_I_s_arr, z_q_J_s_arr, z_q_R_s_arr, z_q_n_s_arr, z_q_aI_s_arr, z_q_aJ_s_arr, z_q_aR_s_arr]
  · simp [z_q_L_s_I, z_q_K_s_I, z_q_I_s_I, z_q_J_s_I, z_q_R_s_I, z_q_n_s_I, z_q_aI_s_I, z_q_aJ_s_I, z_q_aR_s_I, z_q_L_s_J, z_q_K_s_J, z_q_I_s_J, z_q_J_s_J, z_q_R_s_J, z_q_n_s_J, z_q_aI_s_J, z_q_aJ_s_J, z_q_aR_s_J, z_q_L_s_R, z_q_K_s_R, z_q_I_s_R, z_q_J_s_R, z_q_R_s_R, z_q_n_s_R, z_q_aI_s_R, z_q_aJ_s_R, z_q_aR_s_R, z_q_L_s_aI, z_q_K_s_aI, z_q_I_s_aI, z_q_J_s_aI, z_q_R_s_aI, z_q_n_s_aI, z_q_aI_s_aI, z_q_aJ_s_aI, z_q_aR_s_aI, z_q_L_s_aJ, z_q_K_s_aJ, z_q_I_s_aJ, z_q_J_s_aJ, z_q_R_s_aJ, z_q_n_s_aJ, z_q_aI_s_aJ, z_q_aJ_s_aJ, z_q_aR_s_aJ, z_q_L_s_aR, z_q_K_s_aR, z_q_I_s_aR, z_q_J_s_aR, z_q_R_s_aR, z_q_n_s_aR, z_q_aI_s_aR, z_q_aJ_s_aR, z_q_aR_s_aR, z_q_L_s_new, z_q_K_s_new, z_q_I_s_new, z_q_J_s_new, z_q_R_s_new, z_q_n_s_new, z_q_aI_s_new, z_q_aJ_s_new, z_q_aR_s_new, z_q_L_s_arr, z_q_K_s_arr, z_q_I_s_arr, z_q_J_s_arr, z_q_R_s_arr, z_q_n_s_arr, z_q_aI_s_arr, z_q_aJ_s_arr, z_q_aR_s_arr]
  · simp [z_q_L_s_I, z_q_K_s_I, z_q_I_s_I, z_q_J_s_I, z_q_R_s_I, z_q_n_s_I, z_q_aI_s_I, z_q_aJ_s_I, z_q_aR_s_I, z_q_L_s_J, z_q_K_s_J, z_q_I_s_J, z_q_J_s_J, z_q_R_s_J, z_q_n_s_J, z_q_aI_s_J, z_q_aJ_s_J, z_q_aR_s_J, z_q_L_s_R, z_q_K_s_R, z_q_I_s_R, z_q_J_s_R, z_q_R_s_R, z_q_n_s_R, z_q_aI_s_R, z_q_aJ_s_R, z_q_aR_s_R, z_q_L_s_aI, z_q_K_s_aI, z_q_I_s_aI, z_q_J_s_aI, z_q_R_s_aI, z_q_n_s_aI, z_q_aI_s_aI, z_q_aJ_s_aI, z_q_aR_s_aI, z_q_L_s_aJ, z_q_K_s_aJ, z_q_I_s_aJ, z_q_J_s_aJ, z_q_R_s_aJ, z_q_n_s_aJ, z_q_aI_s_aJ, z_q_aJ_s_aJ, z_q_aR_s_aJ, z_q_L_s_aR, z_q_K_s_aR, z_q_I_s_aR, z_q_J_s_aR, z_q_R_s_aR, z_q_n_s_aR, z_q_aI_s_aR, z_q_aJ_s_aR, z_q_aR_s_aR, z_q_L_s_new, z_q_K_s_new, z_q_I_s_new, z_q_J_s_new, z_q_R_s_new, z_q_n_s_new, z_q_aI_s_new, z_q_aJ_s_new, z_q_aR_s_new, z_q_L_s_arr, z_q_K_s_arr, z_q_I_s_arr, z_q_J_s_arr, z_q_R_s_arr, z_q_n_s_arr, z_q_aI_s_arr, z_q_aJ_s_arr, z_q_aR_s_arr]
set_option maxHeartbeats 4000000 in
theorem m_BoxI {a : Nat} (hd : 1 ≤ d) (ha : a ∈ q_L S) (hk : q_K S a = 3) (hmc : 5 ≤ mc) (hms : 320 ≤ ms)
    (h : ∀ S2 p2 p3 p4 p5 p6, (∀ v2 v3 v4 v5 v6, isBox S2 a 0 0 v2 v3 v4 v5 v6 64 p2 p3 p4 p5 p6) → (∀ b, b ∈ q_L S → b ≠ a → sameAt S S2 b) → (∀ b, b ∈ q_L S → b ∈ q_L S2) → (∀ b, b ∈ q_L S2 → b ∈ q_L S ∨ b = p2 ∨ b = p3 ∨ b = p4 ∨ b = p5 ∨ b = p6) → (p2 ∉ q_L S ∧ p3 ∉ q_L S ∧ p4 ∉ q_L S ∧ p5 ∉ q_L S ∧ p6 ∉ q_L S) → QR none S2) : tk_M Z mX2_init d mc ms [.ref a] S QR tk_noX := by
  refine M_X2_init (Nat.le_of_ble_eq_true rfl) (fun E hE => hE _ _ _ _ _ ?_)
  show t_X2_init_0 Z d mc ms QR E [some (.ref a)] [] S 0 0
  simp [t_X2_init_0, i_aload, i_iload, i_lload, i_istore, i_lstore, i_astore, i_iinc, i_push, i_getI, i_getJ, i_getR, i_putI, i_putJ, i_putR, i_iadd, i_isub, i_imul, i_iand, i_ior, i_ixor, i_ishl, i_ishr, i_iushr, i_idiv, i_irem, i_ladd, i_lsub, i_lmul, i_land, i_lor, i_lxor, i_ldiv, i_lrem, i_lshl, i_lshr, i_lcmp, i_ineg, i_lneg, i_i2l, i_l2i, i_i2b, i_i2c, i_dup, i_pop, i_dup_x1, i_dup2, i_icmp_eq, i_icmp_lt, i_icmp_ge, i_icmp_gt, i_icmp_le, i_if_eq, i_if_lt, i_if_ge, i_if_gt, i_if_le, i_goto, i_ifnull, i_iald, i_bald, i_zald, i_lald, i_aald, i_iast, i_bast, i_zast, i_last, i_alen, i_iret, i_lret, i_aret, i_vret, i_oinit, i_cast, i_tsw, i_cases, i_mmin, i_mmax, i_lmin, i_throw, nb0, nb1, nint, nby0, rf_s, rf_n, of_r, of_n, tk_orf_rf, tk_c2, tk_ls, Value.category, tk_isR_ref, tk_isR_rf, tk_isR_null, z_q_L_s_I, z_q_K_s_I, z_q_I_s_I, z_q_J_s_I, z_q_R_s_I, z_q_n_s_I, z_q_aI_s_I, z_q_aJ_s_I, z_q_aR_s_I, z_q_L_s_J, z_q_K_s_J, z_q_I_s_J, z_q_J_s_J, z_q_R_s_J, z_q_n_s_J, z_q_aI_s_J, z_q_aJ_s_J, z_q_aR_s_J, z_q_L_s_R, z_q_K_s_R, z_q_I_s_R, z_q_J_s_R, z_q_R_s_R, z_q_n_s_R, z_q_aI_s_R, z_q_aJ_s_R, z_q_aR_s_R, z_q_L_s_aI, z_q_K_s_aI, z_q_I_s_aI, z_q_J_s_aI, z_q_R_s_aI, z_q_n_s_aI, z_q_aI_s_aI, z_q_aJ_s_aI, z_q_aR_s_aI, z_q_L_s_aJ, z_q_K_s_aJ, z_q_I_s_aJ, z_q_J_s_aJ, z_q_R_s_aJ, z_q_n_s_aJ, z_q_aI_s_aJ, z_q_aJ_s_aJ, z_q_aR_s_aJ, z_q_L_s_aR, z_q_K_s_aR, z_q_I_s_aR, z_q_J_s_aR, z_q_R_s_aR, z_q_n_s_aR, z_q_aI_s_aR, z_q_aJ_s_aR, z_q_aR_s_aR, z_q_L_s_new, z_q_K_s_new, z_q_I_s_new, z_q_J_s_new, z_q_R_s_new, z_q_n_s_new, z_q_aI_s_new, z_q_aJ_s_new, z_q_aR_s_new, z_q_L_s_arr, z_q_K_s_arr, z_q_I_s_arr, z_q_J_s_arr, z_q_R_s_arr, z_q_n_s_arr, z_q_aI_s_arr, z_q_aJ_s_arr, z_q_aR_s_arr, ha, hk]
  refine ⟨hd, ?_⟩
  have b1 : a ∈ q_L (s_I (s_J S 3 0 a 0) 3 1 a 0) := ha
  have b2 : q_K (s_I (s_J S 3 0 a 0) 3 1 a 0) a = 3 := hk
  refine new1 b1 b2 (Or.inl rfl) (show 0 + 1 ≤ mc by omega) (show 0 + 64 ≤ ms by omega) (fun a2 S1 s1 => ?_)
  have B1 := s1.box b1 b2
  simp only [i_aload, i_push, List.getD_cons_zero, tk_isR_ref, true_and]
  refine new1 B1.1 B1.2 (Or.inl rfl) (show 0 + 1 + 1 ≤ mc by omega) (show 0 + 64 + 64 ≤ ms by omega) (fun a3 S2 s2 => ?_)
  have B2 := s2.box B1.1 B1.2
  simp only [i_aload, i_push, List.getD_cons_zero, tk_isR_ref, true_and]
  refine new1 B2.1 B2.2 (Or.inl rfl) (show 0 + 1 + 1 + 1 ≤ mc by omega) (show 0 + 64 + 64 + 64 ≤ ms by omega) (fun a4 S3 s3 => ?_)
  have B3 := s3.box B2.1 B2.2
  simp only [i_aload, i_push, List.getD_cons_zero, tk_isR_ref, true_and]
  refine new1 B3.1 B3.2 (Or.inr rfl) (show 0 + 1 + 1 + 1 + 1 ≤ mc by omega) (show 0 + 64 + 64 + 64 + 64 ≤ ms by omega) (fun a5 S4 s4 => ?_)
  have B4 := s4.box B3.1 B3.2
  simp only [i_aload, i_push, List.getD_cons_zero, tk_isR_ref, true_and]
  refine new1 B4.1 B4.2 (Or.inr rfl) (show 0 + 1 + 1 + 1 + 1 + 1 ≤ mc by omega) (show 0 + 64 + 64 + 64 + 64 + 64 ≤ ms by omega) (fun a6 S5 s5 => ?_)
  obtain ⟨x1, x2, x3, x4, x5, x6, x7⟩ := made5 b1 b2 (Nat.le_refl 64) (by decide) s1 s2 s3 s4 s5
  have y2 : q_I S5 3 1 a = nI 0 := x2.trans (by simp [z_q_L_s_I, z_q_K_s_I, z_q_I_s_I, z_q_J_s_I, z_q_R_s_I, z_q_n_s_I, z_q_aI_s_I, z_q_aJ_s_I, z_q_aR_s_I, z_q_L_s_J, z_q_K_s_J, z_q_I_s_J, z_q_J_s_J, z_q_R_s_J, z_q_n_s_J, z_q_aI_s_J, z_q_aJ_s_J, z_q_aR_s_J, z_q_L_s_R, z_q_K_s_R, z_q_I_s_R, z_q_J_s_R, z_q_R_s_R, z_q_n_s_R, z_q_aI_s_R, z_q_aJ_s_R, z_q_aR_s_R, z_q_L_s_aI, z_q_K_s_aI, z_q_I_s_aI, z_q_J_s_aI, z_q_R_s_aI, z_q_n_s_aI, z_q_aI_s_aI, z_q_aJ_s_aI, z_q_aR_s_aI, z_q_L_s_aJ, z_q_K_s_aJ, z_q_I_s_aJ, z_q_J_s_aJ, z_q_R_s_aJ, z_q_n_s_aJ, z_q_aI_s_aJ, z_q_aJ_s_aJ, z_q_aR_s_aJ, z_q_L_s_aR, z_q_K_s_aR, z_q_I_s_aR, z_q_J_s_aR, z_q_R_s_aR, z_q_n_s_aR, z_q_aI_s_aR, z_q_aJ_s_aR, z_q_aR_s_aR, z_q_L_s_new, z_q_K_s_new, z_q_I_s_new, z_q_J_s_new, z_q_R_s_new, z_q_n_s_new, z_q_aI_s_new, z_q_aJ_s_new, z_q_aR_s_new, z_q_L_s_arr, z_q_K_s_arr, z_q_I_s_arr, z_q_J_s_arr, z_q_R_s_arr, z_q_n_s_arr, z_q_aI_s_arr, z_q_aJ_s_arr, z_q_aR_s_arr]; rfl)
  have y3 : q_J S5 3 0 a = 0 := x3.trans (by simp [z_q_L_s_I, z_q_K_s_I, z_q_I_s_I, z_q_J_s_I, z_q_R_s_I, z_q_n_s_I, z_q_aI_s_I, z_q_aJ_s_I, z_q_aR_s_I, z_q_L_s_J, z_q_K_s_J, z_q_I_s_J, z_q_J_s_J, z_q_R_s_J, z_q_n_s_J, z_q_aI_s_J, z_q_aJ_s_J, z_q_aR_s_J, z_q_L_s_R, z_q_K_s_R, z_q_I_s_R, z_q_J_s_R, z_q_R_s_R, z_q_n_s_R, z_q_aI_s_R, z_q_aJ_s_R, z_q_aR_s_R, z_q_L_s_aI, z_q_K_s_aI, z_q_I_s_aI, z_q_J_s_aI, z_q_R_s_aI, z_q_n_s_aI, z_q_aI_s_aI, z_q_aJ_s_aI, z_q_aR_s_aI, z_q_L_s_aJ, z_q_K_s_aJ, z_q_I_s_aJ, z_q_J_s_aJ, z_q_R_s_aJ, z_q_n_s_aJ, z_q_aI_s_aJ, z_q_aJ_s_aJ, z_q_aR_s_aJ, z_q_L_s_aR, z_q_K_s_aR, z_q_I_s_aR, z_q_J_s_aR, z_q_R_s_aR, z_q_n_s_aR, z_q_aI_s_aR, z_q_aJ_s_aR, z_q_aR_s_aR, z_q_L_s_new, z_q_K_s_new, z_q_I_s_new, z_q_J_s_new, z_q_R_s_new, z_q_n_s_new, z_q_aI_s_new, z_q_aJ_s_new, z_q_aR_s_new, z_q_L_s_arr, z_q_K_s_arr, z_q_I_s_arr, z_q_J_s_arr, z_q_R_s_arr, z_q_n_s_arr, z_q_aI_s_arr, z_q_aJ_s_arr, z_q_aR_s_arr])
  exact ⟨by omega, by omega, h S5 a2 a3 a4 a5 a6 (fun v2 v3 v4 v5 v6 => ⟨x1, y2, y3, by omega, fun i hi => absurd hi (Nat.not_lt_zero i)⟩) (fun b hb hba => (show sameAt S (s_I (s_J S 3 0 a 0) 3 1 a 0) b by simp [sameAt, z_q_L_s_I, z_q_K_s_I, z_q_I_s_I, z_q_J_s_I, z_q_R_s_I, z_q_n_s_I, z_q_aI_s_I, z_q_aJ_s_I, z_q_aR_s_I, z_q_L_s_J, z_q_K_s_J, z_q_I_s_J, z_q_J_s_J, z_q_R_s_J, z_q_n_s_J, z_q_aI_s_J, z_q_aJ_s_J, z_q_aR_s_J, z_q_L_s_R, z_q_K_s_R, z_q_I_s_R, z_q_J_s_R, z_q_R_s_R, z_q_n_s_R, z_q_aI_s_R, z_q_aJ_s_R, z_q_aR_s_R, z_q_L_s_aI, z_q_K_s_aI, z_q_I_s_aI, z_q_J_s_aI, z_q_R_s_aI, z_q_n_s_aI, z_q_aI_s_aI, z_q_aJ_s_aI, z_q_aR_s_aI, z_q_L_s_aJ, z_q_K_s_aJ, z_q_I_s_aJ, z_q_J_s_aJ, z_q_R_s_aJ, z_q_n_s_aJ, z_q_aI_s_aJ, z_q_aJ_s_aJ, z_q_aR_s_aJ, z_q_L_s_aR, z_q_K_s_aR, z_q_I_s_aR, z_q_J_s_aR, z_q_R_s_aR, z_q_n_s_aR, z_q_aI_s_aR, z_q_aJ_s_aR, z_q_aR_s_aR, z_q_L_s_new, z_q_K_s_new, z_q_I_s_new, z_q_J_s_new, z_q_R_s_new, z_q_n_s_new, z_q_aI_s_new, z_q_aJ_s_new, z_q_aR_s_new, z_q_L_s_arr, z_q_K_s_arr, z_q_I_s_arr, z_q_J_s_arr, z_q_R_s_arr, z_q_n_s_arr, z_q_aI_s_arr, z_q_aJ_s_arr, z_q_aR_s_arr, hba, hb]).trans (x4 b hb hba)) x5 x6 x7⟩
end BOX3

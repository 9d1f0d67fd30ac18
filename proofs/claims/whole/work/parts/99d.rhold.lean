/-! THE REFERENCE: does a clause hold -/
section RHOLD
variable {Z : tk_Z} {d mc ms : Nat} {QR : tk_R} {m : Nat} {B : bS} {V V1 V2 : vR} {ρ : Nat → Nat} {S : tk_S} {R : Nat → Nat} {T : nT}
def bI (b : Bool) : Int32 := if b = true then 1 else 0
def pileR (f : Nat → Int32) : List Bool → Prop
  | [] => True
  | b :: r => f r.length = bI b ∧ pileR f r
theorem pileR.upd {f : Nat → Int32} {n : Nat} {v : Int32} : ∀ r, pileR f r → r.length ≤ n → pileR (upd f n v) r := by
  intro r
  induction r with
  | nil => intro _ _; trivial
  | cons b r ih =>
    intro h hn
    simp only [List.length_cons] at hn
    exact ⟨by have : r.length ≠ n := by omega
              simp [_root_.Jvm.Pilot.CTurnpikeTrustLaw_law_r5712_e33f3e.upd, this]; exact h.1, ih h.2 (by omega)⟩
theorem cd_fact {x : pS} (hx : sOK x) (hw : isFw x.1) : (cdS x).1 ≠ 0 ∧ (cdS x).1 ≠ 1 ∧ (cdS x).1 ≠ 2 := by
  rcases hx with rfl | rfl | rfl | ⟨k, hk, rfl⟩ | ⟨k, r, v, hk, hr, rfl⟩ | ⟨v, rfl⟩
  · exact absurd rfl hw.2.1
  · exact absurd rfl hw.1
  · exact absurd rfl hw.2.2
  · have : k = 0 ∨ k = 1 ∨ k = 2 ∨ k = 3 ∨ k = 4 := by omega
    rcases this with rfl | rfl | rfl | rfl | rfl <;> decide +kernel
  · have : k = 0 ∨ k = 1 ∨ k = 2 ∨ k = 3 := by omega
    rcases this with rfl | rfl | rfl | rfl <;> rcases hr with rfl | rfl | rfl
    · exact ⟨by show (10 : Int32) ≠ 0; decide, by show (10 : Int32) ≠ 1; decide, by show (10 : Int32) ≠ 2; decide⟩
    · exact ⟨by show (11 : Int32) ≠ 0; decide, by show (11 : Int32) ≠ 1; decide, by show (11 : Int32) ≠ 2; decide⟩
    · exact ⟨by show (12 : Int32) ≠ 0; decide, by show (12 : Int32) ≠ 1; decide, by show (12 : Int32) ≠ 2; decide⟩
    · exact ⟨by show (13 : Int32) ≠ 0; decide, by show (13 : Int32) ≠ 1; decide, by show (13 : Int32) ≠ 2; decide⟩
    · exact ⟨by show (14 : Int32) ≠ 0; decide, by show (14 : Int32) ≠ 1; decide, by show (14 : Int32) ≠ 2; decide⟩
    · exact ⟨by show (15 : Int32) ≠ 0; decide, by show (15 : Int32) ≠ 1; decide, by show (15 : Int32) ≠ 2; decide⟩
    · exact ⟨by show (16 : Int32) ≠ 0; decide, by show (16 : Int32) ≠ 1; decide, by show (16 : Int32) ≠ 2; decide⟩
    · exact ⟨by show (17 : Int32) ≠ 0; decide, by show (17 : Int32) ≠ 1; decide, by show (17 : Int32) ≠ 2; decide⟩
    · exact ⟨by show (18 : Int32) ≠ 0; decide, by show (18 : Int32) ≠ 1; decide, by show (18 : Int32) ≠ 2; decide⟩
    · exact ⟨by show (19 : Int32) ≠ 0; decide, by show (19 : Int32) ≠ 1; decide, by show (19 : Int32) ≠ 2; decide⟩
    · exact ⟨by show (20 : Int32) ≠ 0; decide, by show (20 : Int32) ≠ 1; decide, by show (20 : Int32) ≠ 2; decide⟩
    · exact ⟨by show (21 : Int32) ≠ 0; decide, by show (21 : Int32) ≠ 1; decide, by show (21 : Int32) ≠ 2; decide⟩
  · exact ⟨by show (22 : Int32) ≠ 0; decide, by show (22 : Int32) ≠ 1; decide, by show (22 : Int32) ≠ 2; decide⟩
theorem isFw_k {k : Nat} (h : k < 5) : isFw (nI (267 + k)) := by
  have : k = 0 ∨ k = 1 ∨ k = 2 ∨ k = 3 ∨ k = 4 := by omega
  unfold isFw
  rcases this with rfl | rfl | rfl | rfl | rfl <;> decide +kernel
theorem isFw_k2 {k : Nat} (h : k < 4) : isFw (nI (272 + k)) := by
  have : k = 0 ∨ k = 1 ∨ k = 2 ∨ k = 3 := by omega
  unfold isFw
  rcases this with rfl | rfl | rfl | rfl <;> decide +kernel
theorem isFw_276 {r v : Int32} : isFw ((276 : Int32), r, v).1 := ⟨by show (276 : Int32) ≠ 264; decide, by show (276 : Int32) ≠ 265; decide, by show (276 : Int32) ≠ 266; decide⟩
theorem ge_T {Kt Kf : tk_K} {ls : List (Option Value)} {x y : Int32} {r : List Value} {cs ss : Nat} (h : y ≤ x) (k : Kt ls r S cs ss) : i_icmp_ge Kt Kf ls (.int y :: .int x :: r) S cs ss := ⟨fun _ => k, fun q => absurd h q⟩
set_option maxHeartbeats 8000000 in
theorem r_holds {p : pC} {k cc cl off w n t gt : Nat} {kd wh be bi pa pd : Nat → Int32} (hd : 2 ≤ d) (hR : RS B m ρ S (rLk cc cl) R V) (hv : tvV V n kd wh be bi pa pd) (ht : t < n) (hg : gt < 8) (hw : w < 480) (hc : clIn V off w p) (hoff : off + p.2.2.2.2.length ≤ k) (hk : k ≤ cc) (hcc : cc ≤ 12800) (hs : ∀ x ∈ p.2.2.2.2, sOK x) (hwk : p.2.2.2.2 = [] ∨ wk 64 p.2.2.2.2 0 = some 1)
    (H : ∀ f, okV B m (rLk cc cl) QR (some (.int (if holdsM (factM (bi t) (wh t) (be t) (kd t) (nI gt) (vI V 32) (pa (8 * t + gt))) p.2.2.2.2 = true then 1 else 0))) (wA V 34 f)) : tk_M Z mX12_holds d mc ms [.ref m, .int (nI w), .int (nI t), .int (nI gt)] S QR tk_noX := by
  refine M_X12_holds (Nat.le_of_ble_eq_true rfl) (fun E hE => hE.1 _ _ _ _ _ ?_)
  show t_X12_holds_0 Z d mc ms QR E [some (.ref m), some (.int (nI w)), some (.int (nI t)), some (.int (nI gt)), none, none, none, none] [] S 0 0
  obtain ⟨h1, h2, h3⟩ := hR.1.1
  obtain ⟨a13, b13, c13, d13, -⟩ := hR.1.2 13 _ _ rfl
  obtain ⟨a14, b14, c14, d14, -⟩ := hR.1.2 14 _ _ rfl
  obtain ⟨a15, b15, c15, d15, -⟩ := hR.1.2 15 _ _ rfl
  obtain ⟨a16, b16, c16, d16, -⟩ := hR.1.2 16 _ _ rfl
  obtain ⟨a34, b34, c34, d34, -⟩ := hR.1.2 34 _ _ rfl
  have x13 := hR.2.1.2.2.1 13 _ _ rfl (by decide)
  have x14 := hR.2.1.2.2.1 14 _ _ rfl (by decide)
  have x15 := hR.2.1.2.2.1 15 _ _ rfl (by decide)
  have x16 := hR.2.1.2.2.1 16 _ _ rfl (by decide)
  have x34 := hR.2.1.2.2.1 34 _ _ rfl (by decide)
  have n13 := hR.1.ne (i := 13) (j := 34) rfl rfl (by decide)
  have n14 := hR.1.ne (i := 14) (j := 34) rfl rfl (by decide)
  have n15 := hR.1.ne (i := 15) (j := 34) rfl rfl (by decide)
  have n16 := hR.1.ne (i := 16) (j := 34) rfl rfl (by decide)
  obtain ⟨l1, l2, l3, l4, l5, l6⟩ := hc
  have hin1 : vp_in (nI w) 481 := vp_in_nI (by omega) (by omega)
  have hin0 : vp_in (nI w) 480 := vp_in_nI (by omega) (by omega)
  have cw : (nI w).toNatClampNeg = w := nI_clamp (by omega)
  generalize hc0 : p.2.2.2.2 = c at *
  have hF : factM (bi t) (wh t) (be t) (kd t) (nI gt) (vI V 32) (pa (8 * t + gt)) = factM (bi t) (wh t) (be t) (kd t) (nI gt) (vI V 32) (pa (8 * t + gt)) := rfl
  generalize hFg : factM (bi t) (wh t) (be t) (kd t) (nI gt) (vI V 32) (pa (8 * t + gt)) = F at H
  have vb0 : vp_nar .boolean 0 = 0 := rfl
  have vb1 : vp_nar .boolean 1 = 1 := rfl
  have loop : ∀ xs j st f y6 y7, j + xs.length = c.length → c.drop j = xs → pileR f st → (c = [] ∧ st = [] ∨ wk 64 xs st.length = some 1) → st.length ≤ 64 → c.foldl (estep F) [] = xs.foldl (estep F) st → E 11 [some (.ref m), some (.int (nI w)), some (.int (nI t)), some (.int (nI gt)), some (.int (nI st.length)), some (.int (nI (off + j))), y6, y7] [] (s_aI S (R 34) f) 0 0 := by
    intro xs
    induction xs with
    | nil =>
      intro j st f y6 y7 hj hdr hf hwk hst hfold
      refine hE.2.1 _ _ _ _ _ ?_
      have hjc : j = c.length := by simpa using hj
      have z : nI (off + c.length) ≤ nI (off + j) := nI_le (by omega) (by omega)
      rcases hwk with ⟨hce, hst0⟩ | hwk
      · subst hst0
        have hh : holdsM F c = true := by rw [hce]; rfl
        rw [hh, if_pos rfl] at H
        have hs0 : nI (([] : List Bool).length) = 0 := nI_0
        generalize nI (([] : List Bool).length) = sl at hs0 ⊢
        simp -implicitDefEqProofs [t_X12_holds_11, i_aload, i_iload, i_getR, i_iald, nb0, nb1, nint, nby0, rf_s, rf_n, of_r, of_n, tk_orf_rf, tk_c2, tk_ls, Value.category, tk_isR_ref, tk_isR_rf, tk_isR_null, z_q_L_s_I, z_q_K_s_I, z_q_I_s_I, z_q_J_s_I, z_q_R_s_I, z_q_n_s_I, z_q_aI_s_I, z_q_aJ_s_I, z_q_aR_s_I, z_q_L_s_J, z_q_K_s_J, z_q_I_s_J, z_q_J_s_J, z_q_R_s_J, z_q_n_s_J, z_q_aI_s_J, z_q_aJ_s_J, z_q_aR_s_J, z_q_L_s_R, z_q_K_s_R, z_q_I_s_R, z_q_J_s_R, z_q_R_s_R, z_q_n_s_R, z_q_aI_s_R, z_q_aJ_s_R, z_q_aR_s_R, z_q_L_s_aI, z_q_K_s_aI, z_q_I_s_aI, z_q_J_s_aI, z_q_R_s_aI, z_q_n_s_aI, z_q_aI_s_aI, z_q_aJ_s_aI, z_q_aR_s_aI, z_q_L_s_aJ, z_q_K_s_aJ, z_q_I_s_aJ, z_q_J_s_aJ, z_q_R_s_aJ, z_q_n_s_aJ, z_q_aI_s_aJ, z_q_aJ_s_aJ, z_q_aR_s_aJ, z_q_L_s_aR, z_q_K_s_aR, z_q_I_s_aR, z_q_J_s_aR, z_q_R_s_aR, z_q_n_s_aR, z_q_aI_s_aR, z_q_aJ_s_aR, z_q_aR_s_aR, z_q_L_s_new, z_q_K_s_new, z_q_I_s_new, z_q_J_s_new, z_q_R_s_new, z_q_n_s_new, z_q_aI_s_new, z_q_aJ_s_new, z_q_aR_s_new, z_q_L_s_arr, z_q_K_s_arr, z_q_I_s_arr, z_q_J_s_arr, z_q_R_s_arr, z_q_n_s_arr, z_q_aI_s_arr, z_q_aJ_s_arr, z_q_aR_s_arr, h1, h2, a14, b14, c14, d14, x14, n14, hin0, cw, l5]
        refine ge_T z ?_
        simp -implicitDefEqProofs [i_aload, i_iload, i_lload, i_istore, i_lstore, i_astore, i_iinc, i_push, i_getI, i_getJ, i_getR, i_putI, i_putJ, i_putR, i_iadd, i_isub, i_imul, i_iand, i_ior, i_ixor, i_ishl, i_ishr, i_iushr, i_idiv, i_irem, i_ladd, i_lsub, i_lmul, i_land, i_lor, i_lxor, i_ldiv, i_lrem, i_lshl, i_lshr, i_lcmp, i_ineg, i_lneg, i_i2l, i_l2i, i_i2b, i_i2c, i_dup, i_pop, i_dup_x1, i_dup2, i_icmp_eq, i_icmp_lt, i_icmp_ge, i_icmp_gt, i_icmp_le, i_if_eq, i_if_lt, i_if_ge, i_if_gt, i_if_le, i_goto, i_ifnull, i_iald, i_bald, i_zald, i_lald, i_aald, i_iast, i_bast, i_zast, i_last, i_alen, i_iret, i_lret, i_aret, i_vret, i_oinit, i_cast, i_tsw, i_cases, i_mmin, i_mmax, i_lmin, i_throw, nb0, nb1, nint, nby0, rf_s, rf_n, of_r, of_n, tk_orf_rf, tk_c2, tk_ls, Value.category, tk_isR_ref, tk_isR_rf, tk_isR_null, z_q_L_s_I, z_q_K_s_I, z_q_I_s_I, z_q_J_s_I, z_q_R_s_I, z_q_n_s_I, z_q_aI_s_I, z_q_aJ_s_I, z_q_aR_s_I, z_q_L_s_J, z_q_K_s_J, z_q_I_s_J, z_q_J_s_J, z_q_R_s_J, z_q_n_s_J, z_q_aI_s_J, z_q_aJ_s_J, z_q_aR_s_J, z_q_L_s_R, z_q_K_s_R, z_q_I_s_R, z_q_J_s_R, z_q_R_s_R, z_q_n_s_R, z_q_aI_s_R, z_q_aJ_s_R, z_q_aR_s_R, z_q_L_s_aI, z_q_K_s_aI, z_q_I_s_aI, z_q_J_s_aI, z_q_R_s_aI, z_q_n_s_aI, z_q_aI_s_aI, z_q_aJ_s_aI, z_q_aR_s_aI, z_q_L_s_aJ, z_q_K_s_aJ, z_q_I_s_aJ, z_q_J_s_aJ, z_q_R_s_aJ, z_q_n_s_aJ, z_q_aI_s_aJ, z_q_aJ_s_aJ, z_q_aR_s_aJ, z_q_L_s_aR, z_q_K_s_aR, z_q_I_s_aR, z_q_J_s_aR, z_q_R_s_aR, z_q_n_s_aR, z_q_aI_s_aR, z_q_aJ_s_aR, z_q_aR_s_aR, z_q_L_s_new, z_q_K_s_new, z_q_I_s_new, z_q_J_s_new, z_q_R_s_new, z_q_n_s_new, z_q_aI_s_new, z_q_aJ_s_new, z_q_aR_s_new, z_q_L_s_arr, z_q_K_s_arr, z_q_I_s_arr, z_q_J_s_arr, z_q_R_s_arr, z_q_n_s_arr, z_q_aI_s_arr, z_q_aJ_s_arr, z_q_aR_s_arr, h1, h2, a14, b14, c14, d14, x14, n14, hin0, cw, l5, hs0]
        exact H f _ _ _ (hR.iA (k := 34) rfl f)
      · simp only [wk, Option.some.injEq] at hwk
        obtain ⟨b, rfl⟩ : ∃ b, st = [b] := by
          rcases st with _ | ⟨b, _ | ⟨b2, r⟩⟩
          · simp at hwk
          · exact ⟨b, rfl⟩
          · simp at hwk
        have hf0 : f 0 = bI b := hf.1
        have hin64 : vp_in (0 : Int32) 64 := show vp_in (nI 0) 64 from vp_in_nI (by omega) (by omega)
        have hz : (0 : Int32).toNatClampNeg = 0 := show (nI 0).toNatClampNeg = 0 from nI_clamp (by omega)
        have hne : ¬ nI ([b].length) = 0 := nI_ne0 (n := 1) (by omega) (by omega)
        generalize nI ([b].length) = sl at hne ⊢
        have hcne : c.isEmpty = false := by
          rcases c with _ | ⟨x, r⟩
          · simp at hfold
          · rfl
        have hh : holdsM F c = b := by
          unfold holdsM
          rw [hcne, hfold, List.foldl_nil, Bool.false_or, List.headD_cons]
        rw [hh] at H
        rcases b with _ | _
        · rw [if_neg (by decide)] at H
          simp -implicitDefEqProofs [t_X12_holds_11, i_aload, i_iload, i_getR, i_iald, nb0, nb1, nint, nby0, rf_s, rf_n, of_r, of_n, tk_orf_rf, tk_c2, tk_ls, Value.category, tk_isR_ref, tk_isR_rf, tk_isR_null, z_q_L_s_I, z_q_K_s_I, z_q_I_s_I, z_q_J_s_I, z_q_R_s_I, z_q_n_s_I, z_q_aI_s_I, z_q_aJ_s_I, z_q_aR_s_I, z_q_L_s_J, z_q_K_s_J, z_q_I_s_J, z_q_J_s_J, z_q_R_s_J, z_q_n_s_J, z_q_aI_s_J, z_q_aJ_s_J, z_q_aR_s_J, z_q_L_s_R, z_q_K_s_R, z_q_I_s_R, z_q_J_s_R, z_q_R_s_R, z_q_n_s_R, z_q_aI_s_R, z_q_aJ_s_R, z_q_aR_s_R, z_q_L_s_aI, z_q_K_s_aI, z_q_I_s_aI, z_q_J_s_aI, z_q_R_s_aI, z_q_n_s_aI, z_q_aI_s_aI, z_q_aJ_s_aI, z_q_aR_s_aI, z_q_L_s_aJ, z_q_K_s_aJ, z_q_I_s_aJ, z_q_J_s_aJ, z_q_R_s_aJ, z_q_n_s_aJ, z_q_aI_s_aJ, z_q_aJ_s_aJ, z_q_aR_s_aJ, z_q_L_s_aR, z_q_K_s_aR, z_q_I_s_aR, z_q_J_s_aR, z_q_R_s_aR, z_q_n_s_aR, z_q_aI_s_aR, z_q_aJ_s_aR, z_q_aR_s_aR, z_q_L_s_new, z_q_K_s_new, z_q_I_s_new, z_q_J_s_new, z_q_R_s_new, z_q_n_s_new, z_q_aI_s_new, z_q_aJ_s_new, z_q_aR_s_new, z_q_L_s_arr, z_q_K_s_arr, z_q_I_s_arr, z_q_J_s_arr, z_q_R_s_arr, z_q_n_s_arr, z_q_aI_s_arr, z_q_aJ_s_arr, z_q_aR_s_arr, h1, h2, a14, b14, c14, d14, x14, n14, hin0, cw, l5]
          refine ge_T z ?_
          simp -implicitDefEqProofs [i_aload, i_iload, i_lload, i_istore, i_lstore, i_astore, i_iinc, i_push, i_getI, i_getJ, i_getR, i_putI, i_putJ, i_putR, i_iadd, i_isub, i_imul, i_iand, i_ior, i_ixor, i_ishl, i_ishr, i_iushr, i_idiv, i_irem, i_ladd, i_lsub, i_lmul, i_land, i_lor, i_lxor, i_ldiv, i_lrem, i_lshl, i_lshr, i_lcmp, i_ineg, i_lneg, i_i2l, i_l2i, i_i2b, i_i2c, i_dup, i_pop, i_dup_x1, i_dup2, i_icmp_eq, i_icmp_lt, i_icmp_ge, i_icmp_gt, i_icmp_le, i_if_eq, i_if_lt, i_if_ge, i_if_gt, i_if_le, i_goto, i_ifnull, i_iald, i_bald, i_zald, i_lald, i_aald, i_iast, i_bast, i_zast, i_last, i_alen, i_iret, i_lret, i_aret, i_vret, i_oinit, i_cast, i_tsw, i_cases, i_mmin, i_mmax, i_lmin, i_throw, nb0, nb1, nint, nby0, rf_s, rf_n, of_r, of_n, tk_orf_rf, tk_c2, tk_ls, Value.category, tk_isR_ref, tk_isR_rf, tk_isR_null, z_q_L_s_I, z_q_K_s_I, z_q_I_s_I, z_q_J_s_I, z_q_R_s_I, z_q_n_s_I, z_q_aI_s_I, z_q_aJ_s_I, z_q_aR_s_I, z_q_L_s_J, z_q_K_s_J, z_q_I_s_J, z_q_J_s_J, z_q_R_s_J, z_q_n_s_J, z_q_aI_s_J, z_q_aJ_s_J, z_q_aR_s_J, z_q_L_s_R, z_q_K_s_R, z_q_I_s_R, z_q_J_s_R, z_q_R_s_R, z_q_n_s_R, z_q_aI_s_R, z_q_aJ_s_R, z_q_aR_s_R, z_q_L_s_aI, z_q_K_s_aI, z_q_I_s_aI, z_q_J_s_aI, z_q_R_s_aI, z_q_n_s_aI, z_q_aI_s_aI, z_q_aJ_s_aI, z_q_aR_s_aI, z_q_L_s_aJ, z_q_K_s_aJ, z_q_I_s_aJ, z_q_J_s_aJ, z_q_R_s_aJ, z_q_n_s_aJ, z_q_aI_s_aJ, z_q_aJ_s_aJ, z_q_aR_s_aJ, z_q_L_s_aR, z_q_K_s_aR, z_q_I_s_aR, z_q_J_s_aR, z_q_R_s_aR, z_q_n_s_aR, z_q_aI_s_aR, z_q_aJ_s_aR, z_q_aR_s_aR, z_q_L_s_new, z_q_K_s_new, z_q_I_s_new, z_q_J_s_new, z_q_R_s_new, z_q_n_s_new, z_q_aI_s_new, z_q_aJ_s_new, z_q_aR_s_new, z_q_L_s_arr, z_q_K_s_arr, z_q_I_s_arr, z_q_J_s_arr, z_q_R_s_arr, z_q_n_s_arr, z_q_aI_s_arr, z_q_aJ_s_arr, z_q_aR_s_arr, h1, h2, a14, b14, c14, d14, x14, n14, a34, b34, c34, d34, hin0, cw, l5, hin64, hz, hf0, bI, hne]
          exact H f _ _ _ (hR.iA (k := 34) rfl f)
        · rw [if_pos rfl] at H
          simp -implicitDefEqProofs [t_X12_holds_11, i_aload, i_iload, i_getR, i_iald, nb0, nb1, nint, nby0, rf_s, rf_n, of_r, of_n, tk_orf_rf, tk_c2, tk_ls, Value.category, tk_isR_ref, tk_isR_rf, tk_isR_null, z_q_L_s_I, z_q_K_s_I, z_q_I_s_I, z_q_J_s_I, z_q_R_s_I, z_q_n_s_I, z_q_aI_s_I, z_q_aJ_s_I, z_q_aR_s_I, z_q_L_s_J, z_q_K_s_J, z_q_I_s_J, z_q_J_s_J, z_q_R_s_J, z_q_n_s_J, z_q_aI_s_J, z_q_aJ_s_J, z_q_aR_s_J, z_q_L_s_R, z_q_K_s_R, z_q_I_s_R, z_q_J_s_R, z_q_R_s_R, z_q_n_s_R, z_q_aI_s_R, z_q_aJ_s_R, z_q_aR_s_R, z_q_L_s_aI, z_q_K_s_aI, z_q_I_s_aI, z_q_J_s_aI, z_q_R_s_aI, z_q_n_s_aI, z_q_aI_s_aI, z_q_aJ_s_aI, z_q_aR_s_aI, z_q_L_s_aJ, z_q_K_s_aJ, z_q_I_s_aJ, z_q_J_s_aJ, z_q_R_s_aJ, z_q_n_s_aJ, z_q_aI_s_aJ, z_q_aJ_s_aJ, z_q_aR_s_aJ, z_q_L_s_aR, z_q_K_s_aR, z_q_I_s_aR, z_q_J_s_aR, z_q_R_s_aR, z_q_n_s_aR, z_q_aI_s_aR, z_q_aJ_s_aR, z_q_aR_s_aR, z_q_L_s_new, z_q_K_s_new, z_q_I_s_new, z_q_J_s_new, z_q_R_s_new, z_q_n_s_new, z_q_aI_s_new, z_q_aJ_s_new, z_q_aR_s_new, z_q_L_s_arr, z_q_K_s_arr, z_q_I_s_arr, z_q_J_s_arr, z_q_R_s_arr, z_q_n_s_arr, z_q_aI_s_arr, z_q_aJ_s_arr, z_q_aR_s_arr, h1, h2, a14, b14, c14, d14, x14, n14, hin0, cw, l5]
          refine ge_T z ?_
          simp -implicitDefEqProofs [i_aload, i_iload, i_lload, i_istore, i_lstore, i_astore, i_iinc, i_push, i_getI, i_getJ, i_getR, i_putI, i_putJ, i_putR, i_iadd, i_isub, i_imul, i_iand, i_ior, i_ixor, i_ishl, i_ishr, i_iushr, i_idiv, i_irem, i_ladd, i_lsub, i_lmul, i_land, i_lor, i_lxor, i_ldiv, i_lrem, i_lshl, i_lshr, i_lcmp, i_ineg, i_lneg, i_i2l, i_l2i, i_i2b, i_i2c, i_dup, i_pop, i_dup_x1, i_dup2, i_icmp_eq, i_icmp_lt, i_icmp_ge, i_icmp_gt, i_icmp_le, i_if_eq, i_if_lt, i_if_ge, i_if_gt, i_if_le, i_goto, i_ifnull, i_iald, i_bald, i_zald, i_lald, i_aald, i_iast, i_bast, i_zast, i_last, i_alen, i_iret, i_lret, i_aret, i_vret, i_oinit, i_cast, i_tsw, i_cases, i_mmin, i_mmax, i_lmin, i_throw, nb0, nb1, nint, nby0, rf_s, rf_n, of_r, of_n, tk_orf_rf, tk_c2, tk_ls, Value.category, tk_isR_ref, tk_isR_rf, tk_isR_null, z_q_L_s_I, z_q_K_s_I, z_q_I_s_I, z_q_J_s_I, z_q_R_s_I, z_q_n_s_I, z_q_aI_s_I, z_q_aJ_s_I, z_q_aR_s_I, z_q_L_s_J, z_q_K_s_J, z_q_I_s_J, z_q_J_s_J, z_q_R_s_J, z_q_n_s_J, z_q_aI_s_J, z_q_aJ_s_J, z_q_aR_s_J, z_q_L_s_R, z_q_K_s_R, z_q_I_s_R, z_q_J_s_R, z_q_R_s_R, z_q_n_s_R, z_q_aI_s_R, z_q_aJ_s_R, z_q_aR_s_R, z_q_L_s_aI, z_q_K_s_aI, z_q_I_s_aI, z_q_J_s_aI, z_q_R_s_aI, z_q_n_s_aI, z_q_aI_s_aI, z_q_aJ_s_aI, z_q_aR_s_aI, z_q_L_s_aJ, z_q_K_s_aJ, z_q_I_s_aJ, z_q_J_s_aJ, z_q_R_s_aJ, z_q_n_s_aJ, z_q_aI_s_aJ, z_q_aJ_s_aJ, z_q_aR_s_aJ, z_q_L_s_aR, z_q_K_s_aR, z_q_I_s_aR, z_q_J_s_aR, z_q_R_s_aR, z_q_n_s_aR, z_q_aI_s_aR, z_q_aJ_s_aR, z_q_aR_s_aR, z_q_L_s_new, z_q_K_s_new, z_q_I_s_new, z_q_J_s_new, z_q_R_s_new, z_q_n_s_new, z_q_aI_s_new, z_q_aJ_s_new, z_q_aR_s_new, z_q_L_s_arr, z_q_K_s_arr, z_q_I_s_arr, z_q_J_s_arr, z_q_R_s_arr, z_q_n_s_arr, z_q_aI_s_arr, z_q_aJ_s_arr, z_q_aR_s_arr, h1, h2, a14, b14, c14, d14, x14, n14, a34, b34, c34, d34, hin0, cw, l5, hin64, hz, hf0, bI, hne]
          exact H f _ _ _ (hR.iA (k := 34) rfl f)
    | cons x xs ih =>
      intro j st f y6 y7 hj hdr hf hwk hst hfold
      refine hE.2.1 _ _ _ _ _ ?_
      simp only [List.length_cons] at hj
      have z : ¬ nI (off + c.length) ≤ nI (off + j) := nI_ge (by omega) (by omega)
      have hcne : c ≠ [] := fun q => by rw [q] at hdr; simp at hdr
      replace hwk := hwk.resolve_left (fun q => hcne q.1)
      have hx : c[j]? = some x := by
        have := congrArg (fun l => l[0]?) hdr
        simpa using this
      have hxc : x ∈ c := List.mem_of_getElem? hx
      obtain ⟨g1, g2⟩ := l6 j x hx
      have hinc : vp_in (nI (off + j)) cc := vp_in_nI (by omega) (by omega)
      have co : (nI (off + j)).toNatClampNeg = off + j := nI_clamp (by omega)
      have ek : nI (off + j) + 1 = nI (off + (j + 1)) := nI_add _ 1
      have hdr2 : c.drop (j + 1) = xs := by
        rw [← List.drop_drop, hdr]
        rfl
      simp -implicitDefEqProofs [t_X12_holds_11, i_aload, i_iload, i_lload, i_istore, i_lstore, i_astore, i_iinc, i_push, i_getI, i_getJ, i_getR, i_putI, i_putJ, i_putR, i_iadd, i_isub, i_imul, i_iand, i_ior, i_ixor, i_ishl, i_ishr, i_iushr, i_idiv, i_irem, i_ladd, i_lsub, i_lmul, i_land, i_lor, i_lxor, i_ldiv, i_lrem, i_lshl, i_lshr, i_lcmp, i_ineg, i_lneg, i_i2l, i_l2i, i_i2b, i_i2c, i_dup, i_pop, i_dup_x1, i_dup2, i_icmp_eq, i_icmp_lt, i_icmp_ge, i_icmp_gt, i_icmp_le, i_if_eq, i_if_lt, i_if_ge, i_if_gt, i_if_le, i_goto, i_ifnull, i_iald, i_bald, i_zald, i_lald, i_aald, i_iast, i_bast, i_zast, i_last, i_alen, i_iret, i_lret, i_aret, i_vret, i_oinit, i_cast, i_tsw, i_cases, i_mmin, i_mmax, i_lmin, i_throw, nb0, nb1, nint, nby0, rf_s, rf_n, of_r, of_n, tk_orf_rf, tk_c2, tk_ls, Value.category, tk_isR_ref, tk_isR_rf, tk_isR_null, z_q_L_s_I, z_q_K_s_I, z_q_I_s_I, z_q_J_s_I, z_q_R_s_I, z_q_n_s_I, z_q_aI_s_I, z_q_aJ_s_I, z_q_aR_s_I, z_q_L_s_J, z_q_K_s_J, z_q_I_s_J, z_q_J_s_J, z_q_R_s_J, z_q_n_s_J, z_q_aI_s_J, z_q_aJ_s_J, z_q_aR_s_J, z_q_L_s_R, z_q_K_s_R, z_q_I_s_R, z_q_J_s_R, z_q_R_s_R, z_q_n_s_R, z_q_aI_s_R, z_q_aJ_s_R, z_q_aR_s_R, z_q_L_s_aI, z_q_K_s_aI, z_q_I_s_aI, z_q_J_s_aI, z_q_R_s_aI, z_q_n_s_aI, z_q_aI_s_aI, z_q_aJ_s_aI, z_q_aR_s_aI, z_q_L_s_aJ, z_q_K_s_aJ, z_q_I_s_aJ, z_q_J_s_aJ, z_q_R_s_aJ, z_q_n_s_aJ, z_q_aI_s_aJ, z_q_aJ_s_aJ, z_q_aR_s_aJ, z_q_L_s_aR, z_q_K_s_aR, z_q_I_s_aR, z_q_J_s_aR, z_q_R_s_aR, z_q_n_s_aR, z_q_aI_s_aR, z_q_aJ_s_aR, z_q_aR_s_aR, z_q_L_s_new, z_q_K_s_new, z_q_I_s_new, z_q_J_s_new, z_q_R_s_new, z_q_n_s_new, z_q_aI_s_new, z_q_aJ_s_new, z_q_aR_s_new, z_q_L_s_arr, z_q_K_s_arr, z_q_I_s_arr, z_q_J_s_arr, z_q_R_s_arr, z_q_n_s_arr, z_q_aI_s_arr, z_q_aJ_s_arr, z_q_aR_s_arr, h1, h2, a14, b14, c14, d14, x14, n14, a15, b15, c15, d15, x15, n15, a16, b16, c16, d16, x16, n16, a34, b34, c34, d34, hin0, cw, l5, z, hinc, co, g1, g2]
      rw [ek]
      have hfold2 : (x :: xs).foldl (estep F) st = xs.foldl (estep F) (estep F st x) := rfl
      rw [hfold2] at hfold
      have ee : ∀ u v : Nat → Int32, s_aI (s_aI S (R 34) u) (R 34) v = s_aI S (R 34) v := fun u v => s_aI_aI _ _ _ _
      have hsx : sOK x := hs x hxc
      have two : (x.1 = 264 ∨ x.1 = 265) → ∃ b e r, st = b :: e :: r ∧ wk 64 xs (r.length + 1) = some 1 := fun hxw => by
        rw [wk, if_neg (by rcases hxw with e | e <;> rw [e] <;> decide), if_pos hxw] at hwk
        rcases st with _ | ⟨b, _ | ⟨e, r⟩⟩
        · simp at hwk
        · simp at hwk
        · simp only [List.length_cons, show 2 ≤ r.length + 1 + 1 from by omega, if_true] at hwk
          exact ⟨b, e, r, rfl, hwk⟩
      refine ⟨fun q0 => ?_, fun q0 => ⟨fun q1 => ?_, fun q1 => ⟨fun q2 => ?_, fun q2 => ?_⟩⟩⟩
      · have hxw : x.1 = 265 := by
          rcases hsx with rfl | rfl | rfl | ⟨k, hk, rfl⟩ | ⟨k, r, v, hk, hr, rfl⟩ | ⟨v, rfl⟩
          · rfl
          · exact absurd q0 (by decide +kernel)
          · exact absurd q0 (by decide +kernel)
          · exact absurd q0 (cd_fact (Or.inr (Or.inr (Or.inr (Or.inl ⟨k, hk, rfl⟩)))) (isFw_k (by omega))).1
          · exact absurd q0 (cd_fact (Or.inr (Or.inr (Or.inr (Or.inr (Or.inl ⟨k, r, v, hk, hr, rfl⟩))))) (isFw_k2 (by omega))).1
          · exact absurd q0 (cd_fact (Or.inr (Or.inr (Or.inr (Or.inr (Or.inr ⟨v, rfl⟩))))) isFw_276).1
        obtain ⟨b, e, r, rfl, hwk2⟩ := two (Or.inr hxw)
        obtain ⟨f1, f2, f3⟩ := hf
        simp only [List.length_cons] at f1 f2 hst
        have em : nI (r.length + 1 + 1) + -1 = nI (r.length + 1) := by
          rw [← Int32.sub_eq_add_neg]
          exact nI_pred _
        have em2 : nI (r.length + 1) - 1 = nI r.length := nI_pred _
        have i1 : vp_in (nI (r.length + 1)) 64 := vp_in_nI (by omega) (by omega)
        have i2 : vp_in (nI r.length) 64 := vp_in_nI (by omega) (by omega)
        have k1 : (nI (r.length + 1)).toNatClampNeg = r.length + 1 := nI_clamp (by omega)
        have k2 : (nI r.length).toNatClampNeg = r.length := nI_clamp (by omega)
        have hes : estep F (b :: e :: r) x = (e && b) :: r := by
          unfold estep
          rw [if_neg (by rw [hxw]; decide)]
          rw [if_neg (by rw [hxw]; decide), if_pos hxw]
        rw [hes] at hfold
        have fin : ∀ v y6 y7, v = bI (e && b) → E 11 [some (.ref m), some (.int (nI w)), some (.int (nI t)), some (.int (nI gt)), some (.int (nI (r.length + 1))), some (.int (nI (off + (j + 1)))), y6, y7] [] (s_aI S (R 34) (upd f r.length v)) 0 0 := fun v y6 y7 hv => by
          refine ih (j + 1) ((e && b) :: r) _ y6 y7 (by omega) hdr2 ⟨by simp [upd, hv], pileR.upd r f3 (Nat.le_refl _)⟩ (Or.inr hwk2) (by simp; omega) hfold
        refine hE.2.2 _ _ _ _ _ ?_
        simp -implicitDefEqProofs [t_X12_holds_51, i_aload, i_iload, i_lload, i_istore, i_lstore, i_astore, i_iinc, i_push, i_getI, i_getJ, i_getR, i_putI, i_putJ, i_putR, i_iadd, i_isub, i_imul, i_iand, i_ior, i_ixor, i_ishl, i_ishr, i_iushr, i_idiv, i_irem, i_ladd, i_lsub, i_lmul, i_land, i_lor, i_lxor, i_ldiv, i_lrem, i_lshl, i_lshr, i_lcmp, i_ineg, i_lneg, i_i2l, i_l2i, i_i2b, i_i2c, i_dup, i_pop, i_dup_x1, i_dup2, i_icmp_eq, i_icmp_lt, i_icmp_ge, i_icmp_gt, i_icmp_le, i_if_eq, i_if_lt, i_if_ge, i_if_gt, i_if_le, i_goto, i_ifnull, i_iald, i_bald, i_zald, i_lald, i_aald, i_iast, i_bast, i_zast, i_last, i_alen, i_iret, i_lret, i_aret, i_vret, i_oinit, i_cast, i_tsw, i_cases, i_mmin, i_mmax, i_lmin, i_throw, nb0, nb1, nint, nby0, rf_s, rf_n, of_r, of_n, tk_orf_rf, tk_c2, tk_ls, Value.category, tk_isR_ref, tk_isR_rf, tk_isR_null, z_q_L_s_I, z_q_K_s_I, z_q_I_s_I, z_q_J_s_I, z_q_R_s_I, z_q_n_s_I, z_q_aI_s_I, z_q_aJ_s_I, z_q_aR_s_I, z_q_L_s_J, z_q_K_s_J, z_q_I_s_J, z_q_J_s_J, z_q_R_s_J, z_q_n_s_J, z_q_aI_s_J, z_q_aJ_s_J, z_q_aR_s_J, z_q_L_s_R, z_q_K_s_R, z_q_I_s_R, z_q_J_s_R, z_q_R_s_R, z_q_n_s_R, z_q_aI_s_R, z_q_aJ_s_R, z_q_aR_s_R, z_q_L_s_aI, z_q_K_s_aI, z_q_I_s_aI, z_q_J_s_aI, z_q_R_s_aI, z_q_n_s_aI, z_q_aI_s_aI, z_q_aJ_s_aI, z_q_aR_s_aI, z_q_L_s_aJ, z_q_K_s_aJ, z_q_I_s_aJ, z_q_J_s_aJ, z_q_R_s_aJ, z_q_n_s_aJ, z_q_aI_s_aJ, z_q_aJ_s_aJ, z_q_aR_s_aJ, z_q_L_s_aR, z_q_K_s_aR, z_q_I_s_aR, z_q_J_s_aR, z_q_R_s_aR, z_q_n_s_aR, z_q_aI_s_aR, z_q_aJ_s_aR, z_q_aR_s_aR, z_q_L_s_new, z_q_K_s_new, z_q_I_s_new, z_q_J_s_new, z_q_R_s_new, z_q_n_s_new, z_q_aI_s_new, z_q_aJ_s_new, z_q_aR_s_new, z_q_L_s_arr, z_q_K_s_arr, z_q_I_s_arr, z_q_J_s_arr, z_q_R_s_arr, z_q_n_s_arr, z_q_aI_s_arr, z_q_aJ_s_arr, z_q_aR_s_arr, h1, h2, a34, b34, c34, d34, em, em2, i1, i2, k1, k2, q0, f1, f2, ek]
        rcases b with _ | _ <;> rcases e with _ | _
        all_goals
          simp -implicitDefEqProofs [bI, vb0, vb1, ee]
          exact fin _ _ _ rfl
      · have hxw : x.1 = 264 := by
          rcases hsx with rfl | rfl | rfl | ⟨k, hk, rfl⟩ | ⟨k, r, v, hk, hr, rfl⟩ | ⟨v, rfl⟩
          · exact absurd q1 (by decide +kernel)
          · rfl
          · exact absurd q1 (by decide +kernel)
          · exact absurd q1 (cd_fact (Or.inr (Or.inr (Or.inr (Or.inl ⟨k, hk, rfl⟩)))) (isFw_k (by omega))).2.1
          · exact absurd q1 (cd_fact (Or.inr (Or.inr (Or.inr (Or.inr (Or.inl ⟨k, r, v, hk, hr, rfl⟩))))) (isFw_k2 (by omega))).2.1
          · exact absurd q1 (cd_fact (Or.inr (Or.inr (Or.inr (Or.inr (Or.inr ⟨v, rfl⟩))))) isFw_276).2.1
        obtain ⟨b, e, r, rfl, hwk2⟩ := two (Or.inl hxw)
        obtain ⟨f1, f2, f3⟩ := hf
        simp only [List.length_cons] at f1 f2 hst
        have em : nI (r.length + 1 + 1) + -1 = nI (r.length + 1) := by
          rw [← Int32.sub_eq_add_neg]
          exact nI_pred _
        have em2 : nI (r.length + 1) - 1 = nI r.length := nI_pred _
        have i1 : vp_in (nI (r.length + 1)) 64 := vp_in_nI (by omega) (by omega)
        have i2 : vp_in (nI r.length) 64 := vp_in_nI (by omega) (by omega)
        have k1 : (nI (r.length + 1)).toNatClampNeg = r.length + 1 := nI_clamp (by omega)
        have k2 : (nI r.length).toNatClampNeg = r.length := nI_clamp (by omega)
        have hes : estep F (b :: e :: r) x = (e || b) :: r := by
          unfold estep
          rw [if_neg (by rw [hxw]; decide)]
          rw [if_pos hxw]
        rw [hes] at hfold
        have fin : ∀ v y6 y7, v = bI (e || b) → E 11 [some (.ref m), some (.int (nI w)), some (.int (nI t)), some (.int (nI gt)), some (.int (nI (r.length + 1))), some (.int (nI (off + (j + 1)))), y6, y7] [] (s_aI S (R 34) (upd f r.length v)) 0 0 := fun v y6 y7 hv => by
          refine ih (j + 1) ((e || b) :: r) _ y6 y7 (by omega) hdr2 ⟨by simp [upd, hv], pileR.upd r f3 (Nat.le_refl _)⟩ (Or.inr hwk2) (by simp; omega) hfold
        refine hE.2.2 _ _ _ _ _ ?_
        simp -implicitDefEqProofs [t_X12_holds_51, i_aload, i_iload, i_lload, i_istore, i_lstore, i_astore, i_iinc, i_push, i_getI, i_getJ, i_getR, i_putI, i_putJ, i_putR, i_iadd, i_isub, i_imul, i_iand, i_ior, i_ixor, i_ishl, i_ishr, i_iushr, i_idiv, i_irem, i_ladd, i_lsub, i_lmul, i_land, i_lor, i_lxor, i_ldiv, i_lrem, i_lshl, i_lshr, i_lcmp, i_ineg, i_lneg, i_i2l, i_l2i, i_i2b, i_i2c, i_dup, i_pop, i_dup_x1, i_dup2, i_icmp_eq, i_icmp_lt, i_icmp_ge, i_icmp_gt, i_icmp_le, i_if_eq, i_if_lt, i_if_ge, i_if_gt, i_if_le, i_goto, i_ifnull, i_iald, i_bald, i_zald, i_lald, i_aald, i_iast, i_bast, i_zast, i_last, i_alen, i_iret, i_lret, i_aret, i_vret, i_oinit, i_cast, i_tsw, i_cases, i_mmin, i_mmax, i_lmin, i_throw, nb0, nb1, nint, nby0, rf_s, rf_n, of_r, of_n, tk_orf_rf, tk_c2, tk_ls, Value.category, tk_isR_ref, tk_isR_rf, tk_isR_null, z_q_L_s_I, z_q_K_s_I, z_q_I_s_I, z_q_J_s_I, z_q_R_s_I, z_q_n_s_I, z_q_aI_s_I, z_q_aJ_s_I, z_q_aR_s_I, z_q_L_s_J, z_q_K_s_J, z_q_I_s_J, z_q_J_s_J, z_q_R_s_J, z_q_n_s_J, z_q_aI_s_J, z_q_aJ_s_J, z_q_aR_s_J, z_q_L_s_R, z_q_K_s_R, z_q_I_s_R, z_q_J_s_R, z_q_R_s_R, z_q_n_s_R, z_q_aI_s_R, z_q_aJ_s_R, z_q_aR_s_R, z_q_L_s_aI, z_q_K_s_aI, z_q_I_s_aI, z_q_J_s_aI, z_q_R_s_aI, z_q_n_s_aI, z_q_aI_s_aI, z_q_aJ_s_aI, z_q_aR_s_aI, z_q_L_s_aJ, z_q_K_s_aJ, z_q_I_s_aJ, z_q_J_s_aJ, z_q_R_s_aJ, z_q_n_s_aJ, z_q_aI_s_aJ, z_q_aJ_s_aJ, z_q_aR_s_aJ, z_q_L_s_aR, z_q_K_s_aR, z_q_I_s_aR, z_q_J_s_aR, z_q_R_s_aR, z_q_n_s_aR, z_q_aI_s_aR, z_q_aJ_s_aR, z_q_aR_s_aR, z_q_L_s_new, z_q_K_s_new, z_q_I_s_new, z_q_J_s_new, z_q_R_s_new, z_q_n_s_new, z_q_aI_s_new, z_q_aJ_s_new, z_q_aR_s_new, z_q_L_s_arr, z_q_K_s_arr, z_q_I_s_arr, z_q_J_s_arr, z_q_R_s_arr, z_q_n_s_arr, z_q_aI_s_arr, z_q_aJ_s_arr, z_q_aR_s_arr, h1, h2, a34, b34, c34, d34, em, em2, i1, i2, k1, k2, q1, q0, f1, f2, ek]
        rcases b with _ | _ <;> rcases e with _ | _
        all_goals
          simp -implicitDefEqProofs [bI, vb0, vb1, ee]
          exact fin _ _ _ rfl
      · have hxw : x.1 = 266 := by
          rcases hsx with rfl | rfl | rfl | ⟨k, hk, rfl⟩ | ⟨k, r, v, hk, hr, rfl⟩ | ⟨v, rfl⟩
          · exact absurd q2 (by decide +kernel)
          · exact absurd q2 (by decide +kernel)
          · rfl
          · exact absurd q2 (cd_fact (Or.inr (Or.inr (Or.inr (Or.inl ⟨k, hk, rfl⟩)))) (isFw_k (by omega))).2.2
          · exact absurd q2 (cd_fact (Or.inr (Or.inr (Or.inr (Or.inr (Or.inl ⟨k, r, v, hk, hr, rfl⟩))))) (isFw_k2 (by omega))).2.2
          · exact absurd q2 (cd_fact (Or.inr (Or.inr (Or.inr (Or.inr (Or.inr ⟨v, rfl⟩))))) isFw_276).2.2
        rw [wk, if_pos hxw] at hwk
        rcases st with _ | ⟨b, r⟩
        · simp at hwk
        simp only [List.length_cons, show 1 ≤ r.length + 1 from by omega, if_true] at hwk
        obtain ⟨f1, f2⟩ := hf
        simp only [List.length_cons] at hst
        have em2 : nI (r.length + 1) - 1 = nI r.length := nI_pred _
        have i2 : vp_in (nI r.length) 64 := vp_in_nI (by omega) (by omega)
        have k2 : (nI r.length).toNatClampNeg = r.length := nI_clamp (by omega)
        have hes : estep F (b :: r) x = (!b) :: r := by
          unfold estep
          rw [if_pos hxw]
        rw [hes] at hfold
        have fin : ∀ v y6 y7, v = bI (!b) → E 11 [some (.ref m), some (.int (nI w)), some (.int (nI t)), some (.int (nI gt)), some (.int (nI (r.length + 1))), some (.int (nI (off + (j + 1)))), y6, y7] [] (s_aI S (R 34) (upd f r.length v)) 0 0 := fun v y6 y7 hv => by
          refine ih (j + 1) ((!b) :: r) _ y6 y7 (by omega) hdr2 ⟨by simp [upd, hv], pileR.upd r f2 (Nat.le_refl _)⟩ (Or.inr hwk) (by simp; omega) hfold
        simp -implicitDefEqProofs [em2, i2, k2, f1, ee]
        rcases b with _ | _
        all_goals
          simp -implicitDefEqProofs [bI]
          exact fin _ _ _ rfl
      · have hfw : isFw x.1 := by
          rcases hsx with rfl | rfl | rfl | ⟨k, hk, rfl⟩ | ⟨k, r, v, hk, hr, rfl⟩ | ⟨v, rfl⟩
          · exact absurd rfl q0
          · exact absurd rfl q1
          · exact absurd rfl q2
          · exact isFw_k (by omega)
          · exact isFw_k2 (by omega)
          · exact isFw_276
        rw [wk, if_neg hfw.2.2, if_neg (fun z => z.elim hfw.1 hfw.2.1)] at hwk
        have hlt : st.length < 64 := by
          apply Classical.byContradiction
          intro q
          rw [if_neg q] at hwk
          cases hwk
        rw [if_pos hlt] at hwk
        have hes : estep F st x = fI F x :: st := by
          unfold estep
          rw [if_neg hfw.2.2, if_neg hfw.1, if_neg hfw.2.1]
        rw [hes] at hfold
        have i2 : vp_in (nI st.length) 64 := vp_in_nI (by omega) (by omega)
        have k2 : (nI st.length).toNatClampNeg = st.length := nI_clamp (by omega)
        have ek4 : nI st.length + 1 = nI (st.length + 1) := nI_add _ 1
        have fin : ∀ v y6 y7, v = bI (fI F x) → E 11 [some (.ref m), some (.int (nI w)), some (.int (nI t)), some (.int (nI gt)), some (.int (nI (st.length + 1))), some (.int (nI (off + (j + 1)))), y6, y7] [] (s_aI S (R 34) (upd f st.length v)) 0 0 := fun v y6 y7 hv => by
          refine ih (j + 1) (fI F x :: st) _ y6 y7 (by omega) hdr2 ⟨by simp [upd, hv], pileR.upd st hf (Nat.le_refl _)⟩ (Or.inr hwk) (by simp; omega) hfold
        refine ⟨by simp, h1, h2, by simp [Value.category], 1, 0, 0, by omega, by omega, by omega, ?_⟩
        refine r_single (kd := kd) (wh := wh) (be := be) (bi := bi) (pa := pa) (pd := pd) (by omega) (hR.iA (k := 34) rfl f) ⟨cc, cl, rfl⟩ ?_ ht hg hsx hfw ?_
        · obtain ⟨v1, v2, v3, v4, v5, v6, v7, v8⟩ := hv
          exact ⟨v1, v2, v3, v4, v5, v6, v7, v8⟩
        · have e32 : vI (wA V 34 f) 32 = vI V 32 := rfl
          rw [e32, hFg]
          rcases hq : fI F x with _ | _
          · rw [hq] at fin
            simp -implicitDefEqProofs [i_aload, i_iload, i_lload, i_istore, i_lstore, i_astore, i_iinc, i_push, i_getI, i_getJ, i_getR, i_putI, i_putJ, i_putR, i_iadd, i_isub, i_imul, i_iand, i_ior, i_ixor, i_ishl, i_ishr, i_iushr, i_idiv, i_irem, i_ladd, i_lsub, i_lmul, i_land, i_lor, i_lxor, i_ldiv, i_lrem, i_lshl, i_lshr, i_lcmp, i_ineg, i_lneg, i_i2l, i_l2i, i_i2b, i_i2c, i_dup, i_pop, i_dup_x1, i_dup2, i_icmp_eq, i_icmp_lt, i_icmp_ge, i_icmp_gt, i_icmp_le, i_if_eq, i_if_lt, i_if_ge, i_if_gt, i_if_le, i_goto, i_ifnull, i_iald, i_bald, i_zald, i_lald, i_aald, i_iast, i_bast, i_zast, i_last, i_alen, i_iret, i_lret, i_aret, i_vret, i_oinit, i_cast, i_tsw, i_cases, i_mmin, i_mmax, i_lmin, i_throw, nb0, nb1, nint, nby0, rf_s, rf_n, of_r, of_n, tk_orf_rf, tk_c2, tk_ls, Value.category, tk_isR_ref, tk_isR_rf, tk_isR_null, z_q_L_s_I, z_q_K_s_I, z_q_I_s_I, z_q_J_s_I, z_q_R_s_I, z_q_n_s_I, z_q_aI_s_I, z_q_aJ_s_I, z_q_aR_s_I, z_q_L_s_J, z_q_K_s_J, z_q_I_s_J, z_q_J_s_J, z_q_R_s_J, z_q_n_s_J, z_q_aI_s_J, z_q_aJ_s_J, z_q_aR_s_J, z_q_L_s_R, z_q_K_s_R, z_q_I_s_R, z_q_J_s_R, z_q_R_s_R, z_q_n_s_R, z_q_aI_s_R, z_q_aJ_s_R, z_q_aR_s_R, z_q_L_s_aI, z_q_K_s_aI, z_q_I_s_aI, z_q_J_s_aI, z_q_R_s_aI, z_q_n_s_aI, z_q_aI_s_aI, z_q_aJ_s_aI, z_q_aR_s_aI, z_q_L_s_aJ, z_q_K_s_aJ, z_q_I_s_aJ, z_q_J_s_aJ, z_q_R_s_aJ, z_q_n_s_aJ, z_q_aI_s_aJ, z_q_aJ_s_aJ, z_q_aR_s_aJ, z_q_L_s_aR, z_q_K_s_aR, z_q_I_s_aR, z_q_J_s_aR, z_q_R_s_aR, z_q_n_s_aR, z_q_aI_s_aR, z_q_aJ_s_aR, z_q_aR_s_aR, z_q_L_s_new, z_q_K_s_new, z_q_I_s_new, z_q_J_s_new, z_q_R_s_new, z_q_n_s_new, z_q_aI_s_new, z_q_aJ_s_new, z_q_aR_s_new, z_q_L_s_arr, z_q_K_s_arr, z_q_I_s_arr, z_q_J_s_arr, z_q_R_s_arr, z_q_n_s_arr, z_q_aI_s_arr, z_q_aJ_s_arr, z_q_aR_s_arr, a34, b34, c34, d34, i2, k2, ek4, ek, vb0, vb1, ee]
            exact fin _ _ _ rfl
          · rw [hq] at fin
            simp -implicitDefEqProofs [i_aload, i_iload, i_lload, i_istore, i_lstore, i_astore, i_iinc, i_push, i_getI, i_getJ, i_getR, i_putI, i_putJ, i_putR, i_iadd, i_isub, i_imul, i_iand, i_ior, i_ixor, i_ishl, i_ishr, i_iushr, i_idiv, i_irem, i_ladd, i_lsub, i_lmul, i_land, i_lor, i_lxor, i_ldiv, i_lrem, i_lshl, i_lshr, i_lcmp, i_ineg, i_lneg, i_i2l, i_l2i, i_i2b, i_i2c, i_dup, i_pop, i_dup_x1, i_dup2, i_icmp_eq, i_icmp_lt, i_icmp_ge, i_icmp_gt, i_icmp_le, i_if_eq, i_if_lt, i_if_ge, i_if_gt, i_if_le, i_goto, i_ifnull, i_iald, i_bald, i_zald, i_lald, i_aald, i_iast, i_bast, i_zast, i_last, i_alen, i_iret, i_lret, i_aret, i_vret, i_oinit, i_cast, i_tsw, i_cases, i_mmin, i_mmax, i_lmin, i_throw, nb0, nb1, nint, nby0, rf_s, rf_n, of_r, of_n, tk_orf_rf, tk_c2, tk_ls, Value.category, tk_isR_ref, tk_isR_rf, tk_isR_null, z_q_L_s_I, z_q_K_s_I, z_q_I_s_I, z_q_J_s_I, z_q_R_s_I, z_q_n_s_I, z_q_aI_s_I, z_q_aJ_s_I, z_q_aR_s_I, z_q_L_s_J, z_q_K_s_J, z_q_I_s_J, z_q_J_s_J, z_q_R_s_J, z_q_n_s_J, z_q_aI_s_J, z_q_aJ_s_J, z_q_aR_s_J, z_q_L_s_R, z_q_K_s_R, z_q_I_s_R, z_q_J_s_R, z_q_R_s_R, z_q_n_s_R, z_q_aI_s_R, z_q_aJ_s_R, z_q_aR_s_R, z_q_L_s_aI, z_q_K_s_aI, z_q_I_s_aI, z_q_J_s_aI, z_q_R_s_aI, z_q_n_s_aI, z_q_aI_s_aI, z_q_aJ_s_aI, z_q_aR_s_aI, z_q_L_s_aJ, z_q_K_s_aJ, z_q_I_s_aJ, z_q_J_s_aJ, z_q_R_s_aJ, z_q_n_s_aJ, z_q_aI_s_aJ, z_q_aJ_s_aJ, z_q_aR_s_aJ, z_q_L_s_aR, z_q_K_s_aR, z_q_I_s_aR, z_q_J_s_aR, z_q_R_s_aR, z_q_n_s_aR, z_q_aI_s_aR, z_q_aJ_s_aR, z_q_aR_s_aR, z_q_L_s_new, z_q_K_s_new, z_q_I_s_new, z_q_J_s_new, z_q_R_s_new, z_q_n_s_new, z_q_aI_s_new, z_q_aJ_s_new, z_q_aR_s_new, z_q_L_s_arr, z_q_K_s_arr, z_q_I_s_arr, z_q_J_s_arr, z_q_R_s_arr, z_q_n_s_arr, z_q_aI_s_arr, z_q_aJ_s_arr, z_q_aR_s_arr, a34, b34, c34, d34, i2, k2, ek4, ek, vb0, vb1, ee]
            exact fin _ _ _ rfl
  simp -implicitDefEqProofs [t_X12_holds_0, i_aload, i_iload, i_lload, i_istore, i_lstore, i_astore, i_iinc, i_push, i_getI, i_getJ, i_getR, i_putI, i_putJ, i_putR, i_iadd, i_isub, i_imul, i_iand, i_ior, i_ixor, i_ishl, i_ishr, i_iushr, i_idiv, i_irem, i_ladd, i_lsub, i_lmul, i_land, i_lor, i_lxor, i_ldiv, i_lrem, i_lshl, i_lshr, i_lcmp, i_ineg, i_lneg, i_i2l, i_l2i, i_i2b, i_i2c, i_dup, i_pop, i_dup_x1, i_dup2, i_icmp_eq, i_icmp_lt, i_icmp_ge, i_icmp_gt, i_icmp_le, i_if_eq, i_if_lt, i_if_ge, i_if_gt, i_if_le, i_goto, i_ifnull, i_iald, i_bald, i_zald, i_lald, i_aald, i_iast, i_bast, i_zast, i_last, i_alen, i_iret, i_lret, i_aret, i_vret, i_oinit, i_cast, i_tsw, i_cases, i_mmin, i_mmax, i_lmin, i_throw, nb0, nb1, nint, nby0, rf_s, rf_n, of_r, of_n, tk_orf_rf, tk_c2, tk_ls, Value.category, tk_isR_ref, tk_isR_rf, tk_isR_null, h1, h2, a13, b13, c13, d13, x13, hin1, cw, l4]
  have hS : s_aI S (R 34) (vA V 34) = S := by rw [← x34, s_aI_id]
  have := loop c 0 [] (vA V 34) none none (by omega) rfl trivial (hwk.imp (fun q => ⟨q, rfl⟩) id) (by simp) rfl
  rw [hS] at this
  exact this
end RHOLD

/-! THE REFERENCE: interest is parted -/
section RRANK
variable {Z : tk_Z} {d mc ms : Nat} {QR : tk_R} {m hw k : Nat} {B : bS} {V V1 V2 : vR} {ρ : Nat → Nat} {S : tk_S} {R : Nat → Nat} {M : Mt}
/-- how many have a rest -/
def cntP (rk : Nat → Int32) (rs : Nat → Int64) (r : Int32) : Nat → Nat
  | 0 => 0
  | n + 1 => cntP rk rs r n + if rk n = r ∧ 0 < rs n then 1 else 0
theorem cntP_ge {rk : Nat → Int32} {rs : Nat → Int64} {r : Int32} {j : Nat} : ∀ n, j < n → rk j = r → 0 < rs j → 1 ≤ cntP rk rs r n := by
  intro n
  induction n with
  | zero => intro h; exact absurd h (Nat.not_lt_zero j)
  | succ n ih =>
    intro h h1 h2
    rw [cntP]
    by_cases hj : j = n
    · subst hj
      rw [if_pos ⟨h1, h2⟩]
      omega
    · have := ih (by omega) h1 h2
      omega
theorem cntP_le {rk : Nat → Int32} {rs : Nat → Int64} {r : Int32} : ∀ n, cntP rk rs r n ≤ n := by
  intro n
  induction n with
  | zero => exact Nat.le_refl _
  | succ n ih =>
    rw [cntP]
    split <;> omega
theorem cntP_off {rk : Nat → Int32} {rs : Nat → Int64} {r : Int32} {j : Nat} : ∀ n, n ≤ j → cntP rk (vp_updL rs j 0) r n = cntP rk rs r n := by
  intro n
  induction n with
  | zero => intro _; rfl
  | succ n ih =>
    intro h
    rw [cntP, cntP, ih (by omega), pk_uLn (show n ≠ j by omega)]
theorem cntP_upd {rk : Nat → Int32} {rs : Nat → Int64} {r : Int32} {j : Nat} (h1 : rk j = r) (h2 : 0 < rs j) : ∀ n, j < n → cntP rk (vp_updL rs j 0) r n + 1 = cntP rk rs r n := by
  intro n
  induction n with
  | zero => intro h; exact absurd h (Nat.not_lt_zero j)
  | succ n ih =>
    intro h
    rw [cntP, cntP]
    by_cases hj : j = n
    · subst hj
      rw [cntP_off j (Nat.le_refl j), pk_uLs, if_neg (fun z => absurd z.2 Int64.lt_irrefl), if_pos ⟨h1, h2⟩]
    · rw [pk_uLn (show n ≠ j by omega)]
      have := ih (by omega)
      omega
theorem wL_comm {i j : Nat} (V : vR) (f g : Nat → Int64) (h : i ≠ j) : wL (wL V i f) j g = wL (wL V j g) i f := by
  refine vR_ext (fun _ => rfl) rfl (fun _ => rfl) (fun k => ?_)
  simp only [vL_wL]
  by_cases h1 : k = i
  · have : ¬ k = j := fun z => h (h1.symm.trans z)
    simp [h1, h]
  · simp [h1]
/-- with parts and rests -/
def iV (V : vR) (gg rr : Nat → Int64) : vR := wL (wL V 59 gg) 60 rr
theorem iV_g {gg rr f : Nat → Int64} : wL (iV V gg rr) 59 f = iV V f rr := by
  unfold iV
  rw [wL_comm (wL V 59 gg) _ _ (show (60 : Nat) ≠ 59 by decide), wL_wL]
theorem iV_r {gg rr f : Nat → Int64} : wL (iV V gg rr) 60 f = iV V gg f := by
  unfold iV
  rw [wL_wL]
/-- but for dues, parts, rests and the journal nothing has changed -/
def iF (V V' : vR) : Prop := (∀ i, i ≠ 42 → vI V' i = vI V i) ∧ (∀ i, (i < 38 ∨ 41 < i) → vA V' i = vA V i) ∧ ∀ i, i < 58 ∨ 60 < i → vL V' i = vL V i
theorem iF.rfl' : iF V V := ⟨fun _ _ => rfl, fun _ _ => rfl, fun _ _ => rfl⟩
theorem iF.trans (h : iF V V1) (g : iF V1 V2) : iF V V2 := ⟨fun i a => (g.1 i a).trans (h.1 i a), fun i a => (g.2.1 i a).trans (h.2.1 i a), fun i a => (g.2.2 i a).trans (h.2.2 i a)⟩
theorem iF.line {n : Nat} {kind who : Int32} {sum : Int64} {f1 f2 f3 f4 : Nat → Int32} : iF V (lineV V n kind who sum f1 f2 f3 f4) := by
  refine ⟨fun i hi => ?_, fun i hi => ?_, fun _ _ => rfl⟩
  · show upd _ 42 _ i = _
    rw [pk_un hi]
    rfl
  · have i1 : ¬ i = 38 := by omega
    have i2 : ¬ i = 39 := by omega
    have i3 : ¬ i = 40 := by omega
    have i4 : ¬ i = 41 := by omega
    simp [lineV, vA_wJ, vA_wI, vA_wA, i1, i2, i3, i4]
theorem iF.l {j : Nat} {f : Nat → Int64} (hj : 58 ≤ j ∧ j ≤ 60) : iF V (wL V j f) := ⟨fun _ _ => rfl, fun _ _ => rfl, fun i a => by rw [vL_wL, if_neg (by omega)]⟩
theorem iF.iv {gg rr : Nat → Int64} : iF V (iV V gg rr) := (iF.l (by omega)).trans (iF.l (by omega))
def bsI : Option Nat → Int32
  | none => -1
  | some j => nI j
theorem sub3 (a b c : Int64) : a - b - c = a - (b + c) := by
  rw [Int64.sub_eq_add_neg, Int64.sub_eq_add_neg, Int64.sub_eq_add_neg, Int64.neg_add, Int64.add_assoc, Int64.sub_eq_add_neg]
set_option maxHeartbeats 16000000 in
theorem r_rank {td n cc : Nat} {rk : Nat → Int32} {r : Int32} {w : mI} (hd : 2 ≤ d) (hR : RS B m ρ S (rLk cc (cp 600 w.2.1)) R V) (h61 : vI V 61 = nI n) (hn : n ≤ 10) (h57 : vA V 57 = rk) (h58 : vL V 58 = w.1) (hJn : rJn V w.2) (h32 : vI V 32 = nI td)
    (hz : dueM rk w.1 r n 0 0 = 0 → rankM td n rk r w = w)
    (hG : ∀ i, i < n → rk i = r → 0 ≤ (if dueM rk w.1 r n 0 0 ≤ w.2.2.1 then w.1 else partsM rk w.1 r n w.2.2.1 (dueM rk w.1 r n 0 0)) i ∧ (-((if dueM rk w.1 r n 0 0 ≤ w.2.2.1 then w.1 else partsM rk w.1 r n w.2.2.1 (dueM rk w.1 r n 0 0)) i)).toInt32.toInt64 = -((if dueM rk w.1 r n 0 0 ≤ w.2.2.1 then w.1 else partsM rk w.1 r n w.2.2.1 (dueM rk w.1 r n 0 0)) i))
    (hJ : (rankM td n rk r w).2.1 ≤ 12000) (hmc : 4 * (lv 600 (rankM td n rk r w).2.1 - lv 600 w.2.1) ≤ mc) (hms : 80000 * (lv 600 (rankM td n rk r w).2.1 - lv 600 w.2.1) ≤ ms)
    (H : ∀ V', iF V V' → vL V' 58 = (rankM td n rk r w).1 → rJn V' (rankM td n rk r w).2 → okV B m (rLk cc (cp 600 (rankM td n rk r w).2.1)) QR none V') : tk_M Z mX12_rank d mc ms [.ref m, .int r] S QR tk_noX := by
  refine M_X12_rank (Nat.le_of_ble_eq_true rfl) (fun E hE => hE.1 _ _ _ _ _ ?_)
  show t_X12_rank_0 Z d mc ms QR E [some (.ref m), some (.int r), none, none, none, none, none, none, none, none, none, none] [] S 0 0
  obtain ⟨du, J⟩ := w
  dsimp only at hR h58 hJn hz hG hmc hms
  generalize hal : dueM rk du r n 0 0 = al at *
  have hJn12 : J.1 ≤ 12000 := Nat.le_trans (rankM_ge td n rk r (du, J)) hJ
  have hrk : rankM td n rk r (du, J) = payM td rk r (if al ≤ J.2.1 then du else partsM rk du r n J.2.1 al) n 0 (du, J) := by
    unfold rankM
    dsimp only
    rw [hal]
  generalize hGf : (if al ≤ J.2.1 then du else partsM rk du r n J.2.1 al) = Gf at *
  generalize hfin : rankM td n rk r (du, J) = fin at *
  -- the lines
  have at306 : ∀ q i du' J' V' ρ S R x4 x6 x10 x11, q + i = n → RS B m ρ S (rLk cc (cp 600 J'.1)) R V' → iF V V' → vL V' 58 = du' → (∀ i, i < n → rk i = r → vL V' 59 i = Gf i) → rJn V' J' → J.1 ≤ J'.1 → payM td rk r Gf q i (du', J') = fin → E 306 [some (.ref m), some (.int r), some (.long al), none, x4, none, x6, none, some (.int (nI i)), none, x10, x11] [] S (4 * (lv 600 J'.1 - lv 600 J.1)) (80000 * (lv 600 J'.1 - lv 600 J.1)) := by
    intro q
    induction q with
    | zero =>
      intro i du' J' V' ρ S R x4 x6 x10 x11 hi hR hF h58 h59 hJ' hJJ hpay
      refine hE.2.2.2.2.2.2 _ _ _ _ _ ?_
      obtain ⟨h1, h2, h3⟩ := id hR.1.1
      have e61 : q_I S 13 61 m = nI n := ((hR.2.1.1 61).trans (hF.1 61 (by decide))).trans h61
      have z : nI n ≤ nI i := nI_le (by omega) (by omega)
      rw [payM] at hpay
      subst hpay
      generalize 4 * (lv 600 J'.1 - lv 600 J.1) = mc1 at *
      generalize 80000 * (lv 600 J'.1 - lv 600 J.1) = ms1 at *
      simp -implicitDefEqProofs [t_X12_rank_306, i_aload, i_iload, i_lload, i_istore, i_lstore, i_astore, i_iinc, i_push, i_getI, i_getJ, i_getR, i_putI, i_putJ, i_putR, i_iadd, i_isub, i_imul, i_iand, i_ior, i_ixor, i_ishl, i_ishr, i_iushr, i_idiv, i_irem, i_ladd, i_lsub, i_lmul, i_land, i_lor, i_lxor, i_ldiv, i_lrem, i_lshl, i_lshr, i_lcmp, i_ineg, i_lneg, i_i2l, i_l2i, i_i2b, i_i2c, i_dup, i_pop, i_dup_x1, i_dup2, i_icmp_eq, i_icmp_lt, i_icmp_ge, i_icmp_gt, i_icmp_le, i_if_eq, i_if_lt, i_if_ge, i_if_gt, i_if_le, i_goto, i_ifnull, i_iald, i_bald, i_zald, i_lald, i_aald, i_iast, i_bast, i_zast, i_last, i_alen, i_iret, i_lret, i_aret, i_vret, i_oinit, i_cast, i_tsw, i_cases, i_mmin, i_mmax, i_lmin, i_throw, nb0, nb1, nint, nby0, rf_s, rf_n, of_r, of_n, tk_orf_rf, tk_c2, tk_ls, Value.category, tk_isR_ref, tk_isR_rf, tk_isR_null, h1, h2, e61, z]
      exact ⟨hmc, hms, H V' hF h58 hJ' _ _ _ hR⟩
    | succ q ih =>
      intro i du' J' V' ρ S R x4 x6 x10 x11 hi hR hF h58 h59 hJ' hJJ hpay
      refine hE.2.2.2.2.2.2 _ _ _ _ _ ?_
      obtain ⟨h1, h2, h3⟩ := id hR.1.1
      have e61 : q_I S 13 61 m = nI n := ((hR.2.1.1 61).trans (hF.1 61 (by decide))).trans h61
      have z : ¬ nI n ≤ nI i := nI_ge (by omega) (by omega)
      have ek : nI i + 1 = nI (i + 1) := nI_add i 1
      have hin : vp_in (nI i) 10 := vp_in_nI (by omega) (by omega)
      have ci : (nI i).toNatClampNeg = i := nI_clamp (by omega)
      obtain ⟨a57, b57, c57, d57, -⟩ := hR.1.2 57 _ _ rfl
      have x57 := hR.2.1.2.2.1 57 _ _ rfl (by decide)
      obtain ⟨a58, b58, c58, d58, -⟩ := hR.1.2 58 _ _ rfl
      have x58 := hR.2.1.2.2.2 58 _ rfl
      obtain ⟨a59, b59, c59, d59, -⟩ := hR.1.2 59 _ _ rfl
      have x59 := hR.2.1.2.2.2 59 _ rfl
      have x57 : q_aI S (R 57) = rk := (x57.trans (hF.2.1 57 (by decide))).trans h57
      rw [h58] at x58
      have n59 := hR.1.ne (i := 59) (j := 58) rfl rfl (by decide)
      rw [payM] at hpay
      have hge : J'.1 ≤ fin.2.1 := by
        rw [← hpay]
        refine Nat.le_trans ?_ (payM_ge q (i + 1) _)
        split
        · exact Nat.le_succ _
        · exact Nat.le_refl _
      simp -implicitDefEqProofs [t_X12_rank_306, i_aload, i_iload, i_lload, i_istore, i_lstore, i_astore, i_iinc, i_push, i_getI, i_getJ, i_getR, i_putI, i_putJ, i_putR, i_iadd, i_isub, i_imul, i_iand, i_ior, i_ixor, i_ishl, i_ishr, i_iushr, i_idiv, i_irem, i_ladd, i_lsub, i_lmul, i_land, i_lor, i_lxor, i_ldiv, i_lrem, i_lshl, i_lshr, i_lcmp, i_ineg, i_lneg, i_i2l, i_l2i, i_i2b, i_i2c, i_dup, i_pop, i_dup_x1, i_dup2, i_icmp_eq, i_icmp_lt, i_icmp_ge, i_icmp_gt, i_icmp_le, i_if_eq, i_if_lt, i_if_ge, i_if_gt, i_if_le, i_goto, i_ifnull, i_iald, i_bald, i_zald, i_lald, i_aald, i_iast, i_bast, i_zast, i_last, i_alen, i_iret, i_lret, i_aret, i_vret, i_oinit, i_cast, i_tsw, i_cases, i_mmin, i_mmax, i_lmin, i_throw, nb0, nb1, nint, nby0, rf_s, rf_n, of_r, of_n, tk_orf_rf, tk_c2, tk_ls, Value.category, tk_isR_ref, tk_isR_rf, tk_isR_null, z_q_L_s_I, z_q_K_s_I, z_q_I_s_I, z_q_J_s_I, z_q_R_s_I, z_q_n_s_I, z_q_aI_s_I, z_q_aJ_s_I, z_q_aR_s_I, z_q_L_s_J, z_q_K_s_J, z_q_I_s_J, z_q_J_s_J, z_q_R_s_J, z_q_n_s_J, z_q_aI_s_J, z_q_aJ_s_J, z_q_aR_s_J, z_q_L_s_R, z_q_K_s_R, z_q_I_s_R, z_q_J_s_R, z_q_R_s_R, z_q_n_s_R, z_q_aI_s_R, z_q_aJ_s_R, z_q_aR_s_R, z_q_L_s_aI, z_q_K_s_aI, z_q_I_s_aI, z_q_J_s_aI, z_q_R_s_aI, z_q_n_s_aI, z_q_aI_s_aI, z_q_aJ_s_aI, z_q_aR_s_aI, z_q_L_s_aJ, z_q_K_s_aJ, z_q_I_s_aJ, z_q_J_s_aJ, z_q_R_s_aJ, z_q_n_s_aJ, z_q_aI_s_aJ, z_q_aJ_s_aJ, z_q_aR_s_aJ, z_q_L_s_aR, z_q_K_s_aR, z_q_I_s_aR, z_q_J_s_aR, z_q_R_s_aR, z_q_n_s_aR, z_q_aI_s_aR, z_q_aJ_s_aR, z_q_aR_s_aR, z_q_L_s_new, z_q_K_s_new, z_q_I_s_new, z_q_J_s_new, z_q_R_s_new, z_q_n_s_new, z_q_aI_s_new, z_q_aJ_s_new, z_q_aR_s_new, z_q_L_s_arr, z_q_K_s_arr, z_q_I_s_arr, z_q_J_s_arr, z_q_R_s_arr, z_q_n_s_arr, z_q_aI_s_arr, z_q_aJ_s_arr, z_q_aR_s_arr, h1, h2, e61, z, a57, b57, c57, d57, x57, a58, b58, c58, d58, x58, a59, b59, c59, d59, x59, n59, hin, ci, ek, lg_cmp_eq]
      refine ⟨fun hr => ⟨fun hg => ?_, fun hg => ?_⟩, fun hr => ?_⟩
      · rw [h59 i (by omega) hr] at hg
        rw [if_neg (fun z => by rw [hg] at z; exact absurd z.2 Int64.lt_irrefl)] at hpay
        exact ih (i + 1) du' J' V' ρ S R _ _ _ _ (by omega) hR hF h58 h59 hJ' hJJ hpay
      · have hgi := h59 i (by omega) hr
        rw [hgi] at hg ⊢
        obtain ⟨hg0, hgf⟩ := hG i (by omega) hr
        have hgp : 0 < Gf i := Int64.lt_of_le_of_ne hg0 (fun z => hg z.symm)
        rw [if_pos ⟨hr, hgp⟩] at hpay
        have hge1 : J'.1 + 1 ≤ fin.2.1 := by
          rw [← hpay]
          exact payM_ge q (i + 1) (vp_updL du' i (du' i - Gf i), lineM J' (nI td) 4 (nI i) (-Gf i))
        have l1 := lv_mono (b := 600) (show J'.1 + 1 ≤ fin.2.1 from hge1)
        have l2 := lv_mono (b := 600) (show J'.1 ≤ J'.1 + 1 by omega)
        have l3 := lv_mono (b := 600) hJJ
        have hR2 := hR.iL (k := 58) rfl (vp_updL du' i (du' i - Gf i))
        refine call_line (n := J'.1) hd hR2 hJ'.1 (by omega) (by omega) (by omega) (fun f1 f2 f3 f4 ρ' S' R' hf hR' => ?_)
        rw [show 4 * (lv 600 J'.1 - lv 600 J.1) + 4 * (lv 600 (J'.1 + 1) - lv 600 J'.1) = 4 * (lv 600 (J'.1 + 1) - lv 600 J.1) by omega, show 80000 * (lv 600 J'.1 - lv 600 J.1) + 80000 * (lv 600 (J'.1 + 1) - lv 600 J'.1) = 80000 * (lv 600 (J'.1 + 1) - lv 600 J.1) by omega]
        simp -implicitDefEqProofs [i_aload, i_iload, i_lload, i_istore, i_lstore, i_astore, i_iinc, i_push, i_getI, i_getJ, i_getR, i_putI, i_putJ, i_putR, i_iadd, i_isub, i_imul, i_iand, i_ior, i_ixor, i_ishl, i_ishr, i_iushr, i_idiv, i_irem, i_ladd, i_lsub, i_lmul, i_land, i_lor, i_lxor, i_ldiv, i_lrem, i_lshl, i_lshr, i_lcmp, i_ineg, i_lneg, i_i2l, i_l2i, i_i2b, i_i2c, i_dup, i_pop, i_dup_x1, i_dup2, i_icmp_eq, i_icmp_lt, i_icmp_ge, i_icmp_gt, i_icmp_le, i_if_eq, i_if_lt, i_if_ge, i_if_gt, i_if_le, i_goto, i_ifnull, i_iald, i_bald, i_zald, i_lald, i_aald, i_iast, i_bast, i_zast, i_last, i_alen, i_iret, i_lret, i_aret, i_vret, i_oinit, i_cast, i_tsw, i_cases, i_mmin, i_mmax, i_lmin, i_throw, nb0, nb1, nint, nby0, rf_s, rf_n, of_r, of_n, tk_orf_rf, tk_c2, tk_ls, Value.category, tk_isR_ref, tk_isR_rf, tk_isR_null, ek]
        have hF2 : iF V (lineV (wL V' 58 (vp_updL du' i (du' i - Gf i))) J'.1 4 (nI i) (-(Gf i)) f1 f2 f3 f4) := (hF.trans (iF.l (by omega))).trans iF.line
        refine ih (i + 1) (vp_updL du' i (du' i - Gf i)) (lineM J' (nI td) 4 (nI i) (-(Gf i))) _ ρ' S' R' _ _ _ _ (by omega) hR' hF2 rfl (fun i' hi' hr' => h59 i' hi' hr') ?_ (by show J.1 ≤ J'.1 + 1; omega) hpay
        exact rJn.line (V := wL V' 58 (vp_updL du' i (du' i - Gf i))) hJ' ((hF.1 32 (by decide)).trans h32) hf hgf
      · rw [if_neg (fun z => hr z.1)] at hpay
        exact ih (i + 1) du' J' V' ρ S R _ _ _ _ (by omega) hR hF h58 h59 hJ' hJJ hpay
  -- to the lines
  have to306 : ∀ gg rr ρ S R x4 x6 x10 x11, RS B m ρ S (rLk cc (cp 600 J.1)) R (iV V gg rr) → (∀ i, i < n → rk i = r → gg i = Gf i) → E 306 [some (.ref m), some (.int r), some (.long al), none, x4, none, x6, none, some (.int 0), none, x10, x11] [] S 0 0 := by
    intro gg rr ρ S R x4 x6 x10 x11 hR hgg
    have g := at306 n 0 du J (iV V gg rr) ρ S R x4 x6 x10 x11 (by omega) hR iF.iv h58 hgg hJn (Nat.le_refl _) hrk.symm
    rw [Nat.sub_self, Nat.mul_zero, nI_0] at g
    exact g
  -- one by one
  have one189 : ∀ gg rr more ρ S R x4 x6 x10 x11, RS B m ρ S (rLk cc (cp 600 J.1)) R (iV V gg rr) → (¬ 0 < more → ∀ i, i < n → rk i = r → gg i = Gf i) → (0 < more → mostM rk rr r n 0 none = none → ∀ i, i < n → rk i = r → gg i = Gf i) → (∀ j, 0 < more → mostM rk rr r n 0 none = some j → ∀ ρ S R x10 x11, RS B m ρ S (rLk cc (cp 600 J.1)) R (iV V (vp_updL gg j (gg j + 1)) (vp_updL rr j 0)) → E 189 [some (.ref m), some (.int r), some (.long al), none, x4, none, x6, none, some (.long (more - 1)), none, x10, x11] [] S 0 0) → E 189 [some (.ref m), some (.int r), some (.long al), none, x4, none, x6, none, some (.long more), none, x10, x11] [] S 0 0 := by
    intro gg rr more ρ S R x4 x6 x10 x11 hR hle hnone hsome
    have loop : 0 < more → ∀ t i b, t + i = n → (∀ j, b = some j → j < n) → mostM rk rr r n 0 none = mostM rk rr r t i b → E 202 [some (.ref m), some (.int r), some (.long al), none, x4, none, x6, none, some (.long more), none, some (.int (bsI b)), some (.int (nI i))] [] S 0 0 := by
      intro hm t
      obtain ⟨h1, h2, h3⟩ := id hR.1.1
      have e61 : q_I S 13 61 m = nI n := (hR.2.1.1 61).trans h61
      obtain ⟨a57, b57, c57, d57, -⟩ := hR.1.2 57 _ _ rfl
      have x57 := hR.2.1.2.2.1 57 _ _ rfl (by decide)
      obtain ⟨a59, b59, c59, d59, -⟩ := hR.1.2 59 _ _ rfl
      have x59 := hR.2.1.2.2.2 59 _ rfl
      obtain ⟨a60, b60, c60, d60, -⟩ := hR.1.2 60 _ _ rfl
      have x60 := hR.2.1.2.2.2 60 _ rfl
      have x57 : q_aI S (R 57) = rk := x57.trans h57
      have x59 : q_aJ S (R 59) = gg := x59
      have x60 : q_aJ S (R 60) = rr := x60
      have n60 := hR.1.ne (i := 60) (j := 59) rfl rfl (by decide)
      induction t with
      | zero =>
        intro i b hi hbn hb
        refine hE.2.2.2.2.2.1 _ _ _ _ _ ?_
        have z : nI n ≤ nI i := nI_le (by omega) (by omega)
        rw [mostM] at hb
        rcases b with _ | j
        · have zb : ¬ (0 : Int32) ≤ -1 := by decide
          simp -implicitDefEqProofs [t_X12_rank_202, i_aload, i_iload, i_lload, i_istore, i_lstore, i_astore, i_iinc, i_push, i_getI, i_getJ, i_getR, i_putI, i_putJ, i_putR, i_iadd, i_isub, i_imul, i_iand, i_ior, i_ixor, i_ishl, i_ishr, i_iushr, i_idiv, i_irem, i_ladd, i_lsub, i_lmul, i_land, i_lor, i_lxor, i_ldiv, i_lrem, i_lshl, i_lshr, i_lcmp, i_ineg, i_lneg, i_i2l, i_l2i, i_i2b, i_i2c, i_dup, i_pop, i_dup_x1, i_dup2, i_icmp_eq, i_icmp_lt, i_icmp_ge, i_icmp_gt, i_icmp_le, i_if_eq, i_if_lt, i_if_ge, i_if_gt, i_if_le, i_goto, i_ifnull, i_iald, i_bald, i_zald, i_lald, i_aald, i_iast, i_bast, i_zast, i_last, i_alen, i_iret, i_lret, i_aret, i_vret, i_oinit, i_cast, i_tsw, i_cases, i_mmin, i_mmax, i_lmin, i_throw, nb0, nb1, nint, nby0, rf_s, rf_n, of_r, of_n, tk_orf_rf, tk_c2, tk_ls, Value.category, tk_isR_ref, tk_isR_rf, tk_isR_null, h1, h2, e61, z, bsI, zb]
          exact to306 gg rr ρ S R _ _ _ _ hR (hnone hm hb)
        · have hj := hbn j rfl
          have zb : (0 : Int32) ≤ nI j := nI_pos' (by omega)
          have hin : vp_in (nI j) 10 := vp_in_nI (by omega) (by omega)
          have cj : (nI j).toNatClampNeg = j := nI_clamp (by omega)
          simp -implicitDefEqProofs [t_X12_rank_202, i_aload, i_iload, i_lload, i_istore, i_lstore, i_astore, i_iinc, i_push, i_getI, i_getJ, i_getR, i_putI, i_putJ, i_putR, i_iadd, i_isub, i_imul, i_iand, i_ior, i_ixor, i_ishl, i_ishr, i_iushr, i_idiv, i_irem, i_ladd, i_lsub, i_lmul, i_land, i_lor, i_lxor, i_ldiv, i_lrem, i_lshl, i_lshr, i_lcmp, i_ineg, i_lneg, i_i2l, i_l2i, i_i2b, i_i2c, i_dup, i_pop, i_dup_x1, i_dup2, i_icmp_eq, i_icmp_lt, i_icmp_ge, i_icmp_gt, i_icmp_le, i_if_eq, i_if_lt, i_if_ge, i_if_gt, i_if_le, i_goto, i_ifnull, i_iald, i_bald, i_zald, i_lald, i_aald, i_iast, i_bast, i_zast, i_last, i_alen, i_iret, i_lret, i_aret, i_vret, i_oinit, i_cast, i_tsw, i_cases, i_mmin, i_mmax, i_lmin, i_throw, nb0, nb1, nint, nby0, rf_s, rf_n, of_r, of_n, tk_orf_rf, tk_c2, tk_ls, Value.category, tk_isR_ref, tk_isR_rf, tk_isR_null, z_q_L_s_I, z_q_K_s_I, z_q_I_s_I, z_q_J_s_I, z_q_R_s_I, z_q_n_s_I, z_q_aI_s_I, z_q_aJ_s_I, z_q_aR_s_I, z_q_L_s_J, z_q_K_s_J, z_q_I_s_J, z_q_J_s_J, z_q_R_s_J, z_q_n_s_J, z_q_aI_s_J, z_q_aJ_s_J, z_q_aR_s_J, z_q_L_s_R, z_q_K_s_R, z_q_I_s_R, z_q_J_s_R, z_q_R_s_R, z_q_n_s_R, z_q_aI_s_R, z_q_aJ_s_R, z_q_aR_s_R, z_q_L_s_aI, z_q_K_s_aI, z_q_I_s_aI, z_q_J_s_aI, z_q_R_s_aI, z_q_n_s_aI, z_q_aI_s_aI, z_q_aJ_s_aI, z_q_aR_s_aI, z_q_L_s_aJ, z_q_K_s_aJ, z_q_I_s_aJ, z_q_J_s_aJ, z_q_R_s_aJ, z_q_n_s_aJ, z_q_aI_s_aJ, z_q_aJ_s_aJ, z_q_aR_s_aJ, z_q_L_s_aR, z_q_K_s_aR, z_q_I_s_aR, z_q_J_s_aR, z_q_R_s_aR, z_q_n_s_aR, z_q_aI_s_aR, z_q_aJ_s_aR, z_q_aR_s_aR, z_q_L_s_new, z_q_K_s_new, z_q_I_s_new, z_q_J_s_new, z_q_R_s_new, z_q_n_s_new, z_q_aI_s_new, z_q_aJ_s_new, z_q_aR_s_new, z_q_L_s_arr, z_q_K_s_arr, z_q_I_s_arr, z_q_J_s_arr, z_q_R_s_arr, z_q_n_s_arr, z_q_aI_s_arr, z_q_aJ_s_arr, z_q_aR_s_arr, h1, h2, e61, z, bsI, zb, a59, b59, c59, d59, x59, a60, b60, c60, d60, x60, n60, hin, cj]
          exact hsome j hm hb ρ _ R _ _ (RS.cast ((hR.iL (k := 59) rfl (vp_updL gg j (gg j + 1))).iL (k := 60) rfl (vp_updL rr j 0)) (by rw [iV_g, iV_r]))
      | succ t ih =>
        intro i b hi hbn hb
        refine hE.2.2.2.2.2.1 _ _ _ _ _ ?_
        have z : ¬ nI n ≤ nI i := nI_ge (by omega) (by omega)
        have ek : nI i + 1 = nI (i + 1) := nI_add i 1
        have hin : vp_in (nI i) 10 := vp_in_nI (by omega) (by omega)
        have ci : (nI i).toNatClampNeg = i := nI_clamp (by omega)
        rw [mostM] at hb
        have stay : mostMb rk rr r b i = false → E 202 [some (.ref m), some (.int r), some (.long al), none, x4, none, x6, none, some (.long more), none, some (.int (bsI b)), some (.int (nI (i + 1)))] [] S 0 0 := fun hq => by
          refine ih (i + 1) b (by omega) hbn ?_
          rw [hb, hq, if_neg (by decide)]
        have take : mostMb rk rr r b i = true → E 202 [some (.ref m), some (.int r), some (.long al), none, x4, none, x6, none, some (.long more), none, some (.int (nI i)), some (.int (nI (i + 1)))] [] S 0 0 := fun hq => by
          refine ih (i + 1) (some i) (by omega) (fun j hj => by cases hj; omega) ?_
          rw [hb, hq, if_pos rfl]
        rcases b with _ | j
        · have zb : (-1 : Int32) < 0 := by decide
          simp -implicitDefEqProofs [t_X12_rank_202, i_aload, i_iload, i_lload, i_istore, i_lstore, i_astore, i_iinc, i_push, i_getI, i_getJ, i_getR, i_putI, i_putJ, i_putR, i_iadd, i_isub, i_imul, i_iand, i_ior, i_ixor, i_ishl, i_ishr, i_iushr, i_idiv, i_irem, i_ladd, i_lsub, i_lmul, i_land, i_lor, i_lxor, i_ldiv, i_lrem, i_lshl, i_lshr, i_lcmp, i_ineg, i_lneg, i_i2l, i_l2i, i_i2b, i_i2c, i_dup, i_pop, i_dup_x1, i_dup2, i_icmp_eq, i_icmp_lt, i_icmp_ge, i_icmp_gt, i_icmp_le, i_if_eq, i_if_lt, i_if_ge, i_if_gt, i_if_le, i_goto, i_ifnull, i_iald, i_bald, i_zald, i_lald, i_aald, i_iast, i_bast, i_zast, i_last, i_alen, i_iret, i_lret, i_aret, i_vret, i_oinit, i_cast, i_tsw, i_cases, i_mmin, i_mmax, i_lmin, i_throw, nb0, nb1, nint, nby0, rf_s, rf_n, of_r, of_n, tk_orf_rf, tk_c2, tk_ls, Value.category, tk_isR_ref, tk_isR_rf, tk_isR_null, z_q_L_s_I, z_q_K_s_I, z_q_I_s_I, z_q_J_s_I, z_q_R_s_I, z_q_n_s_I, z_q_aI_s_I, z_q_aJ_s_I, z_q_aR_s_I, z_q_L_s_J, z_q_K_s_J, z_q_I_s_J, z_q_J_s_J, z_q_R_s_J, z_q_n_s_J, z_q_aI_s_J, z_q_aJ_s_J, z_q_aR_s_J, z_q_L_s_R, z_q_K_s_R, z_q_I_s_R, z_q_J_s_R, z_q_R_s_R, z_q_n_s_R, z_q_aI_s_R, z_q_aJ_s_R, z_q_aR_s_R, z_q_L_s_aI, z_q_K_s_aI, z_q_I_s_aI, z_q_J_s_aI, z_q_R_s_aI, z_q_n_s_aI, z_q_aI_s_aI, z_q_aJ_s_aI, z_q_aR_s_aI, z_q_L_s_aJ, z_q_K_s_aJ, z_q_I_s_aJ, z_q_J_s_aJ, z_q_R_s_aJ, z_q_n_s_aJ, z_q_aI_s_aJ, z_q_aJ_s_aJ, z_q_aR_s_aJ, z_q_L_s_aR, z_q_K_s_aR, z_q_I_s_aR, z_q_J_s_aR, z_q_R_s_aR, z_q_n_s_aR, z_q_aI_s_aR, z_q_aJ_s_aR, z_q_aR_s_aR, z_q_L_s_new, z_q_K_s_new, z_q_I_s_new, z_q_J_s_new, z_q_R_s_new, z_q_n_s_new, z_q_aI_s_new, z_q_aJ_s_new, z_q_aR_s_new, z_q_L_s_arr, z_q_K_s_arr, z_q_I_s_arr, z_q_J_s_arr, z_q_R_s_arr, z_q_n_s_arr, z_q_aI_s_arr, z_q_aJ_s_arr, z_q_aR_s_arr, h1, h2, e61, z, bsI, zb, a57, b57, c57, d57, x57, a60, b60, c60, d60, x60, hin, ci, ek, lg_cmp_le]
          refine ⟨fun hr => ⟨fun w2 => stay ?_, fun w2 => take ?_⟩, fun hr => stay ?_⟩
          · unfold mostMb
            simp [Int64.not_lt.mpr w2]
          · unfold mostMb
            simp [hr, w2]
          · unfold mostMb
            simp [hr]
        · have hj := hbn j rfl
          have zb : ¬ nI j < 0 := nI_pos (by omega)
          have hinj : vp_in (nI j) 10 := vp_in_nI (by omega) (by omega)
          have cj : (nI j).toNatClampNeg = j := nI_clamp (by omega)
          simp -implicitDefEqProofs [t_X12_rank_202, i_aload, i_iload, i_lload, i_istore, i_lstore, i_astore, i_iinc, i_push, i_getI, i_getJ, i_getR, i_putI, i_putJ, i_putR, i_iadd, i_isub, i_imul, i_iand, i_ior, i_ixor, i_ishl, i_ishr, i_iushr, i_idiv, i_irem, i_ladd, i_lsub, i_lmul, i_land, i_lor, i_lxor, i_ldiv, i_lrem, i_lshl, i_lshr, i_lcmp, i_ineg, i_lneg, i_i2l, i_l2i, i_i2b, i_i2c, i_dup, i_pop, i_dup_x1, i_dup2, i_icmp_eq, i_icmp_lt, i_icmp_ge, i_icmp_gt, i_icmp_le, i_if_eq, i_if_lt, i_if_ge, i_if_gt, i_if_le, i_goto, i_ifnull, i_iald, i_bald, i_zald, i_lald, i_aald, i_iast, i_bast, i_zast, i_last, i_alen, i_iret, i_lret, i_aret, i_vret, i_oinit, i_cast, i_tsw, i_cases, i_mmin, i_mmax, i_lmin, i_throw, nb0, nb1, nint, nby0, rf_s, rf_n, of_r, of_n, tk_orf_rf, tk_c2, tk_ls, Value.category, tk_isR_ref, tk_isR_rf, tk_isR_null, z_q_L_s_I, z_q_K_s_I, z_q_I_s_I, z_q_J_s_I, z_q_R_s_I, z_q_n_s_I, z_q_aI_s_I, z_q_aJ_s_I, z_q_aR_s_I, z_q_L_s_J, z_q_K_s_J, z_q_I_s_J, z_q_J_s_J, z_q_R_s_J, z_q_n_s_J, z_q_aI_s_J, z_q_aJ_s_J, z_q_aR_s_J, z_q_L_s_R, z_q_K_s_R, z_q_I_s_R, z_q_J_s_R, z_q_R_s_R, z_q_n_s_R, z_q_aI_s_R, z_q_aJ_s_R, z_q_aR_s_R, z_q_L_s_aI, z_q_K_s_aI, z_q_I_s_aI, z_q_J_s_aI, z_q_R_s_aI, z_q_n_s_aI, z_q_aI_s_aI, z_q_aJ_s_aI, z_q_aR_s_aI, z_q_L_s_aJ, z_q_K_s_aJ, z_q_I_s_aJ, z_q_J_s_aJ, z_q_R_s_aJ, z_q_n_s_aJ, z_q_aI_s_aJ, z_q_aJ_s_aJ, z_q_aR_s_aJ, z_q_L_s_aR, z_q_K_s_aR, z_q_I_s_aR, z_q_J_s_aR, z_q_R_s_aR, z_q_n_s_aR, z_q_aI_s_aR, z_q_aJ_s_aR, z_q_aR_s_aR, z_q_L_s_new, z_q_K_s_new, z_q_I_s_new, z_q_J_s_new, z_q_R_s_new, z_q_n_s_new, z_q_aI_s_new, z_q_aJ_s_new, z_q_aR_s_new, z_q_L_s_arr, z_q_K_s_arr, z_q_I_s_arr, z_q_J_s_arr, z_q_R_s_arr, z_q_n_s_arr, z_q_aI_s_arr, z_q_aJ_s_arr, z_q_aR_s_arr, h1, h2, e61, z, bsI, zb, a57, b57, c57, d57, x57, a60, b60, c60, d60, x60, hin, ci, hinj, cj, ek, lg_cmp_le]
          refine ⟨fun hr => ⟨fun w2 => stay ?_, fun w2 => ⟨fun w3 => stay ?_, fun w3 => take ?_⟩⟩, fun hr => stay ?_⟩
          · unfold mostMb
            simp [Int64.not_lt.mpr w2]
          · unfold mostMb
            simp [Int64.not_lt.mpr w3]
          · unfold mostMb
            simp [hr, w2, w3]
          · unfold mostMb
            simp [hr]
    refine hE.2.2.2.2.1 _ _ _ _ _ ?_
    simp -implicitDefEqProofs [t_X12_rank_189, i_aload, i_iload, i_lload, i_istore, i_lstore, i_astore, i_iinc, i_push, i_getI, i_getJ, i_getR, i_putI, i_putJ, i_putR, i_iadd, i_isub, i_imul, i_iand, i_ior, i_ixor, i_ishl, i_ishr, i_iushr, i_idiv, i_irem, i_ladd, i_lsub, i_lmul, i_land, i_lor, i_lxor, i_ldiv, i_lrem, i_lshl, i_lshr, i_lcmp, i_ineg, i_lneg, i_i2l, i_l2i, i_i2b, i_i2c, i_dup, i_pop, i_dup_x1, i_dup2, i_icmp_eq, i_icmp_lt, i_icmp_ge, i_icmp_gt, i_icmp_le, i_if_eq, i_if_lt, i_if_ge, i_if_gt, i_if_le, i_goto, i_ifnull, i_iald, i_bald, i_zald, i_lald, i_aald, i_iast, i_bast, i_zast, i_last, i_alen, i_iret, i_lret, i_aret, i_vret, i_oinit, i_cast, i_tsw, i_cases, i_mmin, i_mmax, i_lmin, i_throw, nb0, nb1, nint, nby0, rf_s, rf_n, of_r, of_n, tk_orf_rf, tk_c2, tk_ls, Value.category, tk_isR_ref, tk_isR_rf, tk_isR_null, lg_cmp_le]
    refine ⟨fun hm => ?_, fun hm => ?_⟩
    · exact to306 gg rr ρ S R _ _ _ _ hR (hle (Int64.not_lt.mpr hm))
    · exact loop hm n 0 none (by omega) (fun j hj => by cases hj) rfl
  have at189 : ∀ q gg rr more ρ S R x4 x6 x10 x11, cntP rk rr r n ≤ q → RS B m ρ S (rLk cc (cp 600 J.1)) R (iV V gg rr) → (∀ i, i < n → rk i = r → greedyM rk r n q gg rr more i = Gf i) → E 189 [some (.ref m), some (.int r), some (.long al), none, x4, none, x6, none, some (.long more), none, x10, x11] [] S 0 0 := by
    intro q
    induction q with
    | zero =>
      intro gg rr more ρ S R x4 x6 x10 x11 hc hR hgr
      refine one189 gg rr more ρ S R x4 x6 x10 x11 hR (fun _ => hgr) (fun _ _ => hgr) (fun j _ hj => ?_)
      obtain ⟨j1, j2, j3⟩ := mostM_ok (rk := rk) (rs := rr) (r := r) n 0 none rfl (fun j hj => by cases hj) j hj
      have := cntP_ge n j1 j2 j3
      omega
    | succ q ih =>
      intro gg rr more ρ S R x4 x6 x10 x11 hc hR hgr
      unfold greedyM at hgr
      refine one189 gg rr more ρ S R x4 x6 x10 x11 hR (fun hm => ?_) (fun hm hb => ?_) (fun j hm hj ρ S R x10 x11 hR2 => ?_)
      · rw [if_neg hm] at hgr
        exact hgr
      · rw [if_pos hm, hb] at hgr
        exact hgr
      · rw [if_pos hm, hj] at hgr
        obtain ⟨j1, j2, j3⟩ := mostM_ok (rk := rk) (rs := rr) (r := r) n 0 none rfl (fun j hj => by cases hj) j hj
        have := cntP_upd j2 j3 n j1
        exact ih _ _ _ ρ S R _ _ _ _ (by omega) hR2 hgr
  -- the parts
  have at64 : ¬ al = 0 → ∀ q i gone gg rr ρ S R, q + i = n → RS B m ρ S (rLk cc (cp 600 J.1)) R (iV V gg rr) → (∀ j, j < i → rk j = r → gg j = (if al ≤ J.2.1 then du j else du j * J.2.1 / al) ∧ rr j = (if al ≤ J.2.1 then 0 else du j * J.2.1 - du j * J.2.1 / al * al)) → (¬ al ≤ J.2.1 → leftM rk r (fun i => du i * J.2.1 / al) n 0 J.2.1 = leftM rk r (fun i => du i * J.2.1 / al) q i (J.2.1 - gone)) → E 64 [some (.ref m), some (.int r), some (.long al), none, some (.long J.2.1), none, some (.long gone), none, some (.int (nI i)), none, none, none] [] S 0 0 := by
    intro hal0 q
    induction q with
    | zero =>
      intro i gone gg rr ρ S R hi hR hg hleft
      refine hE.2.2.1 _ _ _ _ _ ?_
      obtain ⟨h1, h2, h3⟩ := id hR.1.1
      have e61 : q_I S 13 61 m = nI n := (hR.2.1.1 61).trans h61
      have z : nI n ≤ nI i := nI_le (by omega) (by omega)
      have hin : i = n := by omega
      simp -implicitDefEqProofs [t_X12_rank_64, i_aload, i_iload, i_lload, i_istore, i_lstore, i_astore, i_iinc, i_push, i_getI, i_getJ, i_getR, i_putI, i_putJ, i_putR, i_iadd, i_isub, i_imul, i_iand, i_ior, i_ixor, i_ishl, i_ishr, i_iushr, i_idiv, i_irem, i_ladd, i_lsub, i_lmul, i_land, i_lor, i_lxor, i_ldiv, i_lrem, i_lshl, i_lshr, i_lcmp, i_ineg, i_lneg, i_i2l, i_l2i, i_i2b, i_i2c, i_dup, i_pop, i_dup_x1, i_dup2, i_icmp_eq, i_icmp_lt, i_icmp_ge, i_icmp_gt, i_icmp_le, i_if_eq, i_if_lt, i_if_ge, i_if_gt, i_if_le, i_goto, i_ifnull, i_iald, i_bald, i_zald, i_lald, i_aald, i_iast, i_bast, i_zast, i_last, i_alen, i_iret, i_lret, i_aret, i_vret, i_oinit, i_cast, i_tsw, i_cases, i_mmin, i_mmax, i_lmin, i_throw, nb0, nb1, nint, nby0, rf_s, rf_n, of_r, of_n, tk_orf_rf, tk_c2, tk_ls, Value.category, tk_isR_ref, tk_isR_rf, tk_isR_null, h1, h2, e61, z, lg_cmp_lt]
      refine ⟨fun w => ?_, fun w => ?_⟩
      · have hna : ¬ al ≤ J.2.1 := Int64.not_le.mpr w
        have hle := hleft hna
        rw [leftM] at hle
        refine at189 n gg rr _ ρ S R _ _ _ _ (cntP_le n) hR (fun j hj hr => ?_)
        rw [← hGf, if_neg hna]
        unfold partsM
        rw [hle]
        refine greedyM_ext n _ _ _ _ _ (fun j hj hr => ?_) j hj hr
        obtain ⟨y1, y2⟩ := hg j (by omega) hr
        rw [if_neg hna] at y1 y2
        exact ⟨y1, y2⟩
      · have hga : al ≤ J.2.1 := w
        refine one189 gg rr 0 ρ S R _ _ _ _ hR (fun _ j hj hr => ?_) (fun hm => absurd hm Int64.lt_irrefl) (fun j hm => absurd hm Int64.lt_irrefl)
        rw [← hGf, if_pos hga]
        have := (hg j (by omega) hr).1
        rw [if_pos hga] at this
        exact this
    | succ q ih =>
      intro i gone gg rr ρ S R hi hR hg hleft
      refine hE.2.2.1 _ _ _ _ _ ?_
      obtain ⟨h1, h2, h3⟩ := id hR.1.1
      have e61 : q_I S 13 61 m = nI n := (hR.2.1.1 61).trans h61
      have z : ¬ nI n ≤ nI i := nI_ge (by omega) (by omega)
      have ek : nI i + 1 = nI (i + 1) := nI_add i 1
      have hin : vp_in (nI i) 10 := vp_in_nI (by omega) (by omega)
      have ci : (nI i).toNatClampNeg = i := nI_clamp (by omega)
      obtain ⟨a57, b57, c57, d57, -⟩ := hR.1.2 57 _ _ rfl
      have x57 := hR.2.1.2.2.1 57 _ _ rfl (by decide)
      obtain ⟨a58, b58, c58, d58, -⟩ := hR.1.2 58 _ _ rfl
      have x58 := hR.2.1.2.2.2 58 _ rfl
      obtain ⟨a59, b59, c59, d59, -⟩ := hR.1.2 59 _ _ rfl
      have x59 := hR.2.1.2.2.2 59 _ rfl
      obtain ⟨a60, b60, c60, d60, -⟩ := hR.1.2 60 _ _ rfl
      have x60 := hR.2.1.2.2.2 60 _ rfl
      have x57 : q_aI S (R 57) = rk := x57.trans h57
      have x58 : q_aJ S (R 58) = du := x58.trans h58
      have x59 : q_aJ S (R 59) = gg := x59
      have x60 : q_aJ S (R 60) = rr := x60
      have n60 := hR.1.ne (i := 60) (j := 59) rfl rfl (by decide)
      have n58 := hR.1.ne (i := 58) (j := 59) rfl rfl (by decide)
      have n59 := hR.1.ne (i := 59) (j := 60) rfl rfl (by decide)
      have step : ∀ (G1 R1 : Int64) gone', rk i = r → G1 = (if al ≤ J.2.1 then du i else du i * J.2.1 / al) → R1 = (if al ≤ J.2.1 then 0 else du i * J.2.1 - du i * J.2.1 / al * al) → gone' = gone + G1 → E 64 [some (.ref m), some (.int r), some (.long al), none, some (.long J.2.1), none, some (.long gone'), none, some (.int (nI (i + 1))), none, none, none] [] (s_aJ (s_aJ S (R 59) (vp_updL gg i G1)) (R 60) (vp_updL rr i R1)) 0 0 := by
        intro G1 R1 gone' hr hG1 hR1 hgo
        refine ih (i + 1) gone' (vp_updL gg i G1) (vp_updL rr i R1) ρ _ R (by omega) (RS.cast ((hR.iL (k := 59) rfl (vp_updL gg i G1)).iL (k := 60) rfl (vp_updL rr i R1)) (by rw [iV_g, iV_r])) (fun j hj hrj => ?_) (fun hna => ?_)
        · by_cases hji : j = i
          · subst hji
            rw [pk_uLs, pk_uLs]
            exact ⟨hG1, hR1⟩
          · rw [pk_uLn hji, pk_uLn hji]
            exact hg j (by omega) hrj
        · rw [hleft hna, leftM, if_pos hr, hgo, hG1, if_neg hna, sub3]
      by_cases hr : rk i = r
      · by_cases w : J.2.1 < al
        · have hna : ¬ al ≤ J.2.1 := Int64.not_le.mpr w
          simp -implicitDefEqProofs [t_X12_rank_64, i_aload, i_iload, i_lload, i_istore, i_lstore, i_astore, i_iinc, i_push, i_getI, i_getJ, i_getR, i_putI, i_putJ, i_putR, i_iadd, i_isub, i_imul, i_iand, i_ior, i_ixor, i_ishl, i_ishr, i_iushr, i_idiv, i_irem, i_ladd, i_lsub, i_lmul, i_land, i_lor, i_lxor, i_ldiv, i_lrem, i_lshl, i_lshr, i_lcmp, i_ineg, i_lneg, i_i2l, i_l2i, i_i2b, i_i2c, i_dup, i_pop, i_dup_x1, i_dup2, i_icmp_eq, i_icmp_lt, i_icmp_ge, i_icmp_gt, i_icmp_le, i_if_eq, i_if_lt, i_if_ge, i_if_gt, i_if_le, i_goto, i_ifnull, i_iald, i_bald, i_zald, i_lald, i_aald, i_iast, i_bast, i_zast, i_last, i_alen, i_iret, i_lret, i_aret, i_vret, i_oinit, i_cast, i_tsw, i_cases, i_mmin, i_mmax, i_lmin, i_throw, nb0, nb1, nint, nby0, rf_s, rf_n, of_r, of_n, tk_orf_rf, tk_c2, tk_ls, Value.category, tk_isR_ref, tk_isR_rf, tk_isR_null, h1, h2, e61, z, a57, b57, c57, d57, x57, a58, b58, c58, d58, x58, a59, b59, c59, d59, x59, a60, b60, c60, d60, x60, hin, ci, hr, lg_cmp_lt, w]
          refine ⟨hal0, ?_⟩
          refine hE.2.2.2.1 _ _ _ _ _ ?_
          simp -implicitDefEqProofs [t_X12_rank_122, i_aload, i_iload, i_lload, i_istore, i_lstore, i_astore, i_iinc, i_push, i_getI, i_getJ, i_getR, i_putI, i_putJ, i_putR, i_iadd, i_isub, i_imul, i_iand, i_ior, i_ixor, i_ishl, i_ishr, i_iushr, i_idiv, i_irem, i_ladd, i_lsub, i_lmul, i_land, i_lor, i_lxor, i_ldiv, i_lrem, i_lshl, i_lshr, i_lcmp, i_ineg, i_lneg, i_i2l, i_l2i, i_i2b, i_i2c, i_dup, i_pop, i_dup_x1, i_dup2, i_icmp_eq, i_icmp_lt, i_icmp_ge, i_icmp_gt, i_icmp_le, i_if_eq, i_if_lt, i_if_ge, i_if_gt, i_if_le, i_goto, i_ifnull, i_iald, i_bald, i_zald, i_lald, i_aald, i_iast, i_bast, i_zast, i_last, i_alen, i_iret, i_lret, i_aret, i_vret, i_oinit, i_cast, i_tsw, i_cases, i_mmin, i_mmax, i_lmin, i_throw, nb0, nb1, nint, nby0, rf_s, rf_n, of_r, of_n, tk_orf_rf, tk_c2, tk_ls, Value.category, tk_isR_ref, tk_isR_rf, tk_isR_null, z_q_L_s_I, z_q_K_s_I, z_q_I_s_I, z_q_J_s_I, z_q_R_s_I, z_q_n_s_I, z_q_aI_s_I, z_q_aJ_s_I, z_q_aR_s_I, z_q_L_s_J, z_q_K_s_J, z_q_I_s_J, z_q_J_s_J, z_q_R_s_J, z_q_n_s_J, z_q_aI_s_J, z_q_aJ_s_J, z_q_aR_s_J, z_q_L_s_R, z_q_K_s_R, z_q_I_s_R, z_q_J_s_R, z_q_R_s_R, z_q_n_s_R, z_q_aI_s_R, z_q_aJ_s_R, z_q_aR_s_R, z_q_L_s_aI, z_q_K_s_aI, z_q_I_s_aI, z_q_J_s_aI, z_q_R_s_aI, z_q_n_s_aI, z_q_aI_s_aI, z_q_aJ_s_aI, z_q_aR_s_aI, z_q_L_s_aJ, z_q_K_s_aJ, z_q_I_s_aJ, z_q_J_s_aJ, z_q_R_s_aJ, z_q_n_s_aJ, z_q_aI_s_aJ, z_q_aJ_s_aJ, z_q_aR_s_aJ, z_q_L_s_aR, z_q_K_s_aR, z_q_I_s_aR, z_q_J_s_aR, z_q_R_s_aR, z_q_n_s_aR, z_q_aI_s_aR, z_q_aJ_s_aR, z_q_aR_s_aR, z_q_L_s_new, z_q_K_s_new, z_q_I_s_new, z_q_J_s_new, z_q_R_s_new, z_q_n_s_new, z_q_aI_s_new, z_q_aJ_s_new, z_q_aR_s_new, z_q_L_s_arr, z_q_K_s_arr, z_q_I_s_arr, z_q_J_s_arr, z_q_R_s_arr, z_q_n_s_arr, z_q_aI_s_arr, z_q_aJ_s_arr, z_q_aR_s_arr, h1, h2, a57, b57, c57, d57, x57, a58, b58, c58, d58, x58, a59, b59, c59, d59, x59, a60, b60, c60, d60, x60, n60, n58, n59, hin, ci, lg_cmp_lt, w, ek, pk_uLs]
          refine ⟨hal0, ?_⟩
          exact step _ _ _ hr (by rw [if_neg hna]) (by rw [if_neg hna]) rfl
        · have hga : al ≤ J.2.1 := Int64.not_lt.mp w
          simp -implicitDefEqProofs [t_X12_rank_64, i_aload, i_iload, i_lload, i_istore, i_lstore, i_astore, i_iinc, i_push, i_getI, i_getJ, i_getR, i_putI, i_putJ, i_putR, i_iadd, i_isub, i_imul, i_iand, i_ior, i_ixor, i_ishl, i_ishr, i_iushr, i_idiv, i_irem, i_ladd, i_lsub, i_lmul, i_land, i_lor, i_lxor, i_ldiv, i_lrem, i_lshl, i_lshr, i_lcmp, i_ineg, i_lneg, i_i2l, i_l2i, i_i2b, i_i2c, i_dup, i_pop, i_dup_x1, i_dup2, i_icmp_eq, i_icmp_lt, i_icmp_ge, i_icmp_gt, i_icmp_le, i_if_eq, i_if_lt, i_if_ge, i_if_gt, i_if_le, i_goto, i_ifnull, i_iald, i_bald, i_zald, i_lald, i_aald, i_iast, i_bast, i_zast, i_last, i_alen, i_iret, i_lret, i_aret, i_vret, i_oinit, i_cast, i_tsw, i_cases, i_mmin, i_mmax, i_lmin, i_throw, nb0, nb1, nint, nby0, rf_s, rf_n, of_r, of_n, tk_orf_rf, tk_c2, tk_ls, Value.category, tk_isR_ref, tk_isR_rf, tk_isR_null, h1, h2, e61, z, a57, b57, c57, d57, x57, a58, b58, c58, d58, x58, a59, b59, c59, d59, x59, a60, b60, c60, d60, x60, hin, ci, hr, lg_cmp_lt, w]
          refine hE.2.2.2.1 _ _ _ _ _ ?_
          simp -implicitDefEqProofs [t_X12_rank_122, i_aload, i_iload, i_lload, i_istore, i_lstore, i_astore, i_iinc, i_push, i_getI, i_getJ, i_getR, i_putI, i_putJ, i_putR, i_iadd, i_isub, i_imul, i_iand, i_ior, i_ixor, i_ishl, i_ishr, i_iushr, i_idiv, i_irem, i_ladd, i_lsub, i_lmul, i_land, i_lor, i_lxor, i_ldiv, i_lrem, i_lshl, i_lshr, i_lcmp, i_ineg, i_lneg, i_i2l, i_l2i, i_i2b, i_i2c, i_dup, i_pop, i_dup_x1, i_dup2, i_icmp_eq, i_icmp_lt, i_icmp_ge, i_icmp_gt, i_icmp_le, i_if_eq, i_if_lt, i_if_ge, i_if_gt, i_if_le, i_goto, i_ifnull, i_iald, i_bald, i_zald, i_lald, i_aald, i_iast, i_bast, i_zast, i_last, i_alen, i_iret, i_lret, i_aret, i_vret, i_oinit, i_cast, i_tsw, i_cases, i_mmin, i_mmax, i_lmin, i_throw, nb0, nb1, nint, nby0, rf_s, rf_n, of_r, of_n, tk_orf_rf, tk_c2, tk_ls, Value.category, tk_isR_ref, tk_isR_rf, tk_isR_null, z_q_L_s_I, z_q_K_s_I, z_q_I_s_I, z_q_J_s_I, z_q_R_s_I, z_q_n_s_I, z_q_aI_s_I, z_q_aJ_s_I, z_q_aR_s_I, z_q_L_s_J, z_q_K_s_J, z_q_I_s_J, z_q_J_s_J, z_q_R_s_J, z_q_n_s_J, z_q_aI_s_J, z_q_aJ_s_J, z_q_aR_s_J, z_q_L_s_R, z_q_K_s_R, z_q_I_s_R, z_q_J_s_R, z_q_R_s_R, z_q_n_s_R, z_q_aI_s_R, z_q_aJ_s_R, z_q_aR_s_R, z_q_L_s_aI, z_q_K_s_aI, z_q_I_s_aI, z_q_J_s_aI, z_q_R_s_aI, z_q_n_s_aI, z_q_aI_s_aI, z_q_aJ_s_aI, z_q_aR_s_aI, z_q_L_s_aJ, z_q_K_s_aJ, z_q_I_s_aJ, z_q_J_s_aJ, z_q_R_s_aJ, z_q_n_s_aJ, z_q_aI_s_aJ, z_q_aJ_s_aJ, z_q_aR_s_aJ, z_q_L_s_aR, z_q_K_s_aR, z_q_I_s_aR, z_q_J_s_aR, z_q_R_s_aR, z_q_n_s_aR, z_q_aI_s_aR, z_q_aJ_s_aR, z_q_aR_s_aR, z_q_L_s_new, z_q_K_s_new, z_q_I_s_new, z_q_J_s_new, z_q_R_s_new, z_q_n_s_new, z_q_aI_s_new, z_q_aJ_s_new, z_q_aR_s_new, z_q_L_s_arr, z_q_K_s_arr, z_q_I_s_arr, z_q_J_s_arr, z_q_R_s_arr, z_q_n_s_arr, z_q_aI_s_arr, z_q_aJ_s_arr, z_q_aR_s_arr, h1, h2, a57, b57, c57, d57, x57, a58, b58, c58, d58, x58, a59, b59, c59, d59, x59, a60, b60, c60, d60, x60, n60, n58, n59, hin, ci, lg_cmp_lt, w, ek, pk_uLs]
          exact step _ _ _ hr (by rw [if_pos hga]) (by rw [if_pos hga]) rfl
      · simp -implicitDefEqProofs [t_X12_rank_64, i_aload, i_iload, i_lload, i_istore, i_lstore, i_astore, i_iinc, i_push, i_getI, i_getJ, i_getR, i_putI, i_putJ, i_putR, i_iadd, i_isub, i_imul, i_iand, i_ior, i_ixor, i_ishl, i_ishr, i_iushr, i_idiv, i_irem, i_ladd, i_lsub, i_lmul, i_land, i_lor, i_lxor, i_ldiv, i_lrem, i_lshl, i_lshr, i_lcmp, i_ineg, i_lneg, i_i2l, i_l2i, i_i2b, i_i2c, i_dup, i_pop, i_dup_x1, i_dup2, i_icmp_eq, i_icmp_lt, i_icmp_ge, i_icmp_gt, i_icmp_le, i_if_eq, i_if_lt, i_if_ge, i_if_gt, i_if_le, i_goto, i_ifnull, i_iald, i_bald, i_zald, i_lald, i_aald, i_iast, i_bast, i_zast, i_last, i_alen, i_iret, i_lret, i_aret, i_vret, i_oinit, i_cast, i_tsw, i_cases, i_mmin, i_mmax, i_lmin, i_throw, nb0, nb1, nint, nby0, rf_s, rf_n, of_r, of_n, tk_orf_rf, tk_c2, tk_ls, Value.category, tk_isR_ref, tk_isR_rf, tk_isR_null, h1, h2, e61, z, a57, b57, c57, d57, x57, a58, b58, c58, d58, x58, a59, b59, c59, d59, x59, a60, b60, c60, d60, x60, hin, ci, hr, ek]
        refine ih (i + 1) gone gg rr ρ S R (by omega) hR (fun j hj hrj => ?_) (fun hna => ?_)
        · by_cases hji : j = i
          · subst hji
            exact absurd hrj hr
          · exact hg j (by omega) hrj
        · rw [hleft hna, leftM, if_neg hr]
  -- the sum
  have at5 : ∀ q i a, q + i = n → dueM rk du r q i a = al → E 5 [some (.ref m), some (.int r), some (.long a), none, some (.int (nI i)), none, none, none, none, none, none, none] [] S 0 0 := by
    obtain ⟨h1, h2, h3⟩ := id hR.1.1
    have e61 : q_I S 13 61 m = nI n := (hR.2.1.1 61).trans h61
    have e43 : q_J S 13 43 m = J.2.1 := hR.2.1.2.1.trans hJn.2.1
    obtain ⟨a57, b57, c57, d57, -⟩ := hR.1.2 57 _ _ rfl
    have x57 := hR.2.1.2.2.1 57 _ _ rfl (by decide)
    obtain ⟨a58, b58, c58, d58, -⟩ := hR.1.2 58 _ _ rfl
    have x58 := hR.2.1.2.2.2 58 _ rfl
    have x57 : q_aI S (R 57) = rk := x57.trans h57
    have x58 : q_aJ S (R 58) = du := x58.trans h58
    intro q
    induction q with
    | zero =>
      intro i a hi ha
      refine hE.2.1 _ _ _ _ _ ?_
      rw [dueM] at ha
      subst ha
      have z : nI n ≤ nI i := nI_le (by omega) (by omega)
      simp -implicitDefEqProofs [t_X12_rank_5, i_aload, i_iload, i_lload, i_istore, i_lstore, i_astore, i_iinc, i_push, i_getI, i_getJ, i_getR, i_putI, i_putJ, i_putR, i_iadd, i_isub, i_imul, i_iand, i_ior, i_ixor, i_ishl, i_ishr, i_iushr, i_idiv, i_irem, i_ladd, i_lsub, i_lmul, i_land, i_lor, i_lxor, i_ldiv, i_lrem, i_lshl, i_lshr, i_lcmp, i_ineg, i_lneg, i_i2l, i_l2i, i_i2b, i_i2c, i_dup, i_pop, i_dup_x1, i_dup2, i_icmp_eq, i_icmp_lt, i_icmp_ge, i_icmp_gt, i_icmp_le, i_if_eq, i_if_lt, i_if_ge, i_if_gt, i_if_le, i_goto, i_ifnull, i_iald, i_bald, i_zald, i_lald, i_aald, i_iast, i_bast, i_zast, i_last, i_alen, i_iret, i_lret, i_aret, i_vret, i_oinit, i_cast, i_tsw, i_cases, i_mmin, i_mmax, i_lmin, i_throw, nb0, nb1, nint, nby0, rf_s, rf_n, of_r, of_n, tk_orf_rf, tk_c2, tk_ls, Value.category, tk_isR_ref, tk_isR_rf, tk_isR_null, h1, h2, e61, e43, z, lg_cmp_eq]
      refine ⟨fun w => ?_, fun w => ?_⟩
      · have hz := hz w
        have H2 := H V iF.rfl' (by rw [hz]; exact h58) (by rw [hz]; exact hJn)
        rw [hz] at H2
        exact H2 _ _ _ hR
      · exact at64 w n 0 0 (vL V 59) (vL V 60) ρ S R (by omega) (RS.cast hR (by
          unfold iV
          have wl : ∀ (V : vR) j, wL V j (vL V j) = V := fun V j => vR_ext (fun _ => rfl) rfl (fun _ => rfl) (fun t => by
            rw [vL_wL]
            split
            · rename_i h; rw [h]
            · rfl)
          rw [wl V 59, wl V 60])) (fun j hj => absurd hj (Nat.not_lt_zero j)) (fun _ => by rw [Int64.sub_zero])
    | succ q ih =>
      intro i a hi ha
      refine hE.2.1 _ _ _ _ _ ?_
      have z : ¬ nI n ≤ nI i := nI_ge (by omega) (by omega)
      have ek : nI i + 1 = nI (i + 1) := nI_add i 1
      have hin : vp_in (nI i) 10 := vp_in_nI (by omega) (by omega)
      have ci : (nI i).toNatClampNeg = i := nI_clamp (by omega)
      rw [dueM] at ha
      simp -implicitDefEqProofs [t_X12_rank_5, i_aload, i_iload, i_lload, i_istore, i_lstore, i_astore, i_iinc, i_push, i_getI, i_getJ, i_getR, i_putI, i_putJ, i_putR, i_iadd, i_isub, i_imul, i_iand, i_ior, i_ixor, i_ishl, i_ishr, i_iushr, i_idiv, i_irem, i_ladd, i_lsub, i_lmul, i_land, i_lor, i_lxor, i_ldiv, i_lrem, i_lshl, i_lshr, i_lcmp, i_ineg, i_lneg, i_i2l, i_l2i, i_i2b, i_i2c, i_dup, i_pop, i_dup_x1, i_dup2, i_icmp_eq, i_icmp_lt, i_icmp_ge, i_icmp_gt, i_icmp_le, i_if_eq, i_if_lt, i_if_ge, i_if_gt, i_if_le, i_goto, i_ifnull, i_iald, i_bald, i_zald, i_lald, i_aald, i_iast, i_bast, i_zast, i_last, i_alen, i_iret, i_lret, i_aret, i_vret, i_oinit, i_cast, i_tsw, i_cases, i_mmin, i_mmax, i_lmin, i_throw, nb0, nb1, nint, nby0, rf_s, rf_n, of_r, of_n, tk_orf_rf, tk_c2, tk_ls, Value.category, tk_isR_ref, tk_isR_rf, tk_isR_null, h1, h2, e61, z, a57, b57, c57, d57, x57, a58, b58, c58, d58, x58, hin, ci, ek]
      refine ⟨fun w => ?_, fun w => ?_⟩
      · rw [if_pos w] at ha
        exact ih (i + 1) _ (by omega) ha
      · rw [if_neg w, Int64.add_zero] at ha
        exact ih (i + 1) _ (by omega) ha
  simp -implicitDefEqProofs [t_X12_rank_0, i_aload, i_iload, i_lload, i_istore, i_lstore, i_astore, i_iinc, i_push, i_getI, i_getJ, i_getR, i_putI, i_putJ, i_putR, i_iadd, i_isub, i_imul, i_iand, i_ior, i_ixor, i_ishl, i_ishr, i_iushr, i_idiv, i_irem, i_ladd, i_lsub, i_lmul, i_land, i_lor, i_lxor, i_ldiv, i_lrem, i_lshl, i_lshr, i_lcmp, i_ineg, i_lneg, i_i2l, i_l2i, i_i2b, i_i2c, i_dup, i_pop, i_dup_x1, i_dup2, i_icmp_eq, i_icmp_lt, i_icmp_ge, i_icmp_gt, i_icmp_le, i_if_eq, i_if_lt, i_if_ge, i_if_gt, i_if_le, i_goto, i_ifnull, i_iald, i_bald, i_zald, i_lald, i_aald, i_iast, i_bast, i_zast, i_last, i_alen, i_iret, i_lret, i_aret, i_vret, i_oinit, i_cast, i_tsw, i_cases, i_mmin, i_mmax, i_lmin, i_throw, nb0, nb1, nint, nby0, rf_s, rf_n, of_r, of_n, tk_orf_rf, tk_c2, tk_ls, Value.category, tk_isR_ref, tk_isR_rf, tk_isR_null]
  exact at5 n 0 0 (by omega) hal
end RRANK

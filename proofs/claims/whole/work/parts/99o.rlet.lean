/-! THE REFERENCE: rents, letting -/
section RLET
variable {Z : tk_Z} {d mc ms : Nat} {QR : tk_R} {m hw k : Nat} {B : bS} {V V1 V2 : vR} {ρ : Nat → Nat} {S : tk_S} {R : Nat → Nat} {M : Mt}
/-- purses, leases, journal; the day on which rent is due of gate x is left open -/
def rKp (V : vR) (n : Nat) (re su : Nat → Int32) (x : Nat) (w : mK) : Prop := vL V 44 = w.1 ∧ (∀ g, g < n → (w.2.1 g = none → vA V 50 g = -1) ∧ ∀ f, w.2.1 g = some f → vA V 50 g = nI f ∧ vA V 51 g = re g ∧ vA V 52 g = su g ∧ (g ≠ x → vA V 53 g = nI (w.2.2.1 g)) ∧ vA V 54 g = nI (w.2.2.2.1 g)) ∧ rJn V w.2.2.2.2
def kF (V V' : vR) : Prop := (∀ i, i ≠ 42 → vI V' i = vI V i) ∧ (∀ i, (i < 38 ∨ 41 < i) → i ≠ 50 → i ≠ 53 → i ≠ 54 → vA V' i = vA V i) ∧ ∀ i, i ≠ 44 → vL V' i = vL V i
theorem kF.rfl' : kF V V := ⟨fun _ _ => rfl, fun _ _ _ _ _ => rfl, fun _ _ => rfl⟩
theorem kF.trans (h : kF V V1) (g : kF V1 V2) : kF V V2 := ⟨fun i a => (g.1 i a).trans (h.1 i a), fun i a b c e => (g.2.1 i a b c e).trans (h.2.1 i a b c e), fun i a => (g.2.2 i a).trans (h.2.2 i a)⟩
theorem kF.line {n : Nat} {kind who : Int32} {sum : Int64} {f1 f2 f3 f4 : Nat → Int32} : kF V (lineV V n kind who sum f1 f2 f3 f4) := by
  refine ⟨fun i hi => ?_, fun i hi _ _ _ => ?_, fun _ _ => rfl⟩
  · show upd _ 42 _ i = _
    rw [pk_un hi]
    rfl
  · have i1 : ¬ i = 38 := by omega
    have i2 : ¬ i = 39 := by omega
    have i3 : ¬ i = 40 := by omega
    have i4 : ¬ i = 41 := by omega
    simp [lineV, vA_wJ, vA_wI, vA_wA, i1, i2, i3, i4]
theorem kF.a {j : Nat} {f : Nat → Int32} (hj : j = 50 ∨ j = 53 ∨ j = 54) : kF V (wA V j f) := ⟨fun _ _ => rfl, fun i _ a b c => by rw [vA_wA, if_neg (by omega)], fun _ _ => rfl⟩
theorem kF.l {f : Nat → Int64} : kF V (wL V 44 f) := ⟨fun _ _ => rfl, fun _ _ _ _ _ => rfl, fun i a => by rw [vL_wL, if_neg a]⟩
theorem rJn.kp {J : mJ} (h : rJn V J) (h1 : vI V1 42 = vI V 42) (h2 : vJ V1 = vJ V) (h3 : ∀ i, 38 ≤ i → i ≤ 41 → vA V1 i = vA V i) : rJn V1 J := by
  obtain ⟨a1, a2, a3⟩ := h
  refine ⟨h1.trans a1, h2.trans a2, fun j hj => ?_⟩
  rw [h3 38 (by omega) (by omega), h3 39 (by omega) (by omega), h3 40 (by omega) (by omega), h3 41 (by omega) (by omega)]
  exact a3 j hj
set_option maxHeartbeats 8000000 in
theorem r_rentDue {td n g f cc : Nat} {re su : Nat → Int32} {w : mK} (hd : 2 ≤ d) (hR : RS B m ρ S (rLk cc (cp 600 w.2.2.2.2.1)) R V) (hk : rKp V n re su g w) (hn : n ≤ 8) (hg : g < n) (hls : w.2.1 g = some f) (hf : f < 8) (hdu : w.2.2.1 g = td) (h32 : vI V 32 = nI td) (hle : w.2.2.2.1 g ≤ 1000) (hJ : w.2.2.2.2.1 < 12000)
    (hmc : 4 * (lv 600 (keepM td re su g f w).2.2.2.2.1 - lv 600 w.2.2.2.2.1) ≤ mc) (hms : 80000 * (lv 600 (keepM td re su g f w).2.2.2.2.1 - lv 600 w.2.2.2.2.1) ≤ ms)
    (H : ∀ V', kF V V' → rKp V' n re su n (keepM td re su g f w) → okV B m (rLk cc (cp 600 (keepM td re su g f w).2.2.2.2.1)) QR none V') : tk_M Z mX12_rentDue d mc ms [.ref m, .int (nI g)] S QR tk_noX := by
  refine M_X12_rentDue (Nat.le_of_ble_eq_true rfl) (fun E hE => hE _ _ _ _ _ ?_)
  show t_X12_rentDue_0 Z d mc ms QR E [some (.ref m), some (.int (nI g)), none] [] S 0 0
  obtain ⟨mo, ls, du, le, J⟩ := w
  obtain ⟨p1, p2, p3⟩ := hk
  obtain ⟨h1, h2, h3⟩ := id hR.1.1
  obtain ⟨-, q⟩ := p2 g hg
  obtain ⟨q1, q2, q3, -, q5⟩ := q f hls
  have hls : ls g = some f := hls
  have hdu : du g = td := hdu
  have hle : le g ≤ 1000 := hle
  have hJ : J.1 < 12000 := hJ
  have q5 : vA V 54 g = nI (le g) := q5
  obtain ⟨a50, b50, c50, d50, -⟩ := hR.1.2 50 _ _ rfl
  have x50 := hR.2.1.2.2.1 50 _ _ rfl (by decide)
  obtain ⟨a51, b51, c51, d51, -⟩ := hR.1.2 51 _ _ rfl
  have x51 := hR.2.1.2.2.1 51 _ _ rfl (by decide)
  obtain ⟨a52, b52, c52, d52, -⟩ := hR.1.2 52 _ _ rfl
  have x52 := hR.2.1.2.2.1 52 _ _ rfl (by decide)
  obtain ⟨a54, b54, c54, d54, -⟩ := hR.1.2 54 _ _ rfl
  have x54 := hR.2.1.2.2.1 54 _ _ rfl (by decide)
  obtain ⟨a44, b44, c44, d44, -⟩ := hR.1.2 44 _ _ rfl
  have x44 := hR.2.1.2.2.2 44 _ rfl
  have x44 : q_aJ S (R 44) = mo := x44.trans p1
  have hin : vp_in (nI g) 8 := vp_in_nI (by omega) (by omega)
  have cg : (nI g).toNatClampNeg = g := nI_clamp (by omega)
  have hinf : vp_in (nI f) 8 := vp_in_nI (by omega) (by omega)
  have cf : (nI f).toNatClampNeg = f := nI_clamp (by omega)
  have z0 : nI (le g) = 0 ↔ le g = 0 := nI_eq (b := 0) (by omega) (by omega)
  have off : ∀ V', (∀ g, g < n → vA V' 51 g = vA V 51 g ∧ vA V' 52 g = vA V 52 g ∧ vA V' 53 g = vA V 53 g ∧ vA V' 54 g = vA V 54 g) → vA V' 50 = upd (vA V 50) g (-1) → ∀ g', g' < n → (va_up ls g none g' = none → vA V' 50 g' = -1) ∧ ∀ f', va_up ls g none g' = some f' → vA V' 50 g' = nI f' ∧ vA V' 51 g' = re g' ∧ vA V' 52 g' = su g' ∧ (g' ≠ n → vA V' 53 g' = nI (du g')) ∧ vA V' 54 g' = nI (le g') := by
    intro V' e1 e2 g' hg'
    obtain ⟨w1, w2, w3, w4⟩ := e1 g' hg'
    by_cases hgg : g' = g
    · subst hgg
      rw [e2, pk_us, va_up_self]
      exact ⟨fun _ => rfl, fun f' hf' => by cases hf'⟩
    · rw [e2, pk_un hgg, va_up_ne _ _ hgg, w1, w2, w3, w4]
      obtain ⟨y1, y2⟩ := p2 g' hg'
      refine ⟨y1, fun f' hf' => ?_⟩
      obtain ⟨t1, t2, t3, t4, t5⟩ := y2 f' hf'
      exact ⟨t1, t2, t3, fun _ => t4 hgg, t5⟩
  simp -implicitDefEqProofs [t_X12_rentDue_0, i_aload, i_iload, i_lload, i_istore, i_lstore, i_astore, i_iinc, i_push, i_getI, i_getJ, i_getR, i_putI, i_putJ, i_putR, i_iadd, i_isub, i_imul, i_iand, i_ior, i_ixor, i_ishl, i_ishr, i_iushr, i_idiv, i_irem, i_ladd, i_lsub, i_lmul, i_land, i_lor, i_lxor, i_ldiv, i_lrem, i_lshl, i_lshr, i_lcmp, i_ineg, i_lneg, i_i2l, i_l2i, i_i2b, i_i2c, i_dup, i_pop, i_dup_x1, i_dup2, i_icmp_eq, i_icmp_lt, i_icmp_ge, i_icmp_gt, i_icmp_le, i_if_eq, i_if_lt, i_if_ge, i_if_gt, i_if_le, i_goto, i_ifnull, i_iald, i_bald, i_zald, i_lald, i_aald, i_iast, i_bast, i_zast, i_last, i_alen, i_iret, i_lret, i_aret, i_vret, i_oinit, i_cast, i_tsw, i_cases, i_mmin, i_mmax, i_lmin, i_throw, nb0, nb1, nint, nby0, rf_s, rf_n, of_r, of_n, tk_orf_rf, tk_c2, tk_ls, Value.category, tk_isR_ref, tk_isR_rf, tk_isR_null, z_q_L_s_I, z_q_K_s_I, z_q_I_s_I, z_q_J_s_I, z_q_R_s_I, z_q_n_s_I, z_q_aI_s_I, z_q_aJ_s_I, z_q_aR_s_I, z_q_L_s_J, z_q_K_s_J, z_q_I_s_J, z_q_J_s_J, z_q_R_s_J, z_q_n_s_J, z_q_aI_s_J, z_q_aJ_s_J, z_q_aR_s_J, z_q_L_s_R, z_q_K_s_R, z_q_I_s_R, z_q_J_s_R, z_q_R_s_R, z_q_n_s_R, z_q_aI_s_R, z_q_aJ_s_R, z_q_aR_s_R, z_q_L_s_aI, z_q_K_s_aI, z_q_I_s_aI, z_q_J_s_aI, z_q_R_s_aI, z_q_n_s_aI, z_q_aI_s_aI, z_q_aJ_s_aI, z_q_aR_s_aI, z_q_L_s_aJ, z_q_K_s_aJ, z_q_I_s_aJ, z_q_J_s_aJ, z_q_R_s_aJ, z_q_n_s_aJ, z_q_aI_s_aJ, z_q_aJ_s_aJ, z_q_aR_s_aJ, z_q_L_s_aR, z_q_K_s_aR, z_q_I_s_aR, z_q_J_s_aR, z_q_R_s_aR, z_q_n_s_aR, z_q_aI_s_aR, z_q_aJ_s_aR, z_q_aR_s_aR, z_q_L_s_new, z_q_K_s_new, z_q_I_s_new, z_q_J_s_new, z_q_R_s_new, z_q_n_s_new, z_q_aI_s_new, z_q_aJ_s_new, z_q_aR_s_new, z_q_L_s_arr, z_q_K_s_arr, z_q_I_s_arr, z_q_J_s_arr, z_q_R_s_arr, z_q_n_s_arr, z_q_aI_s_arr, z_q_aJ_s_arr, z_q_aR_s_arr, h1, h2, a50, b50, c50, d50, x50, a51, b51, c51, d51, x51, a52, b52, c52, d52, x52, a54, b54, c54, d54, x54, a44, b44, c44, d44, x44, hin, cg, hinf, cf, q1, q2, q3, q5, lg_cmp_ge]
  refine ⟨fun w0 => ?_, fun w0 => ⟨fun w1 => ?_, fun w1 => ?_⟩⟩
  · have hl0 := z0.mp w0
    have hK : keepM td re su g f (mo, ls, du, le, J) = (vp_updL mo f (mo f + (su g).toInt64), va_up ls g none, du, le, J) := by
      unfold keepM
      rw [if_pos hl0]
    rw [hK] at H
    refine H (wA (wL V 44 (vp_updL mo f (mo f + (su g).toInt64))) 50 (upd (vA V 50) g (-1))) (kF.l.trans (kF.a (Or.inl rfl))) ?_ _ _ _ ((hR.iL (k := 44) rfl _).iA (k := 50) rfl _)
    exact ⟨rfl, off _ (fun _ _ => ⟨rfl, rfl, rfl, rfl⟩) rfl, p3⟩
  · have hl0 : ¬ le g = 0 := fun q => w0 (z0.mpr q)
    have hK : keepM td re su g f (mo, ls, du, le, J) = (vp_updL mo f (mo f - (re g).toInt64), ls, va_up du g (du g + 91), va_up le g (le g - 1), lineM J (nI td) 1 (nI g) (re g).toInt64) := by
      unfold keepM
      rw [if_neg hl0, if_neg (Int64.not_lt.mpr w1)]
    rw [hK] at H hmc hms
    have hR2 := hR.iL (k := 44) rfl (vp_updL mo f (mo f - (re g).toInt64))
    refine call_line (n := J.1) hd hR2 p3.1 hJ (by simpa [lineM] using hmc) (by simpa [lineM] using hms) (fun f1 f2 f3 f4 ρ' S' R' hf hR' => ?_)
    have hmc : 4 * (lv 600 (J.1 + 1) - lv 600 J.1) ≤ mc := hmc
    have hms : 80000 * (lv 600 (J.1 + 1) - lv 600 J.1) ≤ ms := hms
    generalize 4 * (lv 600 (J.1 + 1) - lv 600 J.1) = mc1 at *
    generalize 80000 * (lv 600 (J.1 + 1) - lv 600 J.1) = ms1 at *
    obtain ⟨u1, u2, u3⟩ := hR'.1.1
    obtain ⟨a53, b53, c53, d53, -⟩ := hR'.1.2 53 _ _ rfl
    obtain ⟨a54, b54, c54, d54, -⟩ := hR'.1.2 54 _ _ rfl
    have x53 : q_aI S' (R' 53) = vA V 53 := hR'.2.1.2.2.1 53 _ _ rfl (by decide)
    have x54 : q_aI S' (R' 54) = vA V 54 := hR'.2.1.2.2.1 54 _ _ rfl (by decide)
    have n53 := hR'.1.ne (i := 53) (j := 54) rfl rfl (by decide)
    have e32 : q_I S' 13 32 m = nI td := (hR'.2.1.1 32).trans h32
    obtain ⟨l, hl⟩ : ∃ l, le g = l + 1 := ⟨le g - 1, by omega⟩
    have em : nI (le g) - 1 = nI (le g - 1) := by
      rw [hl]
      exact nI_pred l
    have e91 : nI td + 91 = nI (td + 91) := nI_add td 91
    simp -implicitDefEqProofs [i_aload, i_iload, i_lload, i_istore, i_lstore, i_astore, i_iinc, i_push, i_getI, i_getJ, i_getR, i_putI, i_putJ, i_putR, i_iadd, i_isub, i_imul, i_iand, i_ior, i_ixor, i_ishl, i_ishr, i_iushr, i_idiv, i_irem, i_ladd, i_lsub, i_lmul, i_land, i_lor, i_lxor, i_ldiv, i_lrem, i_lshl, i_lshr, i_lcmp, i_ineg, i_lneg, i_i2l, i_l2i, i_i2b, i_i2c, i_dup, i_pop, i_dup_x1, i_dup2, i_icmp_eq, i_icmp_lt, i_icmp_ge, i_icmp_gt, i_icmp_le, i_if_eq, i_if_lt, i_if_ge, i_if_gt, i_if_le, i_goto, i_ifnull, i_iald, i_bald, i_zald, i_lald, i_aald, i_iast, i_bast, i_zast, i_last, i_alen, i_iret, i_lret, i_aret, i_vret, i_oinit, i_cast, i_tsw, i_cases, i_mmin, i_mmax, i_lmin, i_throw, nb0, nb1, nint, nby0, rf_s, rf_n, of_r, of_n, tk_orf_rf, tk_c2, tk_ls, Value.category, tk_isR_ref, tk_isR_rf, tk_isR_null, z_q_L_s_I, z_q_K_s_I, z_q_I_s_I, z_q_J_s_I, z_q_R_s_I, z_q_n_s_I, z_q_aI_s_I, z_q_aJ_s_I, z_q_aR_s_I, z_q_L_s_J, z_q_K_s_J, z_q_I_s_J, z_q_J_s_J, z_q_R_s_J, z_q_n_s_J, z_q_aI_s_J, z_q_aJ_s_J, z_q_aR_s_J, z_q_L_s_R, z_q_K_s_R, z_q_I_s_R, z_q_J_s_R, z_q_R_s_R, z_q_n_s_R, z_q_aI_s_R, z_q_aJ_s_R, z_q_aR_s_R, z_q_L_s_aI, z_q_K_s_aI, z_q_I_s_aI, z_q_J_s_aI, z_q_R_s_aI, z_q_n_s_aI, z_q_aI_s_aI, z_q_aJ_s_aI, z_q_aR_s_aI, z_q_L_s_aJ, z_q_K_s_aJ, z_q_I_s_aJ, z_q_J_s_aJ, z_q_R_s_aJ, z_q_n_s_aJ, z_q_aI_s_aJ, z_q_aJ_s_aJ, z_q_aR_s_aJ, z_q_L_s_aR, z_q_K_s_aR, z_q_I_s_aR, z_q_J_s_aR, z_q_R_s_aR, z_q_n_s_aR, z_q_aI_s_aR, z_q_aJ_s_aR, z_q_aR_s_aR, z_q_L_s_new, z_q_K_s_new, z_q_I_s_new, z_q_J_s_new, z_q_R_s_new, z_q_n_s_new, z_q_aI_s_new, z_q_aJ_s_new, z_q_aR_s_new, z_q_L_s_arr, z_q_K_s_arr, z_q_I_s_arr, z_q_J_s_arr, z_q_R_s_arr, z_q_n_s_arr, z_q_aI_s_arr, z_q_aJ_s_arr, z_q_aR_s_arr, u1, u2, a53, b53, c53, d53, x53, a54, b54, c54, d54, x54, n53, hin, cg, q5, em, e32, e91]
    refine ⟨hmc, hms, ?_⟩
    have hlv := kF.line (V := wL V 44 (vp_updL mo f (mo f - (re g).toInt64))) (n := J.1) (kind := 1) (who := nI g) (sum := (re g).toInt64) (f1 := f1) (f2 := f2) (f3 := f3) (f4 := f4)
    refine H _ (((kF.l.trans hlv).trans (kF.a (Or.inr (Or.inr rfl)))).trans (kF.a (Or.inr (Or.inl rfl)))) ?_ _ _ _ ((hR'.iA (k := 54) rfl (upd (vA V 54) g (nI (le g - 1)))).iA (k := 53) rfl (upd (vA V 53) g (nI (td + 91))))
    refine ⟨rfl, fun g' hg' => ?_, ?_⟩
    · show (ls g' = none → vA V 50 g' = -1) ∧ ∀ f', ls g' = some f' → vA V 50 g' = nI f' ∧ vA V 51 g' = re g' ∧ vA V 52 g' = su g' ∧ (g' ≠ n → upd (vA V 53) g (nI (td + 91)) g' = nI (va_up du g (du g + 91) g')) ∧ upd (vA V 54) g (nI (le g - 1)) g' = nI (va_up le g (le g - 1) g')
      obtain ⟨y1, y2⟩ := p2 g' hg'
      refine ⟨y1, fun f' hf' => ?_⟩
      obtain ⟨t1, t2, t3, t4, t5⟩ := y2 f' hf'
      refine ⟨t1, t2, t3, fun _ => ?_, ?_⟩
      · by_cases hgg : g' = g
        · subst hgg
          rw [pk_us, va_up_self, hdu]
        · rw [pk_un hgg, va_up_ne _ _ hgg]
          exact t4 hgg
      · by_cases hgg : g' = g
        · subst hgg
          rw [pk_us, va_up_self]
        · rw [pk_un hgg, va_up_ne _ _ hgg]
          exact t5
    · exact rJn.line (V := wL V 44 (vp_updL mo f (mo f - (re g).toInt64))) p3 h32 hf (l32 _)
  · have hl0 : ¬ le g = 0 := fun q => w0 (z0.mpr q)
    have hK : keepM td re su g f (mo, ls, du, le, J) = (mo, va_up ls g none, du, le, lineM J (nI td) 2 (nI g) (su g).toInt64) := by
      unfold keepM
      rw [if_neg hl0, if_pos w1]
    rw [hK] at H hmc hms
    refine call_line (n := J.1) hd hR p3.1 hJ (by simpa [lineM] using hmc) (by simpa [lineM] using hms) (fun f1 f2 f3 f4 ρ' S' R' hf hR' => ?_)
    have hmc : 4 * (lv 600 (J.1 + 1) - lv 600 J.1) ≤ mc := hmc
    have hms : 80000 * (lv 600 (J.1 + 1) - lv 600 J.1) ≤ ms := hms
    generalize 4 * (lv 600 (J.1 + 1) - lv 600 J.1) = mc1 at *
    generalize 80000 * (lv 600 (J.1 + 1) - lv 600 J.1) = ms1 at *
    obtain ⟨u1, u2, u3⟩ := hR'.1.1
    obtain ⟨a50, b50, c50, d50, -⟩ := hR'.1.2 50 _ _ rfl
    have x50 : q_aI S' (R' 50) = vA V 50 := hR'.2.1.2.2.1 50 _ _ rfl (by decide)
    simp -implicitDefEqProofs [i_aload, i_iload, i_lload, i_istore, i_lstore, i_astore, i_iinc, i_push, i_getI, i_getJ, i_getR, i_putI, i_putJ, i_putR, i_iadd, i_isub, i_imul, i_iand, i_ior, i_ixor, i_ishl, i_ishr, i_iushr, i_idiv, i_irem, i_ladd, i_lsub, i_lmul, i_land, i_lor, i_lxor, i_ldiv, i_lrem, i_lshl, i_lshr, i_lcmp, i_ineg, i_lneg, i_i2l, i_l2i, i_i2b, i_i2c, i_dup, i_pop, i_dup_x1, i_dup2, i_icmp_eq, i_icmp_lt, i_icmp_ge, i_icmp_gt, i_icmp_le, i_if_eq, i_if_lt, i_if_ge, i_if_gt, i_if_le, i_goto, i_ifnull, i_iald, i_bald, i_zald, i_lald, i_aald, i_iast, i_bast, i_zast, i_last, i_alen, i_iret, i_lret, i_aret, i_vret, i_oinit, i_cast, i_tsw, i_cases, i_mmin, i_mmax, i_lmin, i_throw, nb0, nb1, nint, nby0, rf_s, rf_n, of_r, of_n, tk_orf_rf, tk_c2, tk_ls, Value.category, tk_isR_ref, tk_isR_rf, tk_isR_null, z_q_L_s_I, z_q_K_s_I, z_q_I_s_I, z_q_J_s_I, z_q_R_s_I, z_q_n_s_I, z_q_aI_s_I, z_q_aJ_s_I, z_q_aR_s_I, z_q_L_s_J, z_q_K_s_J, z_q_I_s_J, z_q_J_s_J, z_q_R_s_J, z_q_n_s_J, z_q_aI_s_J, z_q_aJ_s_J, z_q_aR_s_J, z_q_L_s_R, z_q_K_s_R, z_q_I_s_R, z_q_J_s_R, z_q_R_s_R, z_q_n_s_R, z_q_aI_s_R, z_q_aJ_s_R, z_q_aR_s_R, z_q_L_s_aI, z_q_K_s_aI, z_q_I_s_aI, z_q_J_s_aI, z_q_R_s_aI, z_q_n_s_aI, z_q_aI_s_aI, z_q_aJ_s_aI, z_q_aR_s_aI, z_q_L_s_aJ, z_q_K_s_aJ, z_q_I_s_aJ, z_q_J_s_aJ, z_q_R_s_aJ, z_q_n_s_aJ, z_q_aI_s_aJ, z_q_aJ_s_aJ, z_q_aR_s_aJ, z_q_L_s_aR, z_q_K_s_aR, z_q_I_s_aR, z_q_J_s_aR, z_q_R_s_aR, z_q_n_s_aR, z_q_aI_s_aR, z_q_aJ_s_aR, z_q_aR_s_aR, z_q_L_s_new, z_q_K_s_new, z_q_I_s_new, z_q_J_s_new, z_q_R_s_new, z_q_n_s_new, z_q_aI_s_new, z_q_aJ_s_new, z_q_aR_s_new, z_q_L_s_arr, z_q_K_s_arr, z_q_I_s_arr, z_q_J_s_arr, z_q_R_s_arr, z_q_n_s_arr, z_q_aI_s_arr, z_q_aJ_s_arr, z_q_aR_s_arr, u1, u2, a50, b50, c50, d50, x50, hin, cg]
    refine ⟨hmc, hms, ?_⟩
    have hlv := kF.line (V := V) (n := J.1) (kind := 2) (who := nI g) (sum := (su g).toInt64) (f1 := f1) (f2 := f2) (f3 := f3) (f4 := f4)
    refine H _ (hlv.trans (kF.a (Or.inl rfl))) ?_ _ _ _ (hR'.iA (k := 50) rfl (upd (vA V 50) g (-1)))
    refine ⟨p1, off _ (fun _ _ => ⟨rfl, rfl, rfl, rfl⟩) rfl, ?_⟩
    exact rJn.line (V := V) p3 h32 hf (l32 _)
end RLET

/-! THE REFERENCE: the toll -/
section RTOLL
variable {Z : tk_Z} {d mc ms : Nat} {QR : tk_R} {m : Nat} {B : bS} {V V1 V2 : vR} {ρ : Nat → Nat} {S : tk_S} {R : Nat → Nat} {T : nT}
theorem wA_comm {i j : Nat} (V : vR) (f g : Nat → Int32) (h : i ≠ j) : wA (wA V i f) j g = wA (wA V j g) i f := by
  refine vR_ext (fun _ => rfl) rfl (fun k => ?_) (fun _ => rfl)
  simp only [vA_wA]
  by_cases h1 : k = i
  · have : ¬ k = j := fun z => h (h1.symm.trans z)
    simp [h1, h]
  · simp [h1]
theorem acV.ext {k w0 : Nat} {ps : List pC} (h : acV V k w0 ps) (e : ∀ i, i ≤ 16 → vA V1 i = vA V i) : acV V1 k w0 ps := fun i p hi => by
  obtain ⟨off, o1, o2⟩ := h i p hi
  exact ⟨off, o1, o2.ext (fun i' _ b => by rw [e i' (by omega)]) (fun j _ => by rw [e 15 (by omega), e 16 (by omega)]; exact ⟨rfl, rfl⟩)⟩
/-- what stands while a toll is found -/
def tlV (V : vR) (f h : Nat → Int32) (b : Int32) : vR := wI (wA (wA V 34 f) 36 h) 35 b
theorem tlV_a {f h h' : Nat → Int32} {b : Int32} : wA (tlV V f h b) 36 h' = tlV V f h' b := by
  unfold tlV
  rw [show wA (wI (wA (wA V 34 f) 36 h) 35 b) 36 h' = wI (wA (wA (wA V 34 f) 36 h) 36 h') 35 b from rfl, wA_wA]
theorem tlV_p {f f' h : Nat → Int32} {b : Int32} : wA (tlV V f h b) 34 f' = tlV V f' h b := by
  unfold tlV
  rw [show wA (wI (wA (wA V 34 f) 36 h) 35 b) 34 f' = wI (wA (wA (wA V 34 f) 36 h) 34 f') 35 b from rfl, wA_comm (wA V 34 f) _ _ (show (36 : Nat) ≠ 34 by decide), wA_wA]
theorem tlV_b {f h : Nat → Int32} {b b' : Int32} : wI (tlV V f h b) 35 b' = tlV V f h b' := by
  unfold tlV
  rw [wI_wI]
theorem tlV_lo {f h : Nat → Int32} {b : Int32} {i : Nat} (hi : i ≤ 16) : vA (tlV V f h b) i = vA V i := by
  have h1 : ¬ i = 36 := by omega
  have h2 : ¬ i = 34 := by omega
  simp [tlV, vA_wI, vA_wA, h1, h2]
theorem r_toll0 {a t g : Int32} (hR : RS B m ρ S T R V) (ha : a < 0) (H : okV B m T QR (some (.int 0)) (wI V 35 (-1))) : tk_M Z mX12_toll d mc ms [.ref m, .int a, .int t, .int g] S QR tk_noX := by
  refine M_X12_toll (Nat.le_of_ble_eq_true rfl) (fun E hE => hE.1 _ _ _ _ _ ?_)
  show t_X12_toll_0 Z d mc ms QR E [some (.ref m), some (.int a), some (.int t), some (.int g), none, none, none, none, none] [] S 0 0
  obtain ⟨h1, h2, h3⟩ := hR.1.1
  simp -implicitDefEqProofs [t_X12_toll_0, i_aload, i_iload, i_lload, i_istore, i_lstore, i_astore, i_iinc, i_push, i_getI, i_getJ, i_getR, i_putI, i_putJ, i_putR, i_iadd, i_isub, i_imul, i_iand, i_ior, i_ixor, i_ishl, i_ishr, i_iushr, i_idiv, i_irem, i_ladd, i_lsub, i_lmul, i_land, i_lor, i_lxor, i_ldiv, i_lrem, i_lshl, i_lshr, i_lcmp, i_ineg, i_lneg, i_i2l, i_l2i, i_i2b, i_i2c, i_dup, i_pop, i_dup_x1, i_dup2, i_icmp_eq, i_icmp_lt, i_icmp_ge, i_icmp_gt, i_icmp_le, i_if_eq, i_if_lt, i_if_ge, i_if_gt, i_if_le, i_goto, i_ifnull, i_iald, i_bald, i_zald, i_lald, i_aald, i_iast, i_bast, i_zast, i_last, i_alen, i_iret, i_lret, i_aret, i_vret, i_oinit, i_cast, i_tsw, i_cases, i_mmin, i_mmax, i_lmin, i_throw, nb0, nb1, nint, nby0, rf_s, rf_n, of_r, of_n, tk_orf_rf, tk_c2, tk_ls, Value.category, tk_isR_ref, tk_isR_rf, tk_isR_null, h1, h2, Int32.not_le.mpr ha]
  exact H _ _ _ (hR.iI 35 _)
set_option maxHeartbeats 16000000 in
theorem r_toll {ps : List pC} {cc cl a n t gt nG k : Nat} {kd wh be bi pa pd : Nat → Int32} (hd : 3 ≤ d) (hR : RS B m ρ S (rLk cc cl) R V) (hv : tvV V n kd wh be bi pa pd) (ht : t < n) (hG : vI V 31 = nI nG) (hG8 : nG ≤ 8) (hg : gt < 8)
    (ha : a < 12) (hn8 : vA V 8 a = nI ps.length) (hac : acV V k (40 * a) ps) (hps : ps.length ≤ 40) (hck : ∀ p ∈ ps, cOK p) (hkc : k ≤ cc) (hcc : cc ≤ 12800)
    (H : ∀ f h, okV B m (rLk cc cl) QR (some (.int (tollM ps (factM (bi t) (wh t) (be t) (kd t) (nI gt) (vI V 32) (pa (8 * t + gt))) (be t) (decide (pd (8 * t + gt) = vI V 32)) (anyD pd (vI V 32) (8 * t) nG)).1)) (tlV V f h (tollM ps (factM (bi t) (wh t) (be t) (kd t) (nI gt) (vI V 32) (pa (8 * t + gt))) (be t) (decide (pd (8 * t + gt) = vI V 32)) (anyD pd (vI V 32) (8 * t) nG)).2)) : tk_M Z mX12_toll d mc ms [.ref m, .int (nI a), .int (nI t), .int (nI gt)] S QR tk_noX := by
  refine M_X12_toll (Nat.le_of_ble_eq_true rfl) (fun E hE => hE.1 _ _ _ _ _ ?_)
  show t_X12_toll_0 Z d mc ms QR E [some (.ref m), some (.int (nI a)), some (.int (nI t)), some (.int (nI gt)), none, none, none, none, none] [] S 0 0
  obtain ⟨h1, h2, h3⟩ := hR.1.1
  unfold tollM at H
  generalize hF : factM (bi t) (wh t) (be t) (kd t) (nI gt) (vI V 32) (pa (8 * t + gt)) = F at H
  have hin12 : vp_in (nI a) 12 := vp_in_nI (by omega) (by omega)
  have ca : (nI a).toNatClampNeg = a := nI_clamp (by omega)
  have loop : ∀ q i kn times o al f h ρ S R x8, q + i = ps.length → RS B m ρ S (rLk cc cl) R (tlV V f h (-1)) → times ≤ i → (∀ j, j < times → h j = nI (40 * a + kn j) ∧ kn j < ps.length ∧ (ps.getD (kn j) pC0).1 = 258) → (o = -1 ∨ 0 ≤ o) → (al = -1 ∨ 0 ≤ al) →
      (∀ f h, okV B m (rLk cc cl) QR (some (.int (goM (fun i => holdsM F (ps.getD i pC0).2.2.2.2) (fun i => (ps.getD i pC0).1) (fun i => (ps.getD i pC0).2.1) (fun i => (ps.getD i pC0).2.2.1) (fun i => (ps.getD i pC0).2.2.2.1) (be t) (decide (pd (8 * t + gt) = vI V 32)) (anyD pd (vI V 32) (8 * t) nG) q i kn times o al).1)) (tlV V f h (goM (fun i => holdsM F (ps.getD i pC0).2.2.2.2) (fun i => (ps.getD i pC0).1) (fun i => (ps.getD i pC0).2.1) (fun i => (ps.getD i pC0).2.2.1) (fun i => (ps.getD i pC0).2.2.2.1) (be t) (decide (pd (8 * t + gt) = vI V 32)) (anyD pd (vI V 32) (8 * t) nG) q i kn times o al).2)) →
      E 23 [some (.ref m), some (.int (nI a)), some (.int (nI t)), some (.int (nI gt)), some (.int (nI times)), some (.int o), some (.int al), some (.int (nI i)), x8] [] S 0 0 := by
    intro q
    induction q with
    | zero =>
      intro i kn times o al f h ρ S R x8 hi hR _ _ _ _ H
      refine hE.2 _ _ _ _ _ ?_
      obtain ⟨u1, u2, u3⟩ := hR.1.1
      obtain ⟨a8, b8, c8, d8, -⟩ := hR.1.2 8 _ _ rfl
      have x8' := (hR.2.1.2.2.1 8 _ _ rfl (by decide)).trans (tlV_lo (by omega))
      have hi2 : i = ps.length := by omega
      subst hi2
      simp -implicitDefEqProofs [t_X12_toll_23, i_aload, i_iload, i_lload, i_istore, i_lstore, i_astore, i_iinc, i_push, i_getI, i_getJ, i_getR, i_putI, i_putJ, i_putR, i_iadd, i_isub, i_imul, i_iand, i_ior, i_ixor, i_ishl, i_ishr, i_iushr, i_idiv, i_irem, i_ladd, i_lsub, i_lmul, i_land, i_lor, i_lxor, i_ldiv, i_lrem, i_lshl, i_lshr, i_lcmp, i_ineg, i_lneg, i_i2l, i_l2i, i_i2b, i_i2c, i_dup, i_pop, i_dup_x1, i_dup2, i_icmp_eq, i_icmp_lt, i_icmp_ge, i_icmp_gt, i_icmp_le, i_if_eq, i_if_lt, i_if_ge, i_if_gt, i_if_le, i_goto, i_ifnull, i_iald, i_bald, i_zald, i_lald, i_aald, i_iast, i_bast, i_zast, i_last, i_alen, i_iret, i_lret, i_aret, i_vret, i_oinit, i_cast, i_tsw, i_cases, i_mmin, i_mmax, i_lmin, i_throw, nb0, nb1, nint, nby0, rf_s, rf_n, of_r, of_n, tk_orf_rf, tk_c2, tk_ls, Value.category, tk_isR_ref, tk_isR_rf, tk_isR_null, u1, u2, a8, b8, c8, d8, x8', hin12, ca, hn8]
      exact H f h _ _ _ hR
    | succ q ih =>
      intro i kn times o al f h ρ S R x8 hi hR htm hkn ho hal H
      refine hE.2 _ _ _ _ _ ?_
      obtain ⟨u1, u2, u3⟩ := hR.1.1
      obtain ⟨a8, b8, c8, d8, -⟩ := hR.1.2 8 _ _ rfl
      have x8' := (hR.2.1.2.2.1 8 _ _ rfl (by decide)).trans (tlV_lo (by omega))
      have hil : i < ps.length := by omega
      have z : ¬ nI ps.length ≤ nI i := nI_ge (by omega) (by omega)
      have e40 : (40 : Int32) * nI a + nI i = nI (40 * a + i) := by
        rw [show (40 : Int32) = nI 40 by rfl, show nI 40 * nI a = nI (40 * a) from (Int32.ofNat_mul 40 a).symm, nI_add]
      have ek : nI i + 1 = nI (i + 1) := nI_add i 1
      have ekt : nI times + 1 = nI (times + 1) := nI_add times 1
      have ei : ps[i]? = some (ps.getD i pC0) := by simp [List.getD, hil]
      have hac1 : ∀ f h b, acV (tlV V f h b) k (40 * a) ps := fun f h b => hac.ext (fun i hi => tlV_lo hi)
      have hv1 : ∀ f h b, tvV (tlV V f h b) n kd wh be bi pa pd := fun f h b => by
        obtain ⟨v1, v2, v3, v4, v5, v6, v7, v8⟩ := hv
        exact ⟨v1, v2, v3, v4, v5, v6, v7, v8⟩
      obtain ⟨off, o1, o2⟩ := hac1 f h (-1) i _ ei
      have hoi := hck _ (List.mem_of_getElem? ei)
      simp -implicitDefEqProofs [t_X12_toll_23, i_aload, i_iload, i_lload, i_istore, i_lstore, i_astore, i_iinc, i_push, i_getI, i_getJ, i_getR, i_putI, i_putJ, i_putR, i_iadd, i_isub, i_imul, i_iand, i_ior, i_ixor, i_ishl, i_ishr, i_iushr, i_idiv, i_irem, i_ladd, i_lsub, i_lmul, i_land, i_lor, i_lxor, i_ldiv, i_lrem, i_lshl, i_lshr, i_lcmp, i_ineg, i_lneg, i_i2l, i_l2i, i_i2b, i_i2c, i_dup, i_pop, i_dup_x1, i_dup2, i_icmp_eq, i_icmp_lt, i_icmp_ge, i_icmp_gt, i_icmp_le, i_if_eq, i_if_lt, i_if_ge, i_if_gt, i_if_le, i_goto, i_ifnull, i_iald, i_bald, i_zald, i_lald, i_aald, i_iast, i_bast, i_zast, i_last, i_alen, i_iret, i_lret, i_aret, i_vret, i_oinit, i_cast, i_tsw, i_cases, i_mmin, i_mmax, i_lmin, i_throw, nb0, nb1, nint, nby0, rf_s, rf_n, of_r, of_n, tk_orf_rf, tk_c2, tk_ls, Value.category, tk_isR_ref, tk_isR_rf, tk_isR_null, u1, u2, a8, b8, c8, d8, x8', hin12, ca, hn8, z, e40]
      refine ⟨by simp, u1, u2, by simp [Value.category], 2, 0, 0, by omega, by omega, by omega, ?_⟩
      refine r_holds (kd := kd) (wh := wh) (be := be) (bi := bi) (pa := pa) (pd := pd) (k := k) (by omega) hR (hv1 f h (-1)) ht hg (by omega) o2 o1 hkc hcc hoi.2.2.1 hoi.2.2.2 (fun f1 => ?_)
      have e32 : vI (tlV V f h (-1)) 32 = vI V 32 := rfl
      rw [e32, hF, tlV_p]
      clear hR u1 u2 u3 a8 b8 c8 d8 x8'
      intro S ρ R hR
      obtain ⟨u1, u2, u3⟩ := hR.1.1
      obtain ⟨a10, b10, c10, d10, -⟩ := hR.1.2 10 _ _ rfl
      have x10 := (hR.2.1.2.2.1 10 _ _ rfl (by decide)).trans (tlV_lo (by omega))
      have hin0 : vp_in (nI (40 * a + i)) 480 := vp_in_nI (by omega) (by omega)
      have cw : (nI (40 * a + i)).toNatClampNeg = 40 * a + i := nI_clamp (by omega)
      have hsr := o2.1
      rw [tlV_lo (by omega)] at hsr
      unfold goM at H
      by_cases hh : holdsM F (ps.getD i pC0).2.2.2.2 = true
      · simp only [if_pos hh] at H
        rw [if_pos hh]
        rcases hoi.1 with w | w | w | w
        · have hs : vA V 10 (40 * a + i) = 0 := by rw [hsr, w.1]; rfl
          simp only [if_pos w.1] at H
          simp -implicitDefEqProofs [i_aload, i_iload, i_lload, i_istore, i_lstore, i_astore, i_iinc, i_push, i_getI, i_getJ, i_getR, i_putI, i_putJ, i_putR, i_iadd, i_isub, i_imul, i_iand, i_ior, i_ixor, i_ishl, i_ishr, i_iushr, i_idiv, i_irem, i_ladd, i_lsub, i_lmul, i_land, i_lor, i_lxor, i_ldiv, i_lrem, i_lshl, i_lshr, i_lcmp, i_ineg, i_lneg, i_i2l, i_l2i, i_i2b, i_i2c, i_dup, i_pop, i_dup_x1, i_dup2, i_icmp_eq, i_icmp_lt, i_icmp_ge, i_icmp_gt, i_icmp_le, i_if_eq, i_if_lt, i_if_ge, i_if_gt, i_if_le, i_goto, i_ifnull, i_iald, i_bald, i_zald, i_lald, i_aald, i_iast, i_bast, i_zast, i_last, i_alen, i_iret, i_lret, i_aret, i_vret, i_oinit, i_cast, i_tsw, i_cases, i_mmin, i_mmax, i_lmin, i_throw, nb0, nb1, nint, nby0, rf_s, rf_n, of_r, of_n, tk_orf_rf, tk_c2, tk_ls, Value.category, tk_isR_ref, tk_isR_rf, tk_isR_null, u1, u2, a10, b10, c10, d10, x10, hin0, cw, hs, z_q_L_s_I, z_q_K_s_I, z_q_I_s_I, z_q_J_s_I, z_q_R_s_I, z_q_n_s_I, z_q_aI_s_I, z_q_aJ_s_I, z_q_aR_s_I, z_q_L_s_J, z_q_K_s_J, z_q_I_s_J, z_q_J_s_J, z_q_R_s_J, z_q_n_s_J, z_q_aI_s_J, z_q_aJ_s_J, z_q_aR_s_J, z_q_L_s_R, z_q_K_s_R, z_q_I_s_R, z_q_J_s_R, z_q_R_s_R, z_q_n_s_R, z_q_aI_s_R, z_q_aJ_s_R, z_q_aR_s_R, z_q_L_s_aI, z_q_K_s_aI, z_q_I_s_aI, z_q_J_s_aI, z_q_R_s_aI, z_q_n_s_aI, z_q_aI_s_aI, z_q_aJ_s_aI, z_q_aR_s_aI, z_q_L_s_aJ, z_q_K_s_aJ, z_q_I_s_aJ, z_q_J_s_aJ, z_q_R_s_aJ, z_q_n_s_aJ, z_q_aI_s_aJ, z_q_aJ_s_aJ, z_q_aR_s_aJ, z_q_L_s_aR, z_q_K_s_aR, z_q_I_s_aR, z_q_J_s_aR, z_q_R_s_aR, z_q_n_s_aR, z_q_aI_s_aR, z_q_aJ_s_aR, z_q_aR_s_aR, z_q_L_s_new, z_q_K_s_new, z_q_I_s_new, z_q_J_s_new, z_q_R_s_new, z_q_n_s_new, z_q_aI_s_new, z_q_aJ_s_new, z_q_aR_s_new, z_q_L_s_arr, z_q_K_s_arr, z_q_I_s_arr, z_q_J_s_arr, z_q_R_s_arr, z_q_n_s_arr, z_q_aI_s_arr, z_q_aJ_s_arr, z_q_aR_s_arr]
          exact H f1 h _ _ _ (RS.cast (hR.iI 35 _) tlV_b)
        · have hw : (ps.getD i pC0).1 = 257 := w.1
          have hs : vA V 10 (40 * a + i) = 1 ∨ vA V 10 (40 * a + i) = 2 ∨ vA V 10 (40 * a + i) = 3 := by
            rw [hsr, w.1]
            rcases w.2 with e | e | e
            · rw [e]; exact Or.inl rfl
            · rw [e]; exact Or.inr (Or.inl rfl)
            · rw [e]; exact Or.inr (Or.inr rfl)
          have n256 : ¬ (ps.getD i pC0).1 = 256 := by rw [hw]; decide
          simp only [if_neg n256, if_pos hw] at H
          have hR2 := RS.cast (hR.iI 35 (nI i)) tlV_b
          have go : ∀ d1, 1 ≤ d1 → tk_M Z mX12_paid d1 0 0 [.ref m, .int (nI (40 * a + i)), .int (nI t), .int (nI gt), .int (nI times), .int o, .int al] (s_I S 13 35 m (nI i)) (fun v S' => i_iret mc ms FieldType.int QR [some (.ref m), some (.int (nI a)), some (.int (nI t)), some (.int (nI gt)), some (.int (nI times)), some (.int o), some (.int al), some (.int (nI i)), some (.int (nI (40 * a + i)))] (v.toList ++ []) S' (0 + 0) (0 + 0)) tk_noX := by
            intro d1 hd1
            refine r_paid (kd := kd) (wh := wh) (be := be) (bi := bi) (pa := pa) (pd := pd) (k := k) (kn := kn) (nG := nG) hd1 hR2 (hv1 f1 h (nI i)) ht hG hG8 hg (hac1 f1 h (nI i)) hps (by omega) hil hck hw (by omega) (fun j hj => ?_) ho hal ?_ ?_
            · obtain ⟨k1, k2, k3⟩ := hkn j hj
              exact ⟨k1, k2, k3⟩
            · simp [tlV, vI_wI]
            · rw [show vI (tlV V f1 h (nI i)) 32 = vI V 32 from rfl, tlV_b]
              have hph : (if decide (pd (8 * t + gt) = vI V 32) = true then o else -1) = (if pd (8 * t + gt) = vI V 32 then o else -1) := by
                by_cases h0 : pd (8 * t + gt) = vI V 32
                · simp [h0]
                · simp [h0]
              have H' := H f1 h
              rw [hph] at H'
              intro S' ρ' R' hR'
              simp -implicitDefEqProofs [i_aload, i_iload, i_lload, i_istore, i_lstore, i_astore, i_iinc, i_push, i_getI, i_getJ, i_getR, i_putI, i_putJ, i_putR, i_iadd, i_isub, i_imul, i_iand, i_ior, i_ixor, i_ishl, i_ishr, i_iushr, i_idiv, i_irem, i_ladd, i_lsub, i_lmul, i_land, i_lor, i_lxor, i_ldiv, i_lrem, i_lshl, i_lshr, i_lcmp, i_ineg, i_lneg, i_i2l, i_l2i, i_i2b, i_i2c, i_dup, i_pop, i_dup_x1, i_dup2, i_icmp_eq, i_icmp_lt, i_icmp_ge, i_icmp_gt, i_icmp_le, i_if_eq, i_if_lt, i_if_ge, i_if_gt, i_if_le, i_goto, i_ifnull, i_iald, i_bald, i_zald, i_lald, i_aald, i_iast, i_bast, i_zast, i_last, i_alen, i_iret, i_lret, i_aret, i_vret, i_oinit, i_cast, i_tsw, i_cases, i_mmin, i_mmax, i_lmin, i_throw, nb0, nb1, nint, nby0, rf_s, rf_n, of_r, of_n, tk_orf_rf, tk_c2, tk_ls, Value.category, tk_isR_ref, tk_isR_rf, tk_isR_null]
              exact H' _ _ _ hR'
          rcases hs with hs | hs | hs
          · simp -implicitDefEqProofs [i_aload, i_iload, i_lload, i_istore, i_lstore, i_astore, i_iinc, i_push, i_getI, i_getJ, i_getR, i_putI, i_putJ, i_putR, i_iadd, i_isub, i_imul, i_iand, i_ior, i_ixor, i_ishl, i_ishr, i_iushr, i_idiv, i_irem, i_ladd, i_lsub, i_lmul, i_land, i_lor, i_lxor, i_ldiv, i_lrem, i_lshl, i_lshr, i_lcmp, i_ineg, i_lneg, i_i2l, i_l2i, i_i2b, i_i2c, i_dup, i_pop, i_dup_x1, i_dup2, i_icmp_eq, i_icmp_lt, i_icmp_ge, i_icmp_gt, i_icmp_le, i_if_eq, i_if_lt, i_if_ge, i_if_gt, i_if_le, i_goto, i_ifnull, i_iald, i_bald, i_zald, i_lald, i_aald, i_iast, i_bast, i_zast, i_last, i_alen, i_iret, i_lret, i_aret, i_vret, i_oinit, i_cast, i_tsw, i_cases, i_mmin, i_mmax, i_lmin, i_throw, nb0, nb1, nint, nby0, rf_s, rf_n, of_r, of_n, tk_orf_rf, tk_c2, tk_ls, Value.category, tk_isR_ref, tk_isR_rf, tk_isR_null, u1, u2, a10, b10, c10, d10, x10, hin0, cw, hs, z_q_L_s_I, z_q_K_s_I, z_q_I_s_I, z_q_J_s_I, z_q_R_s_I, z_q_n_s_I, z_q_aI_s_I, z_q_aJ_s_I, z_q_aR_s_I, z_q_L_s_J, z_q_K_s_J, z_q_I_s_J, z_q_J_s_J, z_q_R_s_J, z_q_n_s_J, z_q_aI_s_J, z_q_aJ_s_J, z_q_aR_s_J, z_q_L_s_R, z_q_K_s_R, z_q_I_s_R, z_q_J_s_R, z_q_R_s_R, z_q_n_s_R, z_q_aI_s_R, z_q_aJ_s_R, z_q_aR_s_R, z_q_L_s_aI, z_q_K_s_aI, z_q_I_s_aI, z_q_J_s_aI, z_q_R_s_aI, z_q_n_s_aI, z_q_aI_s_aI, z_q_aJ_s_aI, z_q_aR_s_aI, z_q_L_s_aJ, z_q_K_s_aJ, z_q_I_s_aJ, z_q_J_s_aJ, z_q_R_s_aJ, z_q_n_s_aJ, z_q_aI_s_aJ, z_q_aJ_s_aJ, z_q_aR_s_aJ, z_q_L_s_aR, z_q_K_s_aR, z_q_I_s_aR, z_q_J_s_aR, z_q_R_s_aR, z_q_n_s_aR, z_q_aI_s_aR, z_q_aJ_s_aR, z_q_aR_s_aR, z_q_L_s_new, z_q_K_s_new, z_q_I_s_new, z_q_J_s_new, z_q_R_s_new, z_q_n_s_new, z_q_aI_s_new, z_q_aJ_s_new, z_q_aR_s_new, z_q_L_s_arr, z_q_K_s_arr, z_q_I_s_arr, z_q_J_s_arr, z_q_R_s_arr, z_q_n_s_arr, z_q_aI_s_arr, z_q_aJ_s_arr, z_q_aR_s_arr]
            exact ⟨by simp, u1, u2, by simp [Value.category], 1, 0, 0, by omega, by omega, by omega, go 1 (Nat.le_refl 1)⟩
          · simp -implicitDefEqProofs [i_aload, i_iload, i_lload, i_istore, i_lstore, i_astore, i_iinc, i_push, i_getI, i_getJ, i_getR, i_putI, i_putJ, i_putR, i_iadd, i_isub, i_imul, i_iand, i_ior, i_ixor, i_ishl, i_ishr, i_iushr, i_idiv, i_irem, i_ladd, i_lsub, i_lmul, i_land, i_lor, i_lxor, i_ldiv, i_lrem, i_lshl, i_lshr, i_lcmp, i_ineg, i_lneg, i_i2l, i_l2i, i_i2b, i_i2c, i_dup, i_pop, i_dup_x1, i_dup2, i_icmp_eq, i_icmp_lt, i_icmp_ge, i_icmp_gt, i_icmp_le, i_if_eq, i_if_lt, i_if_ge, i_if_gt, i_if_le, i_goto, i_ifnull, i_iald, i_bald, i_zald, i_lald, i_aald, i_iast, i_bast, i_zast, i_last, i_alen, i_iret, i_lret, i_aret, i_vret, i_oinit, i_cast, i_tsw, i_cases, i_mmin, i_mmax, i_lmin, i_throw, nb0, nb1, nint, nby0, rf_s, rf_n, of_r, of_n, tk_orf_rf, tk_c2, tk_ls, Value.category, tk_isR_ref, tk_isR_rf, tk_isR_null, u1, u2, a10, b10, c10, d10, x10, hin0, cw, hs, z_q_L_s_I, z_q_K_s_I, z_q_I_s_I, z_q_J_s_I, z_q_R_s_I, z_q_n_s_I, z_q_aI_s_I, z_q_aJ_s_I, z_q_aR_s_I, z_q_L_s_J, z_q_K_s_J, z_q_I_s_J, z_q_J_s_J, z_q_R_s_J, z_q_n_s_J, z_q_aI_s_J, z_q_aJ_s_J, z_q_aR_s_J, z_q_L_s_R, z_q_K_s_R, z_q_I_s_R, z_q_J_s_R, z_q_R_s_R, z_q_n_s_R, z_q_aI_s_R, z_q_aJ_s_R, z_q_aR_s_R, z_q_L_s_aI, z_q_K_s_aI, z_q_I_s_aI, z_q_J_s_aI, z_q_R_s_aI, z_q_n_s_aI, z_q_aI_s_aI, z_q_aJ_s_aI, z_q_aR_s_aI, z_q_L_s_aJ, z_q_K_s_aJ, z_q_I_s_aJ, z_q_J_s_aJ, z_q_R_s_aJ, z_q_n_s_aJ, z_q_aI_s_aJ, z_q_aJ_s_aJ, z_q_aR_s_aJ, z_q_L_s_aR, z_q_K_s_aR, z_q_I_s_aR, z_q_J_s_aR, z_q_R_s_aR, z_q_n_s_aR, z_q_aI_s_aR, z_q_aJ_s_aR, z_q_aR_s_aR, z_q_L_s_new, z_q_K_s_new, z_q_I_s_new, z_q_J_s_new, z_q_R_s_new, z_q_n_s_new, z_q_aI_s_new, z_q_aJ_s_new, z_q_aR_s_new, z_q_L_s_arr, z_q_K_s_arr, z_q_I_s_arr, z_q_J_s_arr, z_q_R_s_arr, z_q_n_s_arr, z_q_aI_s_arr, z_q_aJ_s_arr, z_q_aR_s_arr]
            exact ⟨by simp, u1, u2, by simp [Value.category], 1, 0, 0, by omega, by omega, by omega, go 1 (Nat.le_refl 1)⟩
          · simp -implicitDefEqProofs [i_aload, i_iload, i_lload, i_istore, i_lstore, i_astore, i_iinc, i_push, i_getI, i_getJ, i_getR, i_putI, i_putJ, i_putR, i_iadd, i_isub, i_imul, i_iand, i_ior, i_ixor, i_ishl, i_ishr, i_iushr, i_idiv, i_irem, i_ladd, i_lsub, i_lmul, i_land, i_lor, i_lxor, i_ldiv, i_lrem, i_lshl, i_lshr, i_lcmp, i_ineg, i_lneg, i_i2l, i_l2i, i_i2b, i_i2c, i_dup, i_pop, i_dup_x1, i_dup2, i_icmp_eq, i_icmp_lt, i_icmp_ge, i_icmp_gt, i_icmp_le, i_if_eq, i_if_lt, i_if_ge, i_if_gt, i_if_le, i_goto, i_ifnull, i_iald, i_bald, i_zald, i_lald, i_aald, i_iast, i_bast, i_zast, i_last, i_alen, i_iret, i_lret, i_aret, i_vret, i_oinit, i_cast, i_tsw, i_cases, i_mmin, i_mmax, i_lmin, i_throw, nb0, nb1, nint, nby0, rf_s, rf_n, of_r, of_n, tk_orf_rf, tk_c2, tk_ls, Value.category, tk_isR_ref, tk_isR_rf, tk_isR_null, u1, u2, a10, b10, c10, d10, x10, hin0, cw, hs, z_q_L_s_I, z_q_K_s_I, z_q_I_s_I, z_q_J_s_I, z_q_R_s_I, z_q_n_s_I, z_q_aI_s_I, z_q_aJ_s_I, z_q_aR_s_I, z_q_L_s_J, z_q_K_s_J, z_q_I_s_J, z_q_J_s_J, z_q_R_s_J, z_q_n_s_J, z_q_aI_s_J, z_q_aJ_s_J, z_q_aR_s_J, z_q_L_s_R, z_q_K_s_R, z_q_I_s_R, z_q_J_s_R, z_q_R_s_R, z_q_n_s_R, z_q_aI_s_R, z_q_aJ_s_R, z_q_aR_s_R, z_q_L_s_aI, z_q_K_s_aI, z_q_I_s_aI, z_q_J_s_aI, z_q_R_s_aI, z_q_n_s_aI, z_q_aI_s_aI, z_q_aJ_s_aI, z_q_aR_s_aI, z_q_L_s_aJ, z_q_K_s_aJ, z_q_I_s_aJ, z_q_J_s_aJ, z_q_R_s_aJ, z_q_n_s_aJ, z_q_aI_s_aJ, z_q_aJ_s_aJ, z_q_aR_s_aJ, z_q_L_s_aR, z_q_K_s_aR, z_q_I_s_aR, z_q_J_s_aR, z_q_R_s_aR, z_q_n_s_aR, z_q_aI_s_aR, z_q_aJ_s_aR, z_q_aR_s_aR, z_q_L_s_new, z_q_K_s_new, z_q_I_s_new, z_q_J_s_new, z_q_R_s_new, z_q_n_s_new, z_q_aI_s_new, z_q_aJ_s_new, z_q_aR_s_new, z_q_L_s_arr, z_q_K_s_arr, z_q_I_s_arr, z_q_J_s_arr, z_q_R_s_arr, z_q_n_s_arr, z_q_aI_s_arr, z_q_aJ_s_arr, z_q_aR_s_arr]
            exact ⟨by simp, u1, u2, by simp [Value.category], 1, 0, 0, by omega, by omega, by omega, go 1 (Nat.le_refl 1)⟩
        · have hw : (ps.getD i pC0).1 = 258 := w.1
          have hs : vA V 10 (40 * a + i) = 4 := by rw [hsr, hw]; rfl
          have n256 : ¬ (ps.getD i pC0).1 = 256 := by rw [hw]; decide
          have n257 : ¬ (ps.getD i pC0).1 = 257 := by rw [hw]; decide
          simp only [if_neg n256, if_neg n257, if_pos hw] at H
          obtain ⟨a36, b36, c36, d36, -⟩ := hR.1.2 36 _ _ rfl
          have x36 : q_aI S (R 36) = h := hR.2.1.2.2.1 36 _ _ rfl (by decide)
          have hin40 : vp_in (nI times) 40 := vp_in_nI (by omega) (by omega)
          have ct : (nI times).toNatClampNeg = times := nI_clamp (by omega)
          simp -implicitDefEqProofs [i_aload, i_iload, i_lload, i_istore, i_lstore, i_astore, i_iinc, i_push, i_getI, i_getJ, i_getR, i_putI, i_putJ, i_putR, i_iadd, i_isub, i_imul, i_iand, i_ior, i_ixor, i_ishl, i_ishr, i_iushr, i_idiv, i_irem, i_ladd, i_lsub, i_lmul, i_land, i_lor, i_lxor, i_ldiv, i_lrem, i_lshl, i_lshr, i_lcmp, i_ineg, i_lneg, i_i2l, i_l2i, i_i2b, i_i2c, i_dup, i_pop, i_dup_x1, i_dup2, i_icmp_eq, i_icmp_lt, i_icmp_ge, i_icmp_gt, i_icmp_le, i_if_eq, i_if_lt, i_if_ge, i_if_gt, i_if_le, i_goto, i_ifnull, i_iald, i_bald, i_zald, i_lald, i_aald, i_iast, i_bast, i_zast, i_last, i_alen, i_iret, i_lret, i_aret, i_vret, i_oinit, i_cast, i_tsw, i_cases, i_mmin, i_mmax, i_lmin, i_throw, nb0, nb1, nint, nby0, rf_s, rf_n, of_r, of_n, tk_orf_rf, tk_c2, tk_ls, Value.category, tk_isR_ref, tk_isR_rf, tk_isR_null, u1, u2, a10, b10, c10, d10, x10, hin0, cw, hs, a36, b36, c36, d36, x36, hin40, ct, ek, ekt]
          refine ih (i + 1) (va_up kn times i) (times + 1) o al f1 (upd h times (nI (40 * a + i))) ρ _ R _ (by omega) (RS.cast (hR.iA (k := 36) rfl _) tlV_a) (by omega) (fun j hj => ?_) ho hal H
          by_cases hjt : j = times
          · subst hjt
            rw [pk_us, va_up_self]
            exact ⟨rfl, hil, hw⟩
          · rw [pk_un hjt, va_up_ne _ _ hjt]
            exact hkn j (by omega)
        · have hw : (ps.getD i pC0).1 = 259 := w.1
          have n256 : ¬ (ps.getD i pC0).1 = 256 := by rw [hw]; decide
          have n257 : ¬ (ps.getD i pC0).1 = 257 := by rw [hw]; decide
          have n258 : ¬ (ps.getD i pC0).1 = 258 := by rw [hw]; decide
          simp only [if_neg n256, if_neg n257, if_neg n258] at H
          have h0i : (0 : Int32) ≤ nI i := nI_pos' (by omega)
          rcases w.2 with e | e
          · have hs : vA V 10 (40 * a + i) = 5 := by rw [hsr, hw, e]; rfl
            simp only [if_neg (show ¬ (ps.getD i pC0).2.1 = 263 by rw [e]; decide)] at H
            rcases ho with rfl | ho
            · rw [if_pos rfl] at H
              simp -implicitDefEqProofs [i_aload, i_iload, i_lload, i_istore, i_lstore, i_astore, i_iinc, i_push, i_getI, i_getJ, i_getR, i_putI, i_putJ, i_putR, i_iadd, i_isub, i_imul, i_iand, i_ior, i_ixor, i_ishl, i_ishr, i_iushr, i_idiv, i_irem, i_ladd, i_lsub, i_lmul, i_land, i_lor, i_lxor, i_ldiv, i_lrem, i_lshl, i_lshr, i_lcmp, i_ineg, i_lneg, i_i2l, i_l2i, i_i2b, i_i2c, i_dup, i_pop, i_dup_x1, i_dup2, i_icmp_eq, i_icmp_lt, i_icmp_ge, i_icmp_gt, i_icmp_le, i_if_eq, i_if_lt, i_if_ge, i_if_gt, i_if_le, i_goto, i_ifnull, i_iald, i_bald, i_zald, i_lald, i_aald, i_iast, i_bast, i_zast, i_last, i_alen, i_iret, i_lret, i_aret, i_vret, i_oinit, i_cast, i_tsw, i_cases, i_mmin, i_mmax, i_lmin, i_throw, nb0, nb1, nint, nby0, rf_s, rf_n, of_r, of_n, tk_orf_rf, tk_c2, tk_ls, Value.category, tk_isR_ref, tk_isR_rf, tk_isR_null, u1, u2, a10, b10, c10, d10, x10, hin0, cw, hs, ek]
              exact ih (i + 1) kn times (nI i) al f1 h ρ S R _ (by omega) hR (by omega) hkn (Or.inr h0i) hal H
            · rw [if_neg (show ¬ o = -1 from fun z => by rw [z] at ho; exact absurd ho (by decide))] at H
              simp -implicitDefEqProofs [i_aload, i_iload, i_lload, i_istore, i_lstore, i_astore, i_iinc, i_push, i_getI, i_getJ, i_getR, i_putI, i_putJ, i_putR, i_iadd, i_isub, i_imul, i_iand, i_ior, i_ixor, i_ishl, i_ishr, i_iushr, i_idiv, i_irem, i_ladd, i_lsub, i_lmul, i_land, i_lor, i_lxor, i_ldiv, i_lrem, i_lshl, i_lshr, i_lcmp, i_ineg, i_lneg, i_i2l, i_l2i, i_i2b, i_i2c, i_dup, i_pop, i_dup_x1, i_dup2, i_icmp_eq, i_icmp_lt, i_icmp_ge, i_icmp_gt, i_icmp_le, i_if_eq, i_if_lt, i_if_ge, i_if_gt, i_if_le, i_goto, i_ifnull, i_iald, i_bald, i_zald, i_lald, i_aald, i_iast, i_bast, i_zast, i_last, i_alen, i_iret, i_lret, i_aret, i_vret, i_oinit, i_cast, i_tsw, i_cases, i_mmin, i_mmax, i_lmin, i_throw, nb0, nb1, nint, nby0, rf_s, rf_n, of_r, of_n, tk_orf_rf, tk_c2, tk_ls, Value.category, tk_isR_ref, tk_isR_rf, tk_isR_null, u1, u2, a10, b10, c10, d10, x10, hin0, cw, hs, ek, ho]
              exact ih (i + 1) kn times o al f1 h ρ S R _ (by omega) hR (by omega) hkn (Or.inr ho) hal H
          · have hs : vA V 10 (40 * a + i) = 6 := by rw [hsr, hw, e]; rfl
            simp only [if_pos e] at H
            rcases hal with rfl | hal
            · rw [if_pos rfl] at H
              simp -implicitDefEqProofs [i_aload, i_iload, i_lload, i_istore, i_lstore, i_astore, i_iinc, i_push, i_getI, i_getJ, i_getR, i_putI, i_putJ, i_putR, i_iadd, i_isub, i_imul, i_iand, i_ior, i_ixor, i_ishl, i_ishr, i_iushr, i_idiv, i_irem, i_ladd, i_lsub, i_lmul, i_land, i_lor, i_lxor, i_ldiv, i_lrem, i_lshl, i_lshr, i_lcmp, i_ineg, i_lneg, i_i2l, i_l2i, i_i2b, i_i2c, i_dup, i_pop, i_dup_x1, i_dup2, i_icmp_eq, i_icmp_lt, i_icmp_ge, i_icmp_gt, i_icmp_le, i_if_eq, i_if_lt, i_if_ge, i_if_gt, i_if_le, i_goto, i_ifnull, i_iald, i_bald, i_zald, i_lald, i_aald, i_iast, i_bast, i_zast, i_last, i_alen, i_iret, i_lret, i_aret, i_vret, i_oinit, i_cast, i_tsw, i_cases, i_mmin, i_mmax, i_lmin, i_throw, nb0, nb1, nint, nby0, rf_s, rf_n, of_r, of_n, tk_orf_rf, tk_c2, tk_ls, Value.category, tk_isR_ref, tk_isR_rf, tk_isR_null, u1, u2, a10, b10, c10, d10, x10, hin0, cw, hs, ek]
              exact ih (i + 1) kn times o (nI i) f1 h ρ S R _ (by omega) hR (by omega) hkn ho (Or.inr h0i) H
            · rw [if_neg (show ¬ al = -1 from fun z => by rw [z] at hal; exact absurd hal (by decide))] at H
              simp -implicitDefEqProofs [i_aload, i_iload, i_lload, i_istore, i_lstore, i_astore, i_iinc, i_push, i_getI, i_getJ, i_getR, i_putI, i_putJ, i_putR, i_iadd, i_isub, i_imul, i_iand, i_ior, i_ixor, i_ishl, i_ishr, i_iushr, i_idiv, i_irem, i_ladd, i_lsub, i_lmul, i_land, i_lor, i_lxor, i_ldiv, i_lrem, i_lshl, i_lshr, i_lcmp, i_ineg, i_lneg, i_i2l, i_l2i, i_i2b, i_i2c, i_dup, i_pop, i_dup_x1, i_dup2, i_icmp_eq, i_icmp_lt, i_icmp_ge, i_icmp_gt, i_icmp_le, i_if_eq, i_if_lt, i_if_ge, i_if_gt, i_if_le, i_goto, i_ifnull, i_iald, i_bald, i_zald, i_lald, i_aald, i_iast, i_bast, i_zast, i_last, i_alen, i_iret, i_lret, i_aret, i_vret, i_oinit, i_cast, i_tsw, i_cases, i_mmin, i_mmax, i_lmin, i_throw, nb0, nb1, nint, nby0, rf_s, rf_n, of_r, of_n, tk_orf_rf, tk_c2, tk_ls, Value.category, tk_isR_ref, tk_isR_rf, tk_isR_null, u1, u2, a10, b10, c10, d10, x10, hin0, cw, hs, ek, hal]
              exact ih (i + 1) kn times o al f1 h ρ S R _ (by omega) hR (by omega) hkn ho (Or.inr hal) H
      · simp only [if_neg hh] at H
        rw [if_neg hh]
        simp -implicitDefEqProofs [i_aload, i_iload, i_lload, i_istore, i_lstore, i_astore, i_iinc, i_push, i_getI, i_getJ, i_getR, i_putI, i_putJ, i_putR, i_iadd, i_isub, i_imul, i_iand, i_ior, i_ixor, i_ishl, i_ishr, i_iushr, i_idiv, i_irem, i_ladd, i_lsub, i_lmul, i_land, i_lor, i_lxor, i_ldiv, i_lrem, i_lshl, i_lshr, i_lcmp, i_ineg, i_lneg, i_i2l, i_l2i, i_i2b, i_i2c, i_dup, i_pop, i_dup_x1, i_dup2, i_icmp_eq, i_icmp_lt, i_icmp_ge, i_icmp_gt, i_icmp_le, i_if_eq, i_if_lt, i_if_ge, i_if_gt, i_if_le, i_goto, i_ifnull, i_iald, i_bald, i_zald, i_lald, i_aald, i_iast, i_bast, i_zast, i_last, i_alen, i_iret, i_lret, i_aret, i_vret, i_oinit, i_cast, i_tsw, i_cases, i_mmin, i_mmax, i_lmin, i_throw, nb0, nb1, nint, nby0, rf_s, rf_n, of_r, of_n, tk_orf_rf, tk_c2, tk_ls, Value.category, tk_isR_ref, tk_isR_rf, tk_isR_null, ek]
        exact ih (i + 1) kn times o al f1 h ρ S R _ (by omega) hR (by omega) hkn ho hal H
  have z0 : (0 : Int32) ≤ nI a := nI_pos' (by omega)
  have := loop ps.length 0 (fun _ => 0) 0 (-1) (-1) (vA V 34) (vA V 36) ρ (s_I S 13 35 m (-1)) R none (by omega) (RS.cast (hR.iI 35 (-1)) (by unfold tlV; rw [wA_id, wA_id])) (Nat.le_refl _) (fun j hj => absurd hj (Nat.not_lt_zero j)) (Or.inl rfl) (Or.inl rfl) H
  simp -implicitDefEqProofs [t_X12_toll_0, i_aload, i_iload, i_lload, i_istore, i_lstore, i_astore, i_iinc, i_push, i_getI, i_getJ, i_getR, i_putI, i_putJ, i_putR, i_iadd, i_isub, i_imul, i_iand, i_ior, i_ixor, i_ishl, i_ishr, i_iushr, i_idiv, i_irem, i_ladd, i_lsub, i_lmul, i_land, i_lor, i_lxor, i_ldiv, i_lrem, i_lshl, i_lshr, i_lcmp, i_ineg, i_lneg, i_i2l, i_l2i, i_i2b, i_i2c, i_dup, i_pop, i_dup_x1, i_dup2, i_icmp_eq, i_icmp_lt, i_icmp_ge, i_icmp_gt, i_icmp_le, i_if_eq, i_if_lt, i_if_ge, i_if_gt, i_if_le, i_goto, i_ifnull, i_iald, i_bald, i_zald, i_lald, i_aald, i_iast, i_bast, i_zast, i_last, i_alen, i_iret, i_lret, i_aret, i_vret, i_oinit, i_cast, i_tsw, i_cases, i_mmin, i_mmax, i_lmin, i_throw, nb0, nb1, nint, nby0, rf_s, rf_n, of_r, of_n, tk_orf_rf, tk_c2, tk_ls, Value.category, tk_isR_ref, tk_isR_rf, tk_isR_null, h1, h2, z0]
  exact this
end RTOLL

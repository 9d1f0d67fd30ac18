/-! THE READER: whole acts -/
section RDN
variable {Z : tk_Z} {d mc ms : Nat} {S : tk_S} {QR : tk_R} {a qt qs len : Nat} {g : Nat → Int32}
/-- the shared empty row of ArrayList is none of the pool's -/
theorem tk_M.outer {y : tk_Y} {av : List Value} {QX : String → tk_S → Prop} (h : Z.2.2.2.2.2.1 ∉ q_L S → tk_M Z y d mc ms av S QR QX) : tk_M Z y d mc ms av S QR QX := by
  by_cases hZ : Z.2.2.2.2.2.1 ∈ q_L S
  · intro sz p e _ _ _ s m args below _ _ hp _
    exfalso
    obtain ⟨-, -, -, hO⟩ := hp
    obtain ⟨c, -, -, -, -, -, -, hn⟩ := hO.2.2.2.1
    obtain ⟨k, hk⟩ := tk_get (Y := Z.2.2.1) hZ
    exact hn (Or.inl ⟨k, _, hk⟩)
  · exact h hZ
/-- what readAct leaves -/
def aRes (Z : tk_Z) (QR : tk_R) (S : tk_S) (a qt qs len : Nat) (g : Nat → Int32) (l : Nat) : (List pC) ⊕ (Int32 × Nat × Nat) → Prop
  | .inl ps => ∀ (S' : tk_S) (f st : Nat → Nat) (e : Nat), fr S S' [a, qs, l] → gr S S' → rdB S' a qt qs len g → isL Z 4 S' l ps.length f e → e ∉ q_L S → (∀ i p, ps[i]? = some p → isCl S' (f i) (st i) p ∧ f i ∉ q_L S ∧ st i ∉ q_L S) → q_I S' 8 3 a = -1 → QR (some (.int 1)) S'
  | .inr (kd, pl, _) => ∀ S', fr S S' [a, qs, l] → gr S S' → rdB S' a qt qs len g → q_I S' 8 2 a = kd → q_I S' 8 3 a = nI pl → QR (some (.int 0)) S'
theorem isL.f_ne {k l n e : Nat} {f : Nat → Nat} (h : isL Z k S l n f e) {x : Nat} (hx : q_K S x ≠ k) {i : Nat} (hi : i < n) : f i ≠ x := fun z => hx (by rw [← z]; exact (h.2.2.2.2.2.2.1 i hi).2)
/-- the clauses so far -/
def clsIn (S0 S : tk_S) (f st : Nat → Nat) (ps : List pC) : Prop := ∀ i p, ps[i]? = some p → isCl S (f i) (st i) p ∧ f i ∉ q_L S0 ∧ st i ∉ q_L S0
set_option maxHeartbeats 4000000 in
theorem m_readAct {ra l : Nat} {f0 : Nat → Nat} (hd : 57 ≤ d) (ha : a ∈ q_L S) (hk : q_K S a = 8) (hr : q_R S 8 0 a = some qt) (hqt : qt ∈ q_L S) (hqtk : q_K S qt = 14) (hqtn : q_n S qt = 2000) (hlen : len ≤ 2000) (hr9 : q_R S 8 9 a = some qs) (hqs : qs ∈ q_L S) (hqsk : q_K S qs = 15) (hqsn : q_n S qs = 2000) (hg : q_aI S qt = g)
    (hra : ra ∈ q_L S ∧ q_K S ra = 1 ∧ q_R S 1 1 ra = some l) (hl : isL Z 4 S l 0 f0 Z.2.2.2.2.2.1) (hmc : 164 ≤ mc) (hms : 6000 ≤ ms)
    (H : aRes Z QR S a qt qs len g l (pActs g len 2000 0 (tkStart g len 0))) : tk_M Z mX7_readAct d mc ms [.ref a, .ref ra, .int (nI len)] S QR tk_noX := by
  refine tk_M.outer (fun hZ => ?_)
  refine M_X7_readAct (Nat.le_of_ble_eq_true rfl) (fun E hE => hE.1 _ _ _ _ _ ?_)
  have loop : ∀ m i S' n f st e s ps0 cs ss, m + i = 2000 → fr S S' [a, qs, l] → gr S S' → rdB S' a qt qs len g → rdAt S' a g len s → isL Z 4 S' l n f e → e ∉ q_L S → ps0.length = n → clsIn S S' f st ps0 → n ≤ 40 → cs ≤ 4 * n → ss ≤ 93 * n + s →
      (match pActs g len m n s with
        | .inl ps => aRes Z QR S a qt qs len g l (.inl (ps0 ++ ps))
        | .inr (kd, pl, j) => aRes Z QR S a qt qs len g l (.inr (kd, pl, j))) → E 26 [some (.ref a), some (.ref ra), some (.int (nI len)), some (.int (nI i))] [] S' cs ss := by
    intro m
    induction m with
    | zero =>
      intro i S' n f st e s ps0 cs ss hi hfr hgr hB hA hl' he hpn hcl hn hcs hss H
      refine hE.2 _ _ _ _ _ ?_
      have z : (2000 : Int32) ≤ nI i := nI_le (a := 2000) (by omega) (by omega)
      have z' : ¬ nI i < 2000 := Int32.not_lt.mpr z
      simp -implicitDefEqProofs [t_X7_readAct_26, i_aload, i_iload, i_lload, i_istore, i_lstore, i_astore, i_iinc, i_push, i_getI, i_getJ, i_getR, i_putI, i_putJ, i_putR, i_iadd, i_isub, i_imul, i_iand, i_ior, i_ixor, i_ishl, i_ishr, i_iushr, i_idiv, i_irem, i_ladd, i_lsub, i_lmul, i_land, i_lor, i_lxor, i_ldiv, i_lrem, i_lshl, i_lshr, i_lcmp, i_ineg, i_lneg, i_i2l, i_l2i, i_i2b, i_i2c, i_dup, i_pop, i_dup_x1, i_dup2, i_icmp_eq, i_icmp_lt, i_icmp_ge, i_icmp_gt, i_icmp_le, i_if_eq, i_if_lt, i_if_ge, i_if_gt, i_if_le, i_goto, i_ifnull, i_iald, i_bald, i_zald, i_lald, i_aald, i_iast, i_bast, i_zast, i_last, i_alen, i_iret, i_lret, i_aret, i_vret, i_oinit, i_cast, i_tsw, i_cases, i_mmin, i_mmax, i_lmin, i_throw, nb0, nb1, nint, nby0, rf_s, rf_n, of_r, of_n, tk_orf_rf, tk_c2, tk_ls, Value.category, tk_isR_ref, tk_isR_rf, tk_isR_null, z, z']
      unfold pActs at H
      dsimp only at H
      rw [List.append_nil] at H
      have hle := hA.2.2.2.2.1
      exact ⟨by omega, by omega, H S' f st e hfr hgr hB (hpn ▸ hl') he hcl hA.2.2.2.2.2⟩
    | succ m ih =>
      intro i S' n f st e s ps0 cs ss hi hfr hgr hB hA hl' he hpn hcl hn hcs hss H
      refine hE.2 _ _ _ _ _ ?_
      have z' : nI i < 2000 := nI_lt (b := 2000) (by omega) (by omega)
      have z : ¬ (2000 : Int32) ≤ nI i := Int32.not_le.mpr z'
      have e1 : nI i + 1 = nI (i + 1) := nI_add i 1
      have hle := hA.2.2.2.2.1
      unfold pActs at H
      simp -implicitDefEqProofs [t_X7_readAct_26, i_aload, i_iload, i_lload, i_istore, i_lstore, i_astore, i_iinc, i_push, i_getI, i_getJ, i_getR, i_putI, i_putJ, i_putR, i_iadd, i_isub, i_imul, i_iand, i_ior, i_ixor, i_ishl, i_ishr, i_iushr, i_idiv, i_irem, i_ladd, i_lsub, i_lmul, i_land, i_lor, i_lxor, i_ldiv, i_lrem, i_lshl, i_lshr, i_lcmp, i_ineg, i_lneg, i_i2l, i_l2i, i_i2b, i_i2c, i_dup, i_pop, i_dup_x1, i_dup2, i_icmp_eq, i_icmp_lt, i_icmp_ge, i_icmp_gt, i_icmp_le, i_if_eq, i_if_lt, i_if_ge, i_if_gt, i_if_le, i_goto, i_ifnull, i_iald, i_bald, i_zald, i_lald, i_aald, i_iast, i_bast, i_zast, i_last, i_alen, i_iret, i_lret, i_aret, i_vret, i_oinit, i_cast, i_tsw, i_cases, i_mmin, i_mmax, i_lmin, i_throw, nb0, nb1, nint, nby0, rf_s, rf_n, of_r, of_n, tk_orf_rf, tk_c2, tk_ls, Value.category, tk_isR_ref, tk_isR_rf, tk_isR_null, z, z', hB.1.1, hB.1.2.1, hA.2.1]
      refine ⟨fun w => ?_, fun w => ?_⟩
      · rw [if_pos w] at H
        dsimp only at H
        rw [List.append_nil] at H
        exact ⟨by omega, by omega, H S' f st e hfr hgr hB (hpn ▸ hl') he hcl hA.2.2.2.2.2⟩
      · rw [if_neg w] at H
        have hgd := pClause_good g (n := n) hle
        have nK : ∀ b k, b ∈ q_L S → q_K S b = k → k ≠ 8 → k ≠ 15 → k ≠ 0 → b ∉ [a, qs, l] := fun b k hb h1 h2 h3 h4 => by
          simp only [List.mem_cons, List.not_mem_nil, or_false]
          rintro (z | z | z)
          · rw [z, hk] at h1; exact h2 h1.symm
          · rw [z, hqsk] at h1; exact h3 h1.symm
          · rw [z, hl.2.1] at h1; exact h4 h1.symm
        have sr := hfr ra hra.1 (nK ra 1 hra.1 hra.2.1 (by decide) (by decide) (by decide))
        refine ⟨by simp, hB.1.1, hB.1.2.1, by simp [Value.category], 56, 4, 15 + 2 * n + pcN (pClause g len n s), by omega, by omega, ?_, ?_⟩
        · generalize pClause g len n s = q at hgd
          rcases q with ⟨s', p⟩ | ⟨kd, pl, j⟩
          · obtain ⟨b1, b2, b3, b4⟩ := hgd
            simp only [pcN]
            omega
          · simp only [pcN]
            omega
        refine m_readClause (Nat.le_refl 56) hB hA ⟨sr.1, sr.2.1.trans hra.2.1, (sr.2.2.2.2.1 1 1).trans hra.2.2⟩ hl' hn (Nat.le_refl 4) (Nat.le_refl _) ?_
        generalize pClause g len n s = q at H hgd
        rcases q with ⟨s', p⟩ | ⟨kd, pl, j⟩
        · obtain ⟨b1, b2, b3, b4⟩ := hgd
          intro S1 x st1 e2 f1 g1 hB1 hA1 hx hst hc1 hl1 he2
          dsimp only at H
          simp -implicitDefEqProofs [i_aload, i_iload, i_lload, i_istore, i_lstore, i_astore, i_iinc, i_push, i_getI, i_getJ, i_getR, i_putI, i_putJ, i_putR, i_iadd, i_isub, i_imul, i_iand, i_ior, i_ixor, i_ishl, i_ishr, i_iushr, i_idiv, i_irem, i_ladd, i_lsub, i_lmul, i_land, i_lor, i_lxor, i_ldiv, i_lrem, i_lshl, i_lshr, i_lcmp, i_ineg, i_lneg, i_i2l, i_l2i, i_i2b, i_i2c, i_dup, i_pop, i_dup_x1, i_dup2, i_icmp_eq, i_icmp_lt, i_icmp_ge, i_icmp_gt, i_icmp_le, i_if_eq, i_if_lt, i_if_ge, i_if_gt, i_if_le, i_goto, i_ifnull, i_iald, i_bald, i_zald, i_lald, i_aald, i_iast, i_bast, i_zast, i_last, i_alen, i_iret, i_lret, i_aret, i_vret, i_oinit, i_cast, i_tsw, i_cases, i_mmin, i_mmax, i_lmin, i_throw, nb0, nb1, nint, nby0, rf_s, rf_n, of_r, of_n, tk_orf_rf, tk_c2, tk_ls, Value.category, tk_isR_ref, tk_isR_rf, tk_isR_null, e1]
          have hxn : x ∉ q_L S := fun z => hx (hgr x z)
          have hstn : st1 ∉ q_L S := fun z => hst (hgr st1 z)
          have fr1 : fr S S1 [a, qs, l] := fun b hb hn => (hfr b hb hn).trans (f1 b (hgr b hb) (fun z => by
            simp only [List.mem_cons, List.not_mem_nil, or_false] at z hn
            rcases z with z | z | z | z
            · exact hn (Or.inl z)
            · exact hn (Or.inr (Or.inl z))
            · exact hn (Or.inr (Or.inr z))
            · exact he (z ▸ hb)))
          refine ih (i + 1) S1 (n + 1) (va_up f n x) (va_up st n st1) e2 s' (ps0 ++ [p]) _ _ (by omega) fr1 (hgr.trans g1) hB1 hA1 hl1 ?_ (by simp [hpn]) ?_ (by omega) (by omega) (by simp only [pcN]; omega) ?_
          · rcases he2 with ⟨y1, -⟩ | y1
            · rw [y1]; exact he
            · exact fun z => y1 (hgr e2 z)
          · intro k p' hk'
            by_cases hkn : k < n
            · rw [List.getElem?_append_left (by omega)] at hk'
              obtain ⟨c1, c2, c3⟩ := hcl k p' hk'
              rw [va_up_ne _ _ (by omega), va_up_ne _ _ (by omega)]
              refine ⟨c1.same (f1 _ c1.1 ?_) (f1 _ c1.2.2.2.2.1 ?_), c2, c3⟩
              · have hkf := c1.2.1
                simp only [List.mem_cons, List.not_mem_nil, or_false]
                rintro (z | z | z | z)
                · rw [z, hB.1.2.1] at hkf; cases hkf
                · rw [z, hB.2.1.2.2.1] at hkf; cases hkf
                · rw [z, hl'.2.1] at hkf; cases hkf
                · rcases hl'.2.2.2.2.2.2.2 with ⟨y1, y2⟩ | ⟨y1, y2, -⟩
                  · omega
                  · rw [z, y2] at hkf; cases hkf
              · have hkf := c1.2.2.2.2.2.1
                simp only [List.mem_cons, List.not_mem_nil, or_false]
                rintro (z | z | z | z)
                · rw [z, hB.1.2.1] at hkf; cases hkf
                · exact c3 (z ▸ hqs)
                · rw [z, hl'.2.1] at hkf; cases hkf
                · rcases hl'.2.2.2.2.2.2.2 with ⟨y1, y2⟩ | ⟨y1, y2, -⟩
                  · omega
                  · rw [z, y2] at hkf; cases hkf
            · have hkn2 : k = n := by
                have := (List.getElem?_eq_some_iff.mp hk').1
                simp at this
                omega
              subst hkn2
              rw [List.getElem?_append_right (by omega)] at hk'
              have hp' : p = p' := by simpa [hpn] using hk'
              subst hp'
              rw [va_up_self, va_up_self]
              exact ⟨hc1, hxn, hstn⟩
          · generalize pActs g len m (n + 1) s' = q2 at H
            rcases q2 with ps | ⟨kd, pl, j⟩
            · dsimp only at H ⊢
              rw [List.append_assoc]
              exact H
            · dsimp only at H ⊢
              exact H
        · dsimp only at H
          intro S1 f1 g1 hB1 h2 h3
          simp -implicitDefEqProofs [i_aload, i_iload, i_lload, i_istore, i_lstore, i_astore, i_iinc, i_push, i_getI, i_getJ, i_getR, i_putI, i_putJ, i_putR, i_iadd, i_isub, i_imul, i_iand, i_ior, i_ixor, i_ishl, i_ishr, i_iushr, i_idiv, i_irem, i_ladd, i_lsub, i_lmul, i_land, i_lor, i_lxor, i_ldiv, i_lrem, i_lshl, i_lshr, i_lcmp, i_ineg, i_lneg, i_i2l, i_l2i, i_i2b, i_i2c, i_dup, i_pop, i_dup_x1, i_dup2, i_icmp_eq, i_icmp_lt, i_icmp_ge, i_icmp_gt, i_icmp_le, i_if_eq, i_if_lt, i_if_ge, i_if_gt, i_if_le, i_goto, i_ifnull, i_iald, i_bald, i_zald, i_lald, i_aald, i_iast, i_bast, i_zast, i_last, i_alen, i_iret, i_lret, i_aret, i_vret, i_oinit, i_cast, i_tsw, i_cases, i_mmin, i_mmax, i_lmin, i_throw, nb0, nb1, nint, nby0, rf_s, rf_n, of_r, of_n, tk_orf_rf, tk_c2, tk_ls, Value.category, tk_isR_ref, tk_isR_rf, tk_isR_null]
          refine ⟨by omega, by simp only [pcN]; omega, H S1 (fun b hb hn => (hfr b hb hn).trans (f1 b (hgr b hb) (fun z => hn (by
            simp only [List.mem_cons, List.not_mem_nil, or_false] at z ⊢
            exact z.elim Or.inl (fun z => Or.inr (Or.inl z)))))) (hgr.trans g1) hB1 h2 h3⟩
  show t_X7_readAct_0 Z d mc ms QR E [some (.ref a), some (.ref ra), some (.int (nI len)), none] [] S 0 0
  simp -implicitDefEqProofs [t_X7_readAct_0, i_aload, i_iload, i_lload, i_istore, i_lstore, i_astore, i_iinc, i_push, i_getI, i_getJ, i_getR, i_putI, i_putJ, i_putR, i_iadd, i_isub, i_imul, i_iand, i_ior, i_ixor, i_ishl, i_ishr, i_iushr, i_idiv, i_irem, i_ladd, i_lsub, i_lmul, i_land, i_lor, i_lxor, i_ldiv, i_lrem, i_lshl, i_lshr, i_lcmp, i_ineg, i_lneg, i_i2l, i_l2i, i_i2b, i_i2c, i_dup, i_pop, i_dup_x1, i_dup2, i_icmp_eq, i_icmp_lt, i_icmp_ge, i_icmp_gt, i_icmp_le, i_if_eq, i_if_lt, i_if_ge, i_if_gt, i_if_le, i_goto, i_ifnull, i_iald, i_bald, i_zald, i_lald, i_aald, i_iast, i_bast, i_zast, i_last, i_alen, i_iret, i_lret, i_aret, i_vret, i_oinit, i_cast, i_tsw, i_cases, i_mmin, i_mmax, i_lmin, i_throw, nb0, nb1, nint, nby0, rf_s, rf_n, of_r, of_n, tk_orf_rf, tk_c2, tk_ls, Value.category, tk_isR_ref, tk_isR_rf, tk_isR_null, z_q_L_s_I, z_q_K_s_I, z_q_I_s_I, z_q_J_s_I, z_q_R_s_I, z_q_n_s_I, z_q_aI_s_I, z_q_aJ_s_I, z_q_aR_s_I, z_q_L_s_J, z_q_K_s_J, z_q_I_s_J, z_q_J_s_J, z_q_R_s_J, z_q_n_s_J, z_q_aI_s_J, z_q_aJ_s_J, z_q_aR_s_J, z_q_L_s_R, z_q_K_s_R, z_q_I_s_R, z_q_J_s_R, z_q_R_s_R, z_q_n_s_R, z_q_aI_s_R, z_q_aJ_s_R, z_q_aR_s_R, z_q_L_s_aI, z_q_K_s_aI, z_q_I_s_aI, z_q_J_s_aI, z_q_R_s_aI, z_q_n_s_aI, z_q_aI_s_aI, z_q_aJ_s_aI, z_q_aR_s_aI, z_q_L_s_aJ, z_q_K_s_aJ, z_q_I_s_aJ, z_q_J_s_aJ, z_q_R_s_aJ, z_q_n_s_aJ, z_q_aI_s_aJ, z_q_aJ_s_aJ, z_q_aR_s_aJ, z_q_L_s_aR, z_q_K_s_aR, z_q_I_s_aR, z_q_J_s_aR, z_q_R_s_aR, z_q_n_s_aR, z_q_aI_s_aR, z_q_aJ_s_aR, z_q_aR_s_aR, z_q_L_s_new, z_q_K_s_new, z_q_I_s_new, z_q_J_s_new, z_q_R_s_new, z_q_n_s_new, z_q_aI_s_new, z_q_aJ_s_new, z_q_aR_s_new, z_q_L_s_arr, z_q_K_s_arr, z_q_I_s_arr, z_q_J_s_arr, z_q_R_s_arr, z_q_n_s_arr, z_q_aI_s_arr, z_q_aJ_s_arr, z_q_aR_s_arr, ha, hk]
  generalize hS1 : s_I (s_I (s_I (s_I S 8 4 a (nI len)) 8 5 a 0) 8 2 a 0) 8 3 a (-1) = S1
  have fr1 : fr S S1 [a, qs, l] := fun b hb hn => by
    have hba : b ≠ a := fun z => hn (by simp [z])
    rw [← hS1]
    simp -implicitDefEqProofs [sameAt, z_q_L_s_I, z_q_K_s_I, z_q_I_s_I, z_q_J_s_I, z_q_R_s_I, z_q_n_s_I, z_q_aI_s_I, z_q_aJ_s_I, z_q_aR_s_I, z_q_L_s_J, z_q_K_s_J, z_q_I_s_J, z_q_J_s_J, z_q_R_s_J, z_q_n_s_J, z_q_aI_s_J, z_q_aJ_s_J, z_q_aR_s_J, z_q_L_s_R, z_q_K_s_R, z_q_I_s_R, z_q_J_s_R, z_q_R_s_R, z_q_n_s_R, z_q_aI_s_R, z_q_aJ_s_R, z_q_aR_s_R, z_q_L_s_aI, z_q_K_s_aI, z_q_I_s_aI, z_q_J_s_aI, z_q_R_s_aI, z_q_n_s_aI, z_q_aI_s_aI, z_q_aJ_s_aI, z_q_aR_s_aI, z_q_L_s_aJ, z_q_K_s_aJ, z_q_I_s_aJ, z_q_J_s_aJ, z_q_R_s_aJ, z_q_n_s_aJ, z_q_aI_s_aJ, z_q_aJ_s_aJ, z_q_aR_s_aJ, z_q_L_s_aR, z_q_K_s_aR, z_q_I_s_aR, z_q_J_s_aR, z_q_R_s_aR, z_q_n_s_aR, z_q_aI_s_aR, z_q_aJ_s_aR, z_q_aR_s_aR, z_q_L_s_new, z_q_K_s_new, z_q_I_s_new, z_q_J_s_new, z_q_R_s_new, z_q_n_s_new, z_q_aI_s_new, z_q_aJ_s_new, z_q_aR_s_new, z_q_L_s_arr, z_q_K_s_arr, z_q_I_s_arr, z_q_J_s_arr, z_q_R_s_arr, z_q_n_s_arr, z_q_aI_s_arr, z_q_aJ_s_arr, z_q_aR_s_arr, hb, hba]
  have gr1 : gr S S1 := fun b hb => by rw [← hS1]; exact hb
  have hB1 : rdB S1 a qt qs len g := by
    rw [← hS1]
    refine ⟨⟨ha, hk, hr, hqt, hqtk, hqtn, by simp -implicitDefEqProofs [z_q_L_s_I, z_q_K_s_I, z_q_I_s_I, z_q_J_s_I, z_q_R_s_I, z_q_n_s_I, z_q_aI_s_I, z_q_aJ_s_I, z_q_aR_s_I, z_q_L_s_J, z_q_K_s_J, z_q_I_s_J, z_q_J_s_J, z_q_R_s_J, z_q_n_s_J, z_q_aI_s_J, z_q_aJ_s_J, z_q_aR_s_J, z_q_L_s_R, z_q_K_s_R, z_q_I_s_R, z_q_J_s_R, z_q_R_s_R, z_q_n_s_R, z_q_aI_s_R, z_q_aJ_s_R, z_q_aR_s_R, z_q_L_s_aI, z_q_K_s_aI, z_q_I_s_aI, z_q_J_s_aI, z_q_R_s_aI, z_q_n_s_aI, z_q_aI_s_aI, z_q_aJ_s_aI, z_q_aR_s_aI, z_q_L_s_aJ, z_q_K_s_aJ, z_q_I_s_aJ, z_q_J_s_aJ, z_q_R_s_aJ, z_q_n_s_aJ, z_q_aI_s_aJ, z_q_aJ_s_aJ, z_q_aR_s_aJ, z_q_L_s_aR, z_q_K_s_aR, z_q_I_s_aR, z_q_J_s_aR, z_q_R_s_aR, z_q_n_s_aR, z_q_aI_s_aR, z_q_aJ_s_aR, z_q_aR_s_aR, z_q_L_s_new, z_q_K_s_new, z_q_I_s_new, z_q_J_s_new, z_q_R_s_new, z_q_n_s_new, z_q_aI_s_new, z_q_aJ_s_new, z_q_aR_s_new, z_q_L_s_arr, z_q_K_s_arr, z_q_I_s_arr, z_q_J_s_arr, z_q_R_s_arr, z_q_n_s_arr, z_q_aI_s_arr, z_q_aJ_s_arr, z_q_aR_s_arr], hlen⟩, ⟨hr9, hqs, hqsk, hqsn⟩, hg⟩
  have h5 : q_I S1 8 5 a = nI 0 := by rw [← hS1]; simp -implicitDefEqProofs [z_q_L_s_I, z_q_K_s_I, z_q_I_s_I, z_q_J_s_I, z_q_R_s_I, z_q_n_s_I, z_q_aI_s_I, z_q_aJ_s_I, z_q_aR_s_I, z_q_L_s_J, z_q_K_s_J, z_q_I_s_J, z_q_J_s_J, z_q_R_s_J, z_q_n_s_J, z_q_aI_s_J, z_q_aJ_s_J, z_q_aR_s_J, z_q_L_s_R, z_q_K_s_R, z_q_I_s_R, z_q_J_s_R, z_q_R_s_R, z_q_n_s_R, z_q_aI_s_R, z_q_aJ_s_R, z_q_aR_s_R, z_q_L_s_aI, z_q_K_s_aI, z_q_I_s_aI, z_q_J_s_aI, z_q_R_s_aI, z_q_n_s_aI, z_q_aI_s_aI, z_q_aJ_s_aI, z_q_aR_s_aI, z_q_L_s_aJ, z_q_K_s_aJ, z_q_I_s_aJ, z_q_J_s_aJ, z_q_R_s_aJ, z_q_n_s_aJ, z_q_aI_s_aJ, z_q_aJ_s_aJ, z_q_aR_s_aJ, z_q_L_s_aR, z_q_K_s_aR, z_q_I_s_aR, z_q_J_s_aR, z_q_R_s_aR, z_q_n_s_aR, z_q_aI_s_aR, z_q_aJ_s_aR, z_q_aR_s_aR, z_q_L_s_new, z_q_K_s_new, z_q_I_s_new, z_q_J_s_new, z_q_R_s_new, z_q_n_s_new, z_q_aI_s_new, z_q_aJ_s_new, z_q_aR_s_new, z_q_L_s_arr, z_q_K_s_arr, z_q_I_s_arr, z_q_J_s_arr, z_q_R_s_arr, z_q_n_s_arr, z_q_aI_s_arr, z_q_aJ_s_arr, z_q_aR_s_arr]; rfl
  have h3 : q_I S1 8 3 a = -1 := by rw [← hS1]; simp -implicitDefEqProofs [z_q_L_s_I, z_q_K_s_I, z_q_I_s_I, z_q_J_s_I, z_q_R_s_I, z_q_n_s_I, z_q_aI_s_I, z_q_aJ_s_I, z_q_aR_s_I, z_q_L_s_J, z_q_K_s_J, z_q_I_s_J, z_q_J_s_J, z_q_R_s_J, z_q_n_s_J, z_q_aI_s_J, z_q_aJ_s_J, z_q_aR_s_J, z_q_L_s_R, z_q_K_s_R, z_q_I_s_R, z_q_J_s_R, z_q_R_s_R, z_q_n_s_R, z_q_aI_s_R, z_q_aJ_s_R, z_q_aR_s_R, z_q_L_s_aI, z_q_K_s_aI, z_q_I_s_aI, z_q_J_s_aI, z_q_R_s_aI, z_q_n_s_aI, z_q_aI_s_aI, z_q_aJ_s_aI, z_q_aR_s_aI, z_q_L_s_aJ, z_q_K_s_aJ, z_q_I_s_aJ, z_q_J_s_aJ, z_q_R_s_aJ, z_q_n_s_aJ, z_q_aI_s_aJ, z_q_aJ_s_aJ, z_q_aR_s_aJ, z_q_L_s_aR, z_q_K_s_aR, z_q_I_s_aR, z_q_J_s_aR, z_q_R_s_aR, z_q_n_s_aR, z_q_aI_s_aR, z_q_aJ_s_aR, z_q_aR_s_aR, z_q_L_s_new, z_q_K_s_new, z_q_I_s_new, z_q_J_s_new, z_q_R_s_new, z_q_n_s_new, z_q_aI_s_new, z_q_aJ_s_new, z_q_aR_s_new, z_q_L_s_arr, z_q_K_s_arr, z_q_I_s_arr, z_q_J_s_arr, z_q_R_s_arr, z_q_n_s_arr, z_q_aI_s_arr, z_q_aJ_s_arr, z_q_aR_s_arr]
  have hla : l ≠ a := fun z => by have := hl.2.1; rw [z, hk] at this; cases this
  have hl1 : isL Z 4 S1 l 0 f0 Z.2.2.2.2.2.1 := by
    rw [← hS1]
    simpa -implicitDefEqProofs [isL, z_q_L_s_I, z_q_K_s_I, z_q_I_s_I, z_q_J_s_I, z_q_R_s_I, z_q_n_s_I, z_q_aI_s_I, z_q_aJ_s_I, z_q_aR_s_I, z_q_L_s_J, z_q_K_s_J, z_q_I_s_J, z_q_J_s_J, z_q_R_s_J, z_q_n_s_J, z_q_aI_s_J, z_q_aJ_s_J, z_q_aR_s_J, z_q_L_s_R, z_q_K_s_R, z_q_I_s_R, z_q_J_s_R, z_q_R_s_R, z_q_n_s_R, z_q_aI_s_R, z_q_aJ_s_R, z_q_aR_s_R, z_q_L_s_aI, z_q_K_s_aI, z_q_I_s_aI, z_q_J_s_aI, z_q_R_s_aI, z_q_n_s_aI, z_q_aI_s_aI, z_q_aJ_s_aI, z_q_aR_s_aI, z_q_L_s_aJ, z_q_K_s_aJ, z_q_I_s_aJ, z_q_J_s_aJ, z_q_R_s_aJ, z_q_n_s_aJ, z_q_aI_s_aJ, z_q_aJ_s_aJ, z_q_aR_s_aJ, z_q_L_s_aR, z_q_K_s_aR, z_q_I_s_aR, z_q_J_s_aR, z_q_R_s_aR, z_q_n_s_aR, z_q_aI_s_aR, z_q_aJ_s_aR, z_q_aR_s_aR, z_q_L_s_new, z_q_K_s_new, z_q_I_s_new, z_q_J_s_new, z_q_R_s_new, z_q_n_s_new, z_q_aI_s_new, z_q_aJ_s_new, z_q_aR_s_new, z_q_L_s_arr, z_q_K_s_arr, z_q_I_s_arr, z_q_J_s_arr, z_q_R_s_arr, z_q_n_s_arr, z_q_aI_s_arr, z_q_aJ_s_arr, z_q_aR_s_arr] using hl
  refine ⟨by simp, hB1.1.1, hB1.1.2.1, by simp, 6, 0, 0, by omega, by omega, by omega, ?_⟩
  refine m_advB (Nat.le_refl 6) hB1 h5 (Nat.zero_le _) h3 (fun S2 f2 hA2 _ _ _ _ => ?_)
  simp -implicitDefEqProofs [i_aload, i_iload, i_lload, i_istore, i_lstore, i_astore, i_iinc, i_push, i_getI, i_getJ, i_getR, i_putI, i_putJ, i_putR, i_iadd, i_isub, i_imul, i_iand, i_ior, i_ixor, i_ishl, i_ishr, i_iushr, i_idiv, i_irem, i_ladd, i_lsub, i_lmul, i_land, i_lor, i_lxor, i_ldiv, i_lrem, i_lshl, i_lshr, i_lcmp, i_ineg, i_lneg, i_i2l, i_l2i, i_i2b, i_i2c, i_dup, i_pop, i_dup_x1, i_dup2, i_icmp_eq, i_icmp_lt, i_icmp_ge, i_icmp_gt, i_icmp_le, i_if_eq, i_if_lt, i_if_ge, i_if_gt, i_if_le, i_goto, i_ifnull, i_iald, i_bald, i_zald, i_lald, i_aald, i_iast, i_bast, i_zast, i_last, i_alen, i_iret, i_lret, i_aret, i_vret, i_oinit, i_cast, i_tsw, i_cases, i_mmin, i_mmax, i_lmin, i_throw, nb0, nb1, nint, nby0, rf_s, rf_n, of_r, of_n, tk_orf_rf, tk_c2, tk_ls, Value.category, tk_isR_ref, tk_isR_rf, tk_isR_null]
  have hb0 := tkStart_le g (Nat.zero_le len)
  refine loop 2000 0 S2 0 f0 (fun _ => 0) Z.2.2.2.2.2.1 (tkStart g len 0) [] 0 0 rfl (fun b hb hn => (fr1 b hb hn).trans (f2.fr b (gr1 b hb) (fun z => hn (by
    simp only [List.mem_cons, List.not_mem_nil, or_false] at z ⊢
    exact z.elim Or.inl (fun z => Or.inr (Or.inl z)))))) (gr1.trans f2.gr) (hB1.mv f2) hA2 ?_ hZ rfl (fun i p hi => absurd hi (by simp)) (by omega) (by omega) (by omega) ?_
  · refine hl1.same ?_ (fun h1 _ => ?_) (fun i hi => absurd hi (by omega))
    · refine f2.fr l hl1.1 ?_
      simp only [List.mem_cons, List.not_mem_nil, or_false]
      rintro (z | z)
      · exact hla z
      · have := hl.2.1; rw [z, hqsk] at this; cases this
    · exact absurd (by rw [← hS1] at h1; exact h1) hZ
  · generalize pActs g len 2000 0 (tkStart g len 0) = q at H
    rcases q with ps | ⟨kd, pl, j⟩
    · exact H
    · exact H
end RDN

/-! THE TRUST'S OWN METHODS: small ones -/
section PRIV
variable {Z : tk_Z} {d mc ms : Nat} {S : tk_S} {QR : tk_R}
def rnew (ρ : Nat → Nat) (S : tk_S) (r : Nat) : Nat → Nat := fun b => if b ∈ q_L S then ρ b else r
theorem rx_new (ρ : Nat → Nat) (S : tk_S) (r : Nat) : rx ρ (rnew ρ S r) S := fun b hb => if_pos hb
theorem rnew_n {ρ : Nat → Nat} {S : tk_S} {r b : Nat} (h : b ∉ q_L S) : rnew ρ S r b = r := if_neg h
theorem sm.no {ρ : Nat → Nat} {S S' : tk_S} {R T : List Nat} (h : ∀ b, b ∈ q_L S → ρ b ∉ T → sameAt S S' b) (hR : ∀ r, r ∈ R → r ∉ T) : sm ρ S S' R := fun b hb hr => h b hb (hR _ hr)
theorem xr.of {S S' : tk_S} {x : Nat} (h : sameAt S S' x) : xr S S' x := ⟨h.1, h.2.1, fun k => h.2.2.2.2.1 12 k⟩
theorem xr.rfl' {x : Nat} (h : x ∈ q_L S) : xr S S x := ⟨h, rfl, fun _ => rfl⟩
theorem xr.trans {S1 S2 : tk_S} {x : Nat} (h : xr S S1 x) (g : xr S1 S2 x) : xr S S2 x := ⟨g.1, g.2.1.trans h.2.1, fun k => (g.2.2 k).trans (h.2.2 k)⟩
/-- a line in the journal -/
theorem m_line {ρ : Nat → Nat} {x bx n : Nat} {m amt : Int64} {v2 v3 v4 : Nat → Int32} {v5 v6 : Nat → Int64} {a b c : Int32} (hd : 3 ≤ d) (hJ : cJ ρ S x n m v2 v3 v4 v5 v6) (hx : x ∈ q_L S) (hx12 : q_K S x = 12) (hρx : ρ x = 1) (hbx : q_R S 12 2 x = some bx) (hn : n < 12000) (hmc : 5 * (lvl (n + 1) - lvl n) ≤ mc) (hms : 60000 * (lvl (n + 1) - lvl n) ≤ ms)
    (H : ∀ S2 ρ', gr S S2 → (∀ b, b ∈ q_L S → ρ b ∉ [4, 21] → sameAt S S2 b) → rx ρ ρ' S → cJ ρ' S2 x (n + 1) (m + amt) (upd v2 n a) (upd v3 n b) (upd v4 n c) (vp_updL v5 n amt) (vp_updL v6 n (m + amt)) → QR none S2) : tk_M Z mX2_change d mc ms [.ref bx, .int a, .int b, .int c, .long amt] S QR tk_noX := by
  obtain ⟨bx', r2, r3, r4, r5, r6, h1, h2, hB, h4, t2, t3, t4, t5, t6⟩ := hJ
  have e : bx' = bx := by rw [h1] at hbx; exact Option.some.inj hbx
  subst e
  refine m_chg hd hB hn hmc hms (fun S2 p2 p3 p4 p5 p6 hB2 hF => ?_)
  obtain ⟨f1, f2, f3, f4⟩ := hF
  have hs : ∀ b, b ∈ q_L S → ρ b ∉ [4, 21] → sameAt S S2 b := fun b hb hr => by
    simp only [List.mem_cons, List.not_mem_nil, or_false, not_or] at hr
    exact f1 b hb (fun z => hr.1 (z ▸ h2)) (fun z => hr.2 (z ▸ t2)) (fun z => hr.2 (z ▸ t3)) (fun z => hr.2 (z ▸ t4)) (fun z => hr.2 (z ▸ t5)) (fun z => hr.2 (z ▸ t6))
  have sx := hs x hx (by rw [hρx]; simp)
  refine H S2 (rnew ρ S 21) f2 hs (rx_new ρ S 21) ⟨bx', p2, p3, p4, p5, p6, (sx.2.2.2.2.1 12 2).trans h1, by rw [rx_new ρ S 21 _ hB.1.1]; exact h2, hB2, by omega, ?_⟩
  have hr := hB.1
  rcases f4 with ⟨w2, w3, w4, w5, w6⟩ | ⟨w2, w3, w4, w5, w6⟩
  · rw [w2, w3, w4, w5, w6, rx_new ρ S 21 _ hr.2.2.1.2.1, rx_new ρ S 21 _ hr.2.2.2.1.2.1, rx_new ρ S 21 _ hr.2.2.2.2.1.2.1, rx_new ρ S 21 _ hr.2.2.2.2.2.1.2.1, rx_new ρ S 21 _ hr.2.2.2.2.2.2.1.2.1]
    exact ⟨t2, t3, t4, t5, t6⟩
  · exact ⟨rnew_n w2, rnew_n w3, rnew_n w4, rnew_n w5, rnew_n w6⟩
/-- the act in force on a day, from act i on -/
def actM : List pA → Nat → Int32 → Int32 → Int32 → Int32
  | [], _, _, best, _ => best
  | A :: r, i, day, best, bf => if A.1 ≤ day ∧ bf ≤ A.1 then actM r (i + 1) day (nI i) A.1 else actM r (i + 1) day best bf
theorem m_actOn {ρ : Nat → Nat} {x : Nat} {acts : List pA} {day : Int32} (hd : 4 ≤ d) (hx : x ∈ q_L S) (hk : q_K S x = 12) (hA : cA Z ρ S x acts) (H : QR (some (.int (actM acts 0 day (-1) (-1)))) S) : tk_M Z mX11_actOn d mc ms [.ref x, .int day] S QR tk_noX := by
  obtain ⟨l, e, f, h1, h2, h3, h4⟩ := hA
  refine M_X11_actOn (Nat.le_of_ble_eq_true rfl) (fun E hE => hE.1 _ _ _ _ _ ?_)
  have hl := h2.1
  have loop : ∀ m i best bf x5, m + i = acts.length → QR (some (.int (actM (acts.drop i) i day best bf))) S → E 7 [some (.ref x), some (.int day), some (.int best), some (.int bf), some (.int (nI i)), x5] [] S 0 0 := by
    intro m
    induction m with
    | zero =>
      intro i best bf x5 hi H
      refine hE.2 _ _ _ _ _ ?_
      have hi2 : i = acts.length := by omega
      subst hi2
      rw [List.drop_length] at H
      simp -implicitDefEqProofs [t_X11_actOn_7, i_aload, i_iload, i_lload, i_istore, i_lstore, i_astore, i_iinc, i_push, i_getI, i_getJ, i_getR, i_putI, i_putJ, i_putR, i_iadd, i_isub, i_imul, i_iand, i_ior, i_ixor, i_ishl, i_ishr, i_iushr, i_idiv, i_irem, i_ladd, i_lsub, i_lmul, i_land, i_lor, i_lxor, i_ldiv, i_lrem, i_lshl, i_lshr, i_lcmp, i_ineg, i_lneg, i_i2l, i_l2i, i_i2b, i_i2c, i_dup, i_pop, i_dup_x1, i_dup2, i_icmp_eq, i_icmp_lt, i_icmp_ge, i_icmp_gt, i_icmp_le, i_if_eq, i_if_lt, i_if_ge, i_if_gt, i_if_le, i_goto, i_ifnull, i_iald, i_bald, i_zald, i_lald, i_aald, i_iast, i_bast, i_zast, i_last, i_alen, i_iret, i_lret, i_aret, i_vret, i_oinit, i_cast, i_tsw, i_cases, i_mmin, i_mmax, i_lmin, i_throw, nb0, nb1, nint, nby0, rf_s, rf_n, of_r, of_n, tk_orf_rf, tk_c2, tk_ls, Value.category, tk_isR_ref, tk_isR_rf, tk_isR_null, hx, hk, h1]
      refine ⟨by simp, hl.1, hl.2.1, by simp [Value.category], 0, 0, 0, by omega, by omega, by omega, ?_⟩
      refine l_size hl ?_
      simp -implicitDefEqProofs [i_aload, i_iload, i_lload, i_istore, i_lstore, i_astore, i_iinc, i_push, i_getI, i_getJ, i_getR, i_putI, i_putJ, i_putR, i_iadd, i_isub, i_imul, i_iand, i_ior, i_ixor, i_ishl, i_ishr, i_iushr, i_idiv, i_irem, i_ladd, i_lsub, i_lmul, i_land, i_lor, i_lxor, i_ldiv, i_lrem, i_lshl, i_lshr, i_lcmp, i_ineg, i_lneg, i_i2l, i_l2i, i_i2b, i_i2c, i_dup, i_pop, i_dup_x1, i_dup2, i_icmp_eq, i_icmp_lt, i_icmp_ge, i_icmp_gt, i_icmp_le, i_if_eq, i_if_lt, i_if_ge, i_if_gt, i_if_le, i_goto, i_ifnull, i_iald, i_bald, i_zald, i_lald, i_aald, i_iast, i_bast, i_zast, i_last, i_alen, i_iret, i_lret, i_aret, i_vret, i_oinit, i_cast, i_tsw, i_cases, i_mmin, i_mmax, i_lmin, i_throw, nb0, nb1, nint, nby0, rf_s, rf_n, of_r, of_n, tk_orf_rf, tk_c2, tk_ls, Value.category, tk_isR_ref, tk_isR_rf, tk_isR_null]
      exact H
    | succ m ih =>
      intro i best bf x5 hi H
      refine hE.2 _ _ _ _ _ ?_
      have hil : i < acts.length := by omega
      have z : ¬ nI acts.length ≤ nI i := nI_ge (by omega) (by omega)
      have e1 : nI i + 1 = nI (i + 1) := nI_add i 1
      have ei : acts[i]? = some acts[i] := by simp [hil]
      obtain ⟨l2, e2, f2, st2, g1, g2, g3, g4, g5⟩ := h4 i _ ei
      obtain ⟨y1, y2⟩ := hl.2.2.2.2.2.2.1 i hil
      have hdr : acts.drop i = acts[i] :: acts.drop (i + 1) := List.drop_eq_getElem_cons hil
      rw [hdr, actM] at H
      simp -implicitDefEqProofs [t_X11_actOn_7, i_aload, i_iload, i_lload, i_istore, i_lstore, i_astore, i_iinc, i_push, i_getI, i_getJ, i_getR, i_putI, i_putJ, i_putR, i_iadd, i_isub, i_imul, i_iand, i_ior, i_ixor, i_ishl, i_ishr, i_iushr, i_idiv, i_irem, i_ladd, i_lsub, i_lmul, i_land, i_lor, i_lxor, i_ldiv, i_lrem, i_lshl, i_lshr, i_lcmp, i_ineg, i_lneg, i_i2l, i_l2i, i_i2b, i_i2c, i_dup, i_pop, i_dup_x1, i_dup2, i_icmp_eq, i_icmp_lt, i_icmp_ge, i_icmp_gt, i_icmp_le, i_if_eq, i_if_lt, i_if_ge, i_if_gt, i_if_le, i_goto, i_ifnull, i_iald, i_bald, i_zald, i_lald, i_aald, i_iast, i_bast, i_zast, i_last, i_alen, i_iret, i_lret, i_aret, i_vret, i_oinit, i_cast, i_tsw, i_cases, i_mmin, i_mmax, i_lmin, i_throw, nb0, nb1, nint, nby0, rf_s, rf_n, of_r, of_n, tk_orf_rf, tk_c2, tk_ls, Value.category, tk_isR_ref, tk_isR_rf, tk_isR_null, hx, hk, h1]
      refine ⟨by simp, hl.1, hl.2.1, by simp [Value.category], 0, 0, 0, by omega, by omega, by omega, ?_⟩
      refine l_size hl ?_
      simp -implicitDefEqProofs [i_aload, i_iload, i_lload, i_istore, i_lstore, i_astore, i_iinc, i_push, i_getI, i_getJ, i_getR, i_putI, i_putJ, i_putR, i_iadd, i_isub, i_imul, i_iand, i_ior, i_ixor, i_ishl, i_ishr, i_iushr, i_idiv, i_irem, i_ladd, i_lsub, i_lmul, i_land, i_lor, i_lxor, i_ldiv, i_lrem, i_lshl, i_lshr, i_lcmp, i_ineg, i_lneg, i_i2l, i_l2i, i_i2b, i_i2c, i_dup, i_pop, i_dup_x1, i_dup2, i_icmp_eq, i_icmp_lt, i_icmp_ge, i_icmp_gt, i_icmp_le, i_if_eq, i_if_lt, i_if_ge, i_if_gt, i_if_le, i_goto, i_ifnull, i_iald, i_bald, i_zald, i_lald, i_aald, i_iast, i_bast, i_zast, i_last, i_alen, i_iret, i_lret, i_aret, i_vret, i_oinit, i_cast, i_tsw, i_cases, i_mmin, i_mmax, i_lmin, i_throw, nb0, nb1, nint, nby0, rf_s, rf_n, of_r, of_n, tk_orf_rf, tk_c2, tk_ls, Value.category, tk_isR_ref, tk_isR_rf, tk_isR_null, hx, hk, h1, z]
      refine ⟨by simp, hl.1, hl.2.1, by simp [Value.category], 3, 0, 0, by omega, by omega, by omega, ?_⟩
      refine l_get (Nat.le_refl 3) hl hil ?_
      simp -implicitDefEqProofs [i_aload, i_iload, i_lload, i_istore, i_lstore, i_astore, i_iinc, i_push, i_getI, i_getJ, i_getR, i_putI, i_putJ, i_putR, i_iadd, i_isub, i_imul, i_iand, i_ior, i_ixor, i_ishl, i_ishr, i_iushr, i_idiv, i_irem, i_ladd, i_lsub, i_lmul, i_land, i_lor, i_lxor, i_ldiv, i_lrem, i_lshl, i_lshr, i_lcmp, i_ineg, i_lneg, i_i2l, i_l2i, i_i2b, i_i2c, i_dup, i_pop, i_dup_x1, i_dup2, i_icmp_eq, i_icmp_lt, i_icmp_ge, i_icmp_gt, i_icmp_le, i_if_eq, i_if_lt, i_if_ge, i_if_gt, i_if_le, i_goto, i_ifnull, i_iald, i_bald, i_zald, i_lald, i_aald, i_iast, i_bast, i_zast, i_last, i_alen, i_iret, i_lret, i_aret, i_vret, i_oinit, i_cast, i_tsw, i_cases, i_mmin, i_mmax, i_lmin, i_throw, nb0, nb1, nint, nby0, rf_s, rf_n, of_r, of_n, tk_orf_rf, tk_c2, tk_ls, Value.category, tk_isR_ref, tk_isR_rf, tk_isR_null, y1, y2, g1, e1]
      refine ⟨fun w => ?_, fun w => ⟨fun w1 => ?_, fun w1 => ?_⟩⟩
      · rw [if_neg (fun q => absurd w (Int32.not_lt.mpr q.1))] at H
        exact ih (i + 1) _ _ _ (by omega) H
      · rw [if_neg (fun q => absurd w1 (Int32.not_lt.mpr q.2))] at H
        exact ih (i + 1) _ _ _ (by omega) H
      · rw [if_pos ⟨w, w1⟩] at H
        exact ih (i + 1) _ _ _ (by omega) H
  show t_X11_actOn_0 Z d mc ms QR E [some (.ref x), some (.int day), none, none, none, none] [] S 0 0
  simp -implicitDefEqProofs [t_X11_actOn_0, i_aload, i_iload, i_lload, i_istore, i_lstore, i_astore, i_iinc, i_push, i_getI, i_getJ, i_getR, i_putI, i_putJ, i_putR, i_iadd, i_isub, i_imul, i_iand, i_ior, i_ixor, i_ishl, i_ishr, i_iushr, i_idiv, i_irem, i_ladd, i_lsub, i_lmul, i_land, i_lor, i_lxor, i_ldiv, i_lrem, i_lshl, i_lshr, i_lcmp, i_ineg, i_lneg, i_i2l, i_l2i, i_i2b, i_i2c, i_dup, i_pop, i_dup_x1, i_dup2, i_icmp_eq, i_icmp_lt, i_icmp_ge, i_icmp_gt, i_icmp_le, i_if_eq, i_if_lt, i_if_ge, i_if_gt, i_if_le, i_goto, i_ifnull, i_iald, i_bald, i_zald, i_lald, i_aald, i_iast, i_bast, i_zast, i_last, i_alen, i_iret, i_lret, i_aret, i_vret, i_oinit, i_cast, i_tsw, i_cases, i_mmin, i_mmax, i_lmin, i_throw, nb0, nb1, nint, nby0, rf_s, rf_n, of_r, of_n, tk_orf_rf, tk_c2, tk_ls, Value.category, tk_isR_ref, tk_isR_rf, tk_isR_null]
  exact loop acts.length 0 _ _ _ rfl H
end PRIV

/-! THE REFERENCE: what is paid -/
section RPAID
variable {Z : tk_Z} {d mc ms : Nat} {QR : tk_R} {m : Nat} {B : bS} {V V1 V2 : vR} {ρ : Nat → Nat} {S : tk_S} {R : Nat → Nat} {T : nT}
theorem wA_id (V : vR) (k : Nat) : wA V k (vA V k) = V := by
  refine vR_ext (fun _ => rfl) rfl (fun j => ?_) (fun _ => rfl)
  rw [vA_wA]
  split
  · rename_i h; rw [h]
  · rfl
/-- was it paid on day td at one of the first n gates -/
def anyD (pd : Nat → Int32) (td : Int32) (o : Nat) : Nat → Bool
  | 0 => false
  | n + 1 => anyD pd td o n || decide (pd (o + n) = td)
theorem r_paidAnywhere {cc cl n t nG : Nat} {kd wh be bi pa pd : Nat → Int32} (hR : RS B m ρ S (rLk cc cl) R V) (hv : tvV V n kd wh be bi pa pd) (ht : t < n) (hG : vI V 31 = nI nG) (hG8 : nG ≤ 8)
    (h : QR (some (.int (if anyD pd (vI V 32) (8 * t) nG = true then 1 else 0))) S) : tk_M Z mX12_paidAnywhere d mc ms [.ref m, .int (nI t)] S QR tk_noX := by
  refine M_X12_paidAnywhere (Nat.le_of_ble_eq_true rfl) (fun E hE => hE.1 _ _ _ _ _ ?_)
  show t_X12_paidAnywhere_0 Z d mc ms QR E [some (.ref m), some (.int (nI t)), none, none] [] S 0 0
  obtain ⟨h1, h2, h3⟩ := hR.1.1
  have hI := hR.2.1.1
  obtain ⟨a24, b24, c24, d24, -⟩ := hR.1.2 24 _ _ rfl
  have x24 := hR.2.1.2.2.1 24 _ _ rfl (by decide)
  obtain ⟨v1, v2, v3, v4, v5, v6, v7, v8⟩ := hv
  have loop : ∀ k j, j + k = nG → E 4 [some (.ref m), some (.int (nI t)), some (.int (if anyD pd (vI V 32) (8 * t) j = true then 1 else 0)), some (.int (nI j))] [] S 0 0 := by
    intro k
    induction k with
    | zero =>
      intro j hj
      refine hE.2 _ _ _ _ _ ?_
      have hj2 : j = nG := by omega
      subst hj2
      have z : nI j ≤ nI j := nI_le (Nat.le_refl _) (by omega)
      rcases hq : anyD pd (vI V 32) (8 * t) j with _ | _
      · rw [hq] at h
        simp -implicitDefEqProofs [t_X12_paidAnywhere_4, i_aload, i_iload, i_lload, i_istore, i_lstore, i_astore, i_iinc, i_push, i_getI, i_getJ, i_getR, i_putI, i_putJ, i_putR, i_iadd, i_isub, i_imul, i_iand, i_ior, i_ixor, i_ishl, i_ishr, i_iushr, i_idiv, i_irem, i_ladd, i_lsub, i_lmul, i_land, i_lor, i_lxor, i_ldiv, i_lrem, i_lshl, i_lshr, i_lcmp, i_ineg, i_lneg, i_i2l, i_l2i, i_i2b, i_i2c, i_dup, i_pop, i_dup_x1, i_dup2, i_icmp_eq, i_icmp_lt, i_icmp_ge, i_icmp_gt, i_icmp_le, i_if_eq, i_if_lt, i_if_ge, i_if_gt, i_if_le, i_goto, i_ifnull, i_iald, i_bald, i_zald, i_lald, i_aald, i_iast, i_bast, i_zast, i_last, i_alen, i_iret, i_lret, i_aret, i_vret, i_oinit, i_cast, i_tsw, i_cases, i_mmin, i_mmax, i_lmin, i_throw, nb0, nb1, nint, nby0, rf_s, rf_n, of_r, of_n, tk_orf_rf, tk_c2, tk_ls, Value.category, tk_isR_ref, tk_isR_rf, tk_isR_null, h1, h2, hI, hG, z]
        exact h
      · rw [hq] at h
        simp -implicitDefEqProofs [t_X12_paidAnywhere_4, i_aload, i_iload, i_lload, i_istore, i_lstore, i_astore, i_iinc, i_push, i_getI, i_getJ, i_getR, i_putI, i_putJ, i_putR, i_iadd, i_isub, i_imul, i_iand, i_ior, i_ixor, i_ishl, i_ishr, i_iushr, i_idiv, i_irem, i_ladd, i_lsub, i_lmul, i_land, i_lor, i_lxor, i_ldiv, i_lrem, i_lshl, i_lshr, i_lcmp, i_ineg, i_lneg, i_i2l, i_l2i, i_i2b, i_i2c, i_dup, i_pop, i_dup_x1, i_dup2, i_icmp_eq, i_icmp_lt, i_icmp_ge, i_icmp_gt, i_icmp_le, i_if_eq, i_if_lt, i_if_ge, i_if_gt, i_if_le, i_goto, i_ifnull, i_iald, i_bald, i_zald, i_lald, i_aald, i_iast, i_bast, i_zast, i_last, i_alen, i_iret, i_lret, i_aret, i_vret, i_oinit, i_cast, i_tsw, i_cases, i_mmin, i_mmax, i_lmin, i_throw, nb0, nb1, nint, nby0, rf_s, rf_n, of_r, of_n, tk_orf_rf, tk_c2, tk_ls, Value.category, tk_isR_ref, tk_isR_rf, tk_isR_null, h1, h2, hI, hG, z]
        exact h
    | succ k ih =>
      intro j hj
      refine hE.2 _ _ _ _ _ ?_
      have z : ¬ nI nG ≤ nI j := nI_ge (by omega) (by omega)
      have ek : nI j + 1 = nI (j + 1) := nI_add j 1
      have hin8 : vp_in (nI (8 * t + j)) 480 := vp_in_nI (by omega) (by omega)
      have e8 : (8 : Int32) * nI t + nI j = nI (8 * t + j) := by
        rw [show (8 : Int32) = nI 8 by rfl, show nI 8 * nI t = nI (8 * t) from (Int32.ofNat_mul 8 t).symm, nI_add]
      have c8 : (nI (8 * t + j)).toNatClampNeg = 8 * t + j := nI_clamp (by omega)
      have hpd := (v7 (8 * t + j) (by omega)).2
      have g := ih (j + 1) (by omega)
      rcases hq : anyD pd (vI V 32) (8 * t) j with _ | _
      · simp only [anyD, hq, Bool.false_or, decide_eq_true_eq] at g
        simp -implicitDefEqProofs [t_X12_paidAnywhere_4, i_aload, i_iload, i_lload, i_istore, i_lstore, i_astore, i_iinc, i_push, i_getI, i_getJ, i_getR, i_putI, i_putJ, i_putR, i_iadd, i_isub, i_imul, i_iand, i_ior, i_ixor, i_ishl, i_ishr, i_iushr, i_idiv, i_irem, i_ladd, i_lsub, i_lmul, i_land, i_lor, i_lxor, i_ldiv, i_lrem, i_lshl, i_lshr, i_lcmp, i_ineg, i_lneg, i_i2l, i_l2i, i_i2b, i_i2c, i_dup, i_pop, i_dup_x1, i_dup2, i_icmp_eq, i_icmp_lt, i_icmp_ge, i_icmp_gt, i_icmp_le, i_if_eq, i_if_lt, i_if_ge, i_if_gt, i_if_le, i_goto, i_ifnull, i_iald, i_bald, i_zald, i_lald, i_aald, i_iast, i_bast, i_zast, i_last, i_alen, i_iret, i_lret, i_aret, i_vret, i_oinit, i_cast, i_tsw, i_cases, i_mmin, i_mmax, i_lmin, i_throw, nb0, nb1, nint, nby0, rf_s, rf_n, of_r, of_n, tk_orf_rf, tk_c2, tk_ls, Value.category, tk_isR_ref, tk_isR_rf, tk_isR_null, h1, h2, hI, hG, z, a24, b24, c24, d24, x24, e8, hin8, c8, hpd, ek]
        refine ⟨fun w => ?_, fun w => ?_⟩
        · rw [if_pos w] at g; exact g
        · rw [if_neg w] at g; exact g
      · simp only [anyD, hq, Bool.true_or, if_true] at g
        simp -implicitDefEqProofs [t_X12_paidAnywhere_4, i_aload, i_iload, i_lload, i_istore, i_lstore, i_astore, i_iinc, i_push, i_getI, i_getJ, i_getR, i_putI, i_putJ, i_putR, i_iadd, i_isub, i_imul, i_iand, i_ior, i_ixor, i_ishl, i_ishr, i_iushr, i_idiv, i_irem, i_ladd, i_lsub, i_lmul, i_land, i_lor, i_lxor, i_ldiv, i_lrem, i_lshl, i_lshr, i_lcmp, i_ineg, i_lneg, i_i2l, i_l2i, i_i2b, i_i2c, i_dup, i_pop, i_dup_x1, i_dup2, i_icmp_eq, i_icmp_lt, i_icmp_ge, i_icmp_gt, i_icmp_le, i_if_eq, i_if_lt, i_if_ge, i_if_gt, i_if_le, i_goto, i_ifnull, i_iald, i_bald, i_zald, i_lald, i_aald, i_iast, i_bast, i_zast, i_last, i_alen, i_iret, i_lret, i_aret, i_vret, i_oinit, i_cast, i_tsw, i_cases, i_mmin, i_mmax, i_lmin, i_throw, nb0, nb1, nint, nby0, rf_s, rf_n, of_r, of_n, tk_orf_rf, tk_c2, tk_ls, Value.category, tk_isR_ref, tk_isR_rf, tk_isR_null, h1, h2, hI, hG, z, ek]
        exact g
  simp -implicitDefEqProofs [t_X12_paidAnywhere_0, i_aload, i_iload, i_lload, i_istore, i_lstore, i_astore, i_iinc, i_push, i_getI, i_getJ, i_getR, i_putI, i_putJ, i_putR, i_iadd, i_isub, i_imul, i_iand, i_ior, i_ixor, i_ishl, i_ishr, i_iushr, i_idiv, i_irem, i_ladd, i_lsub, i_lmul, i_land, i_lor, i_lxor, i_ldiv, i_lrem, i_lshl, i_lshr, i_lcmp, i_ineg, i_lneg, i_i2l, i_l2i, i_i2b, i_i2c, i_dup, i_pop, i_dup_x1, i_dup2, i_icmp_eq, i_icmp_lt, i_icmp_ge, i_icmp_gt, i_icmp_le, i_if_eq, i_if_lt, i_if_ge, i_if_gt, i_if_le, i_goto, i_ifnull, i_iald, i_bald, i_zald, i_lald, i_aald, i_iast, i_bast, i_zast, i_last, i_alen, i_iret, i_lret, i_aret, i_vret, i_oinit, i_cast, i_tsw, i_cases, i_mmin, i_mmax, i_lmin, i_throw, nb0, nb1, nint, nby0, rf_s, rf_n, of_r, of_n, tk_orf_rf, tk_c2, tk_ls, Value.category, tk_isR_ref, tk_isR_rf, tk_isR_null]
  have := loop nG 0 (by omega)
  simpa [anyD, nI_0] using this
/-- what stands of an act's clauses at w0, as the reference tells them -/
def acV (V : vR) (k w0 : Nat) (ps : List pC) : Prop := ∀ i p, ps[i]? = some p → ∃ off, off + p.2.2.2.2.length ≤ k ∧ clIn V off (w0 + i) p
theorem min_c (x : Int64) : (if x ≤ 1000000 then x else 1000000) = (if 1000000 < x then 1000000 else x) := by
  by_cases h : x ≤ 1000000
  · rw [if_pos h, if_neg (Int64.not_lt.mpr h)]
  · rw [if_neg h, if_pos (Int64.not_le.mp h)]
/-- once, and that it is so today -/
theorem chg_pp {o al num v : Int32} (ho : o = -1 ∨ 0 ≤ o) (ha : al = -1 ∨ 0 ≤ al) (h1 : ¬ o = -1) (h2 : ¬ al = -1) : chg o al num v = (0, if o < al then o else al) := by
  unfold chg
  rw [if_neg h1, if_neg h2]
  by_cases h : o < al
  · rw [if_neg (fun z => absurd (Int32.lt_trans h z) Int32.lt_irrefl), if_pos h]
  · rw [if_neg h]
    by_cases h3 : al < o
    · rw [if_pos h3]
    · rw [if_neg h3]
      have : o = al := Int32.le_antisymm (Int32.not_lt.mp h3) (Int32.not_lt.mp h)
      rw [this]
theorem chg_pn {o num v : Int32} (ho : 0 ≤ o) : chg o (-1) num v = (0, o) := by
  unfold chg
  have h1 : ¬ o = -1 := fun z => by rw [z] at ho; exact absurd ho (by decide)
  have h2 : ¬ o < -1 := fun z => absurd (Int32.lt_of_le_of_lt ho z) (by decide)
  rw [if_neg h1, if_pos rfl, if_neg h2]
theorem chg_np {al num v : Int32} (ha : 0 ≤ al) : chg (-1) al num v = (0, al) := by
  unfold chg
  have h1 : ¬ al = -1 := fun z => by rw [z] at ha; exact absurd ha (by decide)
  have h2 : (-1 : Int32) < al := Int32.lt_of_lt_of_le (show (-1 : Int32) < 0 by decide) ha
  rw [if_pos rfl, if_neg h1, if_pos h2]
theorem chg_nn {num v : Int32} : chg (-1) (-1) num v = (v, num) := by
  unfold chg
  rw [if_pos rfl, if_pos rfl]
set_option maxHeartbeats 8000000 in
theorem r_paid {ps : List pC} {cc cl w0 i n t gt nG times k : Nat} {o al : Int32} {kn : Nat → Nat} {kd wh be bi pa pd : Nat → Int32} (hd : 1 ≤ d) (hR : RS B m ρ S (rLk cc cl) R V) (hv : tvV V n kd wh be bi pa pd) (ht : t < n) (hG : vI V 31 = nI nG) (hG8 : nG ≤ 8) (hg : gt < 8)
    (hac : acV V k w0 ps) (hps : ps.length ≤ 40) (hw0 : w0 + 40 ≤ 480) (hi : i < ps.length) (hck : ∀ p ∈ ps, cOK p) (hw : (ps.getD i pC0).1 = 257) (htm : times ≤ 40) (hkn : ∀ j, j < times → vA V 36 j = nI (w0 + kn j) ∧ kn j < ps.length ∧ (ps.getD (kn j) pC0).1 = 258)
    (ho : o = -1 ∨ 0 ≤ o) (hal : al = -1 ∨ 0 ≤ al) (hby : vI V 35 = nI i)
    (H : okV B m (rLk cc cl) QR (some (.int (chg (if pd (8 * t + gt) = vI V 32 then o else -1) (if anyD pd (vI V 32) (8 * t) nG = true then al else -1) (nI i) (timesIn (fun i => (ps.getD i pC0).2.2.1) (fun i => (ps.getD i pC0).2.2.2.1) kn (aheadOf (ps.getD i pC0).2.1 (ps.getD i pC0).2.2.1 (be t)) times).toInt32).1))
      (wI V 35 (chg (if pd (8 * t + gt) = vI V 32 then o else -1) (if anyD pd (vI V 32) (8 * t) nG = true then al else -1) (nI i) (timesIn (fun i => (ps.getD i pC0).2.2.1) (fun i => (ps.getD i pC0).2.2.2.1) kn (aheadOf (ps.getD i pC0).2.1 (ps.getD i pC0).2.2.1 (be t)) times).toInt32).2)) :
    tk_M Z mX12_paid d mc ms [.ref m, .int (nI (w0 + i)), .int (nI t), .int (nI gt), .int (nI times), .int o, .int al] S QR tk_noX := by
  refine M_X12_paid (Nat.le_of_ble_eq_true rfl) (fun E hE => hE.1 _ _ _ _ _ ?_)
  show t_X12_paid_0 Z d mc ms QR E [some (.ref m), some (.int (nI (w0 + i))), some (.int (nI t)), some (.int (nI gt)), some (.int (nI times)), some (.int o), some (.int al), none, none, none, none] [] S 0 0
  obtain ⟨h1, h2, h3⟩ := hR.1.1
  have hI := hR.2.1.1
  obtain ⟨a10, b10, c10, d10, -⟩ := hR.1.2 10 _ _ rfl
  obtain ⟨a11, b11, c11, d11, -⟩ := hR.1.2 11 _ _ rfl
  obtain ⟨a12, b12, c12, d12, -⟩ := hR.1.2 12 _ _ rfl
  obtain ⟨a21, b21, c21, d21, -⟩ := hR.1.2 21 _ _ rfl
  obtain ⟨a24, b24, c24, d24, -⟩ := hR.1.2 24 _ _ rfl
  obtain ⟨a36, b36, c36, d36, -⟩ := hR.1.2 36 _ _ rfl
  have x10 := hR.2.1.2.2.1 10 _ _ rfl (by decide)
  have x11 := hR.2.1.2.2.1 11 _ _ rfl (by decide)
  have x12 := hR.2.1.2.2.1 12 _ _ rfl (by decide)
  have x21 := hR.2.1.2.2.1 21 _ _ rfl (by decide)
  have x24 := hR.2.1.2.2.1 24 _ _ rfl (by decide)
  have x36 := hR.2.1.2.2.1 36 _ _ rfl (by decide)
  have hv0 := hv
  obtain ⟨v1, v2, v3, v4, v5, v6, v7, v8⟩ := hv
  rw [v5] at x21
  have ei : ps[i]? = some (ps.getD i pC0) := by simp [List.getD, hi]
  obtain ⟨off, o1, l1, l2, l3, l4, l5, l6⟩ := hac i _ ei
  have hoi := hck _ (List.mem_of_getElem? ei)
  generalize hp : ps.getD i pC0 = p at *
  have hin0 : vp_in (nI (w0 + i)) 480 := vp_in_nI (by omega) (by omega)
  have cw : (nI (w0 + i)).toNatClampNeg = w0 + i := nI_clamp (by omega)
  have hin : vp_in (nI t) 60 := vp_in_nI (by omega) (by omega)
  have ct : (nI t).toNatClampNeg = t := nI_clamp (by omega)
  have hin8 : vp_in (nI (8 * t + gt)) 480 := vp_in_nI (by omega) (by omega)
  have e8 : (8 : Int32) * nI t + nI gt = nI (8 * t + gt) := by
    rw [show (8 : Int32) = nI 8 by rfl, show nI 8 * nI t = nI (8 * t) from (Int32.ofNat_mul 8 t).symm, nI_add]
  have c8 : (nI (8 * t + gt)).toNatClampNeg = 8 * t + gt := nI_clamp (by omega)
  have hpd := (v7 (8 * t + gt) (by omega)).2
  generalize hFR : (fun i => (ps.getD i pC0).2.2.1) = FR at *
  generalize hSC : (fun i => (ps.getD i pC0).2.2.2.1) = SC at *
  have hfi := l2 (Or.inl hw)
  generalize hs0 : aheadOf p.2.1 p.2.2.1 (be t) = s0 at *
  -- the end
  have fin : ∀ (v : Int64) (hr an : Bool) (x y : Int32), (if hr = true then x = o ∧ 0 ≤ o else x = -1) → (if an = true then y = al ∧ 0 ≤ al else y = -1) → okV B m (rLk cc cl) QR (some (.int (chg x y (nI i) v.toInt32).1)) (wI V 35 (chg x y (nI i) v.toInt32).2) →
      (hr = false ∧ an = false → QR (some (.int v.toInt32)) S) ∧ (¬ (hr = false ∧ an = false) → E 206 [some (.ref m), some (.int (nI (w0 + i))), some (.int (nI t)), some (.int (nI gt)), some (.int (nI times)), some (.int o), some (.int al), some (.long v), none, some (.int (if hr = true then 1 else 0)), some (.int (if an = true then 1 else 0))] [] S 0 0) := by
    intro v hr an x y hx hy H9
    refine ⟨fun z => ?_, fun z => ?_⟩
    · rw [z.1, if_neg (by decide)] at hx
      rw [z.2, if_neg (by decide)] at hy
      subst hx
      subst hy
      rw [chg_nn] at H9
      have e := H9 S ρ R (RS.cast hR (by rw [show ((v.toInt32, nI i) : Int32 × Int32).2 = nI i from rfl, ← hby, wI_id]))
      exact e
    · refine hE.2.2.2.2 _ _ _ _ _ ?_
      rcases hr with _ | _
      · rcases an with _ | _
        · exact absurd ⟨rfl, rfl⟩ z
        · rw [if_neg (by decide)] at hx
          rw [if_pos rfl] at hy
          obtain ⟨rfl, hy2⟩ := hy
          subst hx
          rw [chg_np hy2] at H9
          simp -implicitDefEqProofs [t_X12_paid_206, i_aload, i_iload, i_lload, i_istore, i_lstore, i_astore, i_iinc, i_push, i_getI, i_getJ, i_getR, i_putI, i_putJ, i_putR, i_iadd, i_isub, i_imul, i_iand, i_ior, i_ixor, i_ishl, i_ishr, i_iushr, i_idiv, i_irem, i_ladd, i_lsub, i_lmul, i_land, i_lor, i_lxor, i_ldiv, i_lrem, i_lshl, i_lshr, i_lcmp, i_ineg, i_lneg, i_i2l, i_l2i, i_i2b, i_i2c, i_dup, i_pop, i_dup_x1, i_dup2, i_icmp_eq, i_icmp_lt, i_icmp_ge, i_icmp_gt, i_icmp_le, i_if_eq, i_if_lt, i_if_ge, i_if_gt, i_if_le, i_goto, i_ifnull, i_iald, i_bald, i_zald, i_lald, i_aald, i_iast, i_bast, i_zast, i_last, i_alen, i_iret, i_lret, i_aret, i_vret, i_oinit, i_cast, i_tsw, i_cases, i_mmin, i_mmax, i_lmin, i_throw, nb0, nb1, nint, nby0, rf_s, rf_n, of_r, of_n, tk_orf_rf, tk_c2, tk_ls, Value.category, tk_isR_ref, tk_isR_rf, tk_isR_null, h1, h2]
          exact H9 _ _ _ (hR.iI 35 _)
      · rw [if_pos rfl] at hx
        obtain ⟨rfl, hx2⟩ := hx
        rcases an with _ | _
        · rw [if_neg (by decide)] at hy
          subst hy
          rw [chg_pn hx2] at H9
          simp -implicitDefEqProofs [t_X12_paid_206, i_aload, i_iload, i_lload, i_istore, i_lstore, i_astore, i_iinc, i_push, i_getI, i_getJ, i_getR, i_putI, i_putJ, i_putR, i_iadd, i_isub, i_imul, i_iand, i_ior, i_ixor, i_ishl, i_ishr, i_iushr, i_idiv, i_irem, i_ladd, i_lsub, i_lmul, i_land, i_lor, i_lxor, i_ldiv, i_lrem, i_lshl, i_lshr, i_lcmp, i_ineg, i_lneg, i_i2l, i_l2i, i_i2b, i_i2c, i_dup, i_pop, i_dup_x1, i_dup2, i_icmp_eq, i_icmp_lt, i_icmp_ge, i_icmp_gt, i_icmp_le, i_if_eq, i_if_lt, i_if_ge, i_if_gt, i_if_le, i_goto, i_ifnull, i_iald, i_bald, i_zald, i_lald, i_aald, i_iast, i_bast, i_zast, i_last, i_alen, i_iret, i_lret, i_aret, i_vret, i_oinit, i_cast, i_tsw, i_cases, i_mmin, i_mmax, i_lmin, i_throw, nb0, nb1, nint, nby0, rf_s, rf_n, of_r, of_n, tk_orf_rf, tk_c2, tk_ls, Value.category, tk_isR_ref, tk_isR_rf, tk_isR_null, h1, h2]
          exact H9 _ _ _ (hR.iI 35 _)
        · rw [if_pos rfl] at hy
          obtain ⟨rfl, hy2⟩ := hy
          rw [chg_pp (Or.inr hx2) (Or.inr hy2) (fun z => by rw [z] at hx2; exact absurd hx2 (by decide)) (fun z => by rw [z] at hy2; exact absurd hy2 (by decide))] at H9
          simp -implicitDefEqProofs [t_X12_paid_206, i_aload, i_iload, i_lload, i_istore, i_lstore, i_astore, i_iinc, i_push, i_getI, i_getJ, i_getR, i_putI, i_putJ, i_putR, i_iadd, i_isub, i_imul, i_iand, i_ior, i_ixor, i_ishl, i_ishr, i_iushr, i_idiv, i_irem, i_ladd, i_lsub, i_lmul, i_land, i_lor, i_lxor, i_ldiv, i_lrem, i_lshl, i_lshr, i_lcmp, i_ineg, i_lneg, i_i2l, i_l2i, i_i2b, i_i2c, i_dup, i_pop, i_dup_x1, i_dup2, i_icmp_eq, i_icmp_lt, i_icmp_ge, i_icmp_gt, i_icmp_le, i_if_eq, i_if_lt, i_if_ge, i_if_gt, i_if_le, i_goto, i_ifnull, i_iald, i_bald, i_zald, i_lald, i_aald, i_iast, i_bast, i_zast, i_last, i_alen, i_iret, i_lret, i_aret, i_vret, i_oinit, i_cast, i_tsw, i_cases, i_mmin, i_mmax, i_lmin, i_throw, nb0, nb1, nint, nby0, rf_s, rf_n, of_r, of_n, tk_orf_rf, tk_c2, tk_ls, Value.category, tk_isR_ref, tk_isR_rf, tk_isR_null, h1, h2]
          refine ⟨fun w => ?_, fun w => ?_⟩
          · rw [if_neg (Int32.not_lt.mpr w)] at H9
            exact H9 _ _ _ (hR.iI 35 _)
          · rw [if_pos w] at H9
            exact H9 _ _ _ (hR.iI 35 _)
  -- here, anywhere
  have mid : ∀ (v : Int64) (x9 : Option Value) (hr : Bool) (x : Int32), (if hr = true then x = o ∧ 0 ≤ o else x = -1) → okV B m (rLk cc cl) QR (some (.int (chg x (if anyD pd (vI V 32) (8 * t) nG = true then al else -1) (nI i) v.toInt32).1)) (wI V 35 (chg x (if anyD pd (vI V 32) (8 * t) nG = true then al else -1) (nI i) v.toInt32).2) →
      E 170 [some (.ref m), some (.int (nI (w0 + i))), some (.int (nI t)), some (.int (nI gt)), some (.int (nI times)), some (.int o), some (.int al), some (.long v), none, x9, none] [.int (if hr = true then 1 else 0)] S 0 0 := by
    intro v x9 hr x hx H
    refine hE.2.2.2.1 _ _ _ _ _ ?_
    simp -implicitDefEqProofs [t_X12_paid_170, i_aload, i_iload, i_lload, i_istore, i_lstore, i_astore, i_iinc, i_push, i_getI, i_getJ, i_getR, i_putI, i_putJ, i_putR, i_iadd, i_isub, i_imul, i_iand, i_ior, i_ixor, i_ishl, i_ishr, i_iushr, i_idiv, i_irem, i_ladd, i_lsub, i_lmul, i_land, i_lor, i_lxor, i_ldiv, i_lrem, i_lshl, i_lshr, i_lcmp, i_ineg, i_lneg, i_i2l, i_l2i, i_i2b, i_i2c, i_dup, i_pop, i_dup_x1, i_dup2, i_icmp_eq, i_icmp_lt, i_icmp_ge, i_icmp_gt, i_icmp_le, i_if_eq, i_if_lt, i_if_ge, i_if_gt, i_if_le, i_goto, i_ifnull, i_iald, i_bald, i_zald, i_lald, i_aald, i_iast, i_bast, i_zast, i_last, i_alen, i_iret, i_lret, i_aret, i_vret, i_oinit, i_cast, i_tsw, i_cases, i_mmin, i_mmax, i_lmin, i_throw, nb0, nb1, nint, nby0, rf_s, rf_n, of_r, of_n, tk_orf_rf, tk_c2, tk_ls, Value.category, tk_isR_ref, tk_isR_rf, tk_isR_null, h1, h2]
    refine ⟨fun w => ?_, fun w => ?_⟩
    · have hal2 : al = -1 := hal.resolve_right (fun z => absurd w (Int32.not_lt.mpr z))
      have e1 : (if anyD pd (vI V 32) (8 * t) nG = true then al else -1) = -1 := by rw [hal2]; simp
      rw [e1] at H
      have g := fin v hr false x (-1) hx (by simp) H
      rcases hr with _ | _
      · simp
        exact g.1 ⟨rfl, rfl⟩
      · simp
        exact g.2 (fun z => absurd z.1 (by decide))
    · have hal2 : 0 ≤ al := w
      refine ⟨by simp, h1, h2, by simp [Value.category], 0, 0, 0, by omega, by omega, by omega, ?_⟩
      refine r_paidAnywhere hR hv0 ht hG hG8 ?_
      rcases ha : anyD pd (vI V 32) (8 * t) nG with _ | _
      · rw [ha] at H
        have g := fin v hr false x (-1) hx (by simp) (by simpa using H)
        rcases hr with _ | _
        · simp -implicitDefEqProofs [i_aload, i_iload, i_lload, i_istore, i_lstore, i_astore, i_iinc, i_push, i_getI, i_getJ, i_getR, i_putI, i_putJ, i_putR, i_iadd, i_isub, i_imul, i_iand, i_ior, i_ixor, i_ishl, i_ishr, i_iushr, i_idiv, i_irem, i_ladd, i_lsub, i_lmul, i_land, i_lor, i_lxor, i_ldiv, i_lrem, i_lshl, i_lshr, i_lcmp, i_ineg, i_lneg, i_i2l, i_l2i, i_i2b, i_i2c, i_dup, i_pop, i_dup_x1, i_dup2, i_icmp_eq, i_icmp_lt, i_icmp_ge, i_icmp_gt, i_icmp_le, i_if_eq, i_if_lt, i_if_ge, i_if_gt, i_if_le, i_goto, i_ifnull, i_iald, i_bald, i_zald, i_lald, i_aald, i_iast, i_bast, i_zast, i_last, i_alen, i_iret, i_lret, i_aret, i_vret, i_oinit, i_cast, i_tsw, i_cases, i_mmin, i_mmax, i_lmin, i_throw, nb0, nb1, nint, nby0, rf_s, rf_n, of_r, of_n, tk_orf_rf, tk_c2, tk_ls, Value.category, tk_isR_ref, tk_isR_rf, tk_isR_null]
          exact g.1 ⟨rfl, rfl⟩
        · simp -implicitDefEqProofs [i_aload, i_iload, i_lload, i_istore, i_lstore, i_astore, i_iinc, i_push, i_getI, i_getJ, i_getR, i_putI, i_putJ, i_putR, i_iadd, i_isub, i_imul, i_iand, i_ior, i_ixor, i_ishl, i_ishr, i_iushr, i_idiv, i_irem, i_ladd, i_lsub, i_lmul, i_land, i_lor, i_lxor, i_ldiv, i_lrem, i_lshl, i_lshr, i_lcmp, i_ineg, i_lneg, i_i2l, i_l2i, i_i2b, i_i2c, i_dup, i_pop, i_dup_x1, i_dup2, i_icmp_eq, i_icmp_lt, i_icmp_ge, i_icmp_gt, i_icmp_le, i_if_eq, i_if_lt, i_if_ge, i_if_gt, i_if_le, i_goto, i_ifnull, i_iald, i_bald, i_zald, i_lald, i_aald, i_iast, i_bast, i_zast, i_last, i_alen, i_iret, i_lret, i_aret, i_vret, i_oinit, i_cast, i_tsw, i_cases, i_mmin, i_mmax, i_lmin, i_throw, nb0, nb1, nint, nby0, rf_s, rf_n, of_r, of_n, tk_orf_rf, tk_c2, tk_ls, Value.category, tk_isR_ref, tk_isR_rf, tk_isR_null]
          exact g.2 (fun z => absurd z.1 (by decide))
      · rw [ha] at H
        have g := fin v hr true x al hx (by simp [hal2]) (by simpa using H)
        rcases hr with _ | _
        · simp -implicitDefEqProofs [i_aload, i_iload, i_lload, i_istore, i_lstore, i_astore, i_iinc, i_push, i_getI, i_getJ, i_getR, i_putI, i_putJ, i_putR, i_iadd, i_isub, i_imul, i_iand, i_ior, i_ixor, i_ishl, i_ishr, i_iushr, i_idiv, i_irem, i_ladd, i_lsub, i_lmul, i_land, i_lor, i_lxor, i_ldiv, i_lrem, i_lshl, i_lshr, i_lcmp, i_ineg, i_lneg, i_i2l, i_l2i, i_i2b, i_i2c, i_dup, i_pop, i_dup_x1, i_dup2, i_icmp_eq, i_icmp_lt, i_icmp_ge, i_icmp_gt, i_icmp_le, i_if_eq, i_if_lt, i_if_ge, i_if_gt, i_if_le, i_goto, i_ifnull, i_iald, i_bald, i_zald, i_lald, i_aald, i_iast, i_bast, i_zast, i_last, i_alen, i_iret, i_lret, i_aret, i_vret, i_oinit, i_cast, i_tsw, i_cases, i_mmin, i_mmax, i_lmin, i_throw, nb0, nb1, nint, nby0, rf_s, rf_n, of_r, of_n, tk_orf_rf, tk_c2, tk_ls, Value.category, tk_isR_ref, tk_isR_rf, tk_isR_null]
          exact g.2 (fun z => absurd z.2 (by decide))
        · simp -implicitDefEqProofs [i_aload, i_iload, i_lload, i_istore, i_lstore, i_astore, i_iinc, i_push, i_getI, i_getJ, i_getR, i_putI, i_putJ, i_putR, i_iadd, i_isub, i_imul, i_iand, i_ior, i_ixor, i_ishl, i_ishr, i_iushr, i_idiv, i_irem, i_ladd, i_lsub, i_lmul, i_land, i_lor, i_lxor, i_ldiv, i_lrem, i_lshl, i_lshr, i_lcmp, i_ineg, i_lneg, i_i2l, i_l2i, i_i2b, i_i2c, i_dup, i_pop, i_dup_x1, i_dup2, i_icmp_eq, i_icmp_lt, i_icmp_ge, i_icmp_gt, i_icmp_le, i_if_eq, i_if_lt, i_if_ge, i_if_gt, i_if_le, i_goto, i_ifnull, i_iald, i_bald, i_zald, i_lald, i_aald, i_iast, i_bast, i_zast, i_last, i_alen, i_iret, i_lret, i_aret, i_vret, i_oinit, i_cast, i_tsw, i_cases, i_mmin, i_mmax, i_lmin, i_throw, nb0, nb1, nint, nby0, rf_s, rf_n, of_r, of_n, tk_orf_rf, tk_c2, tk_ls, Value.category, tk_isR_ref, tk_isR_rf, tk_isR_null]
          exact g.2 (fun z => absurd z.1 (by decide))
  have loop : ∀ q j, j + q = times → E 78 [some (.ref m), some (.int (nI (w0 + i))), some (.int (nI t)), some (.int (nI gt)), some (.int (nI times)), some (.int o), some (.int al), some (.long (timesIn FR SC kn s0 j)), none, some (.int (nI j)), none] [] S 0 0 := by
    intro q
    induction q with
    | zero =>
      intro j hj
      have hj2 : j = times := by omega
      subst hj2
      refine hE.2.2.1 _ _ _ _ _ ?_
      have z : nI j ≤ nI j := nI_le (Nat.le_refl _) (by omega)
      simp -implicitDefEqProofs [t_X12_paid_78, i_aload, i_iload, i_lload, i_istore, i_lstore, i_astore, i_iinc, i_push, i_getI, i_getJ, i_getR, i_putI, i_putJ, i_putR, i_iadd, i_isub, i_imul, i_iand, i_ior, i_ixor, i_ishl, i_ishr, i_iushr, i_idiv, i_irem, i_ladd, i_lsub, i_lmul, i_land, i_lor, i_lxor, i_ldiv, i_lrem, i_lshl, i_lshr, i_lcmp, i_ineg, i_lneg, i_i2l, i_l2i, i_i2b, i_i2c, i_dup, i_pop, i_dup_x1, i_dup2, i_icmp_eq, i_icmp_lt, i_icmp_ge, i_icmp_gt, i_icmp_le, i_if_eq, i_if_lt, i_if_ge, i_if_gt, i_if_le, i_goto, i_ifnull, i_iald, i_bald, i_zald, i_lald, i_aald, i_iast, i_bast, i_zast, i_last, i_alen, i_iret, i_lret, i_aret, i_vret, i_oinit, i_cast, i_tsw, i_cases, i_mmin, i_mmax, i_lmin, i_throw, nb0, nb1, nint, nby0, rf_s, rf_n, of_r, of_n, tk_orf_rf, tk_c2, tk_ls, Value.category, tk_isR_ref, tk_isR_rf, tk_isR_null, h1, h2, hI, z, a24, b24, c24, d24, x24, e8, hin8, c8, hpd]
      refine ⟨fun w => ?_, fun w => ⟨fun w2 => ?_, fun w2 => ?_⟩⟩
      · have ho2 : o = -1 := ho.resolve_right (fun z => absurd w (Int32.not_lt.mpr z))
        have e1 : (if pd (8 * t + gt) = vI V 32 then o else -1) = -1 := by rw [ho2]; simp
        rw [e1] at H
        have g := mid _ (some (.int (nI j))) false (-1) (by simp) H
        simpa using g
      · rw [if_pos w2] at H
        have g := mid _ (some (.int (nI j))) true o (by simp [w]) H
        simpa using g
      · rw [if_neg w2] at H
        have g := mid _ (some (.int (nI j))) false (-1) (by simp) H
        simpa using g
    | succ q ih =>
      intro j hj
      refine hE.2.2.1 _ _ _ _ _ ?_
      have z : ¬ nI times ≤ nI j := nI_ge (by omega) (by omega)
      obtain ⟨k1, k2, k3⟩ := hkn j (by omega)
      have ej : ps[kn j]? = some (ps.getD (kn j) pC0) := by simp [List.getD, k2]
      obtain ⟨off2, -, -, m2, m3, -, -, -⟩ := hac (kn j) _ ej
      have hoj := hck _ (List.mem_of_getElem? ej)
      have f1 : vA V 11 (w0 + kn j) = FR (kn j) := by rw [← hFR]; exact m2 (Or.inr k3)
      have f2 : vA V 12 (w0 + kn j) = SC (kn j) := by rw [← hSC]; exact m3 k3
      have hs : 0 < SC (kn j) := by
        rw [← hSC]
        rcases hoj.1 with h | h | h | h
        · exact absurd (h.1.symm.trans k3) (by decide)
        · exact absurd (h.1.symm.trans k3) (by decide)
        · obtain ⟨-, -, q1, q2, q3, q4⟩ := h
          show 0 < (ps.getD (kn j) pC0).2.2.2.1
          rw [q4]
          exact show nI 0 < nI q1 from nI_lt (by omega) (by omega)
        · exact absurd (h.1.symm.trans k3) (by decide)
      have hin40 : vp_in (nI j) 40 := vp_in_nI (by omega) (by omega)
      have cj : (nI j).toNatClampNeg = j := nI_clamp (by omega)
      have hink : vp_in (nI (w0 + kn j)) 480 := vp_in_nI (by omega) (by omega)
      have ck : (nI (w0 + kn j)).toNatClampNeg = w0 + kn j := nI_clamp (by omega)
      have ek : nI j + 1 = nI (j + 1) := nI_add j 1
      have g := ih (j + 1) (by omega)
      rw [timesIn, if_pos hs] at g
      simp -implicitDefEqProofs [t_X12_paid_78, i_aload, i_iload, i_lload, i_istore, i_lstore, i_astore, i_iinc, i_push, i_getI, i_getJ, i_getR, i_putI, i_putJ, i_putR, i_iadd, i_isub, i_imul, i_iand, i_ior, i_ixor, i_ishl, i_ishr, i_iushr, i_idiv, i_irem, i_ladd, i_lsub, i_lmul, i_land, i_lor, i_lxor, i_ldiv, i_lrem, i_lshl, i_lshr, i_lcmp, i_ineg, i_lneg, i_i2l, i_l2i, i_i2b, i_i2c, i_dup, i_pop, i_dup_x1, i_dup2, i_icmp_eq, i_icmp_lt, i_icmp_ge, i_icmp_gt, i_icmp_le, i_if_eq, i_if_lt, i_if_ge, i_if_gt, i_if_le, i_goto, i_ifnull, i_iald, i_bald, i_zald, i_lald, i_aald, i_iast, i_bast, i_zast, i_last, i_alen, i_iret, i_lret, i_aret, i_vret, i_oinit, i_cast, i_tsw, i_cases, i_mmin, i_mmax, i_lmin, i_throw, nb0, nb1, nint, nby0, rf_s, rf_n, of_r, of_n, tk_orf_rf, tk_c2, tk_ls, Value.category, tk_isR_ref, tk_isR_rf, tk_isR_null, h1, h2, hI, z, a11, b11, c11, d11, x11, a12, b12, c12, d12, x12, a36, b36, c36, d36, x36, hin40, cj, k1, hink, ck, f1, f2, ek, lg_cmp_le]
      refine ⟨toL_ne hs, fun w => ?_, fun w => ?_⟩
      · rw [if_neg (Int64.not_lt.mpr w)] at g
        exact g
      · rw [if_pos w] at g
        exact g
  have at52 : ∀ (f x : Int32), aheadOf p.2.1 p.2.2.1 (be t) = (if 1000000 < f.toInt64 * x.toInt64 then 1000000 else f.toInt64 * x.toInt64) → E 52 [some (.ref m), some (.int (nI (w0 + i))), some (.int (nI t)), some (.int (nI gt)), some (.int (nI times)), some (.int o), some (.int al), none, none, none, none] [.int x, .long f.toInt64] S 0 0 := by
    intro f x he
    refine hE.2.1 _ _ _ _ _ ?_
    have g := loop times 0 (by omega)
    rw [timesIn, ← hs0, he] at g
    simp -implicitDefEqProofs [t_X12_paid_52, i_aload, i_iload, i_lload, i_istore, i_lstore, i_astore, i_iinc, i_push, i_getI, i_getJ, i_getR, i_putI, i_putJ, i_putR, i_iadd, i_isub, i_imul, i_iand, i_ior, i_ixor, i_ishl, i_ishr, i_iushr, i_idiv, i_irem, i_ladd, i_lsub, i_lmul, i_land, i_lor, i_lxor, i_ldiv, i_lrem, i_lshl, i_lshr, i_lcmp, i_ineg, i_lneg, i_i2l, i_l2i, i_i2b, i_i2c, i_dup, i_pop, i_dup_x1, i_dup2, i_icmp_eq, i_icmp_lt, i_icmp_ge, i_icmp_gt, i_icmp_le, i_if_eq, i_if_lt, i_if_ge, i_if_gt, i_if_le, i_goto, i_ifnull, i_iald, i_bald, i_zald, i_lald, i_aald, i_iast, i_bast, i_zast, i_last, i_alen, i_iret, i_lret, i_aret, i_vret, i_oinit, i_cast, i_tsw, i_cases, i_mmin, i_mmax, i_lmin, i_throw, nb0, nb1, nint, nby0, rf_s, rf_n, of_r, of_n, tk_orf_rf, tk_c2, tk_ls, Value.category, tk_isR_ref, tk_isR_rf, tk_isR_null, lg_cmp_le]
    refine ⟨fun w => ?_, fun w => ?_⟩
    · rw [if_neg (Int64.not_lt.mpr w)] at g
      exact g
    · rw [if_pos w] at g
      exact g
  have hsort : vA V 10 (w0 + i) = srt 257 p.2.1 := by rw [l1, hw]
  rcases hoi.1 with q | q | q | q
  · exact absurd (q.1.symm.trans hw) (by decide)
  · rcases q.2 with e | e | e
    · rw [e] at hsort
      have hs1 : vA V 10 (w0 + i) = 1 := hsort
      simp -implicitDefEqProofs [t_X12_paid_0, i_aload, i_iload, i_lload, i_istore, i_lstore, i_astore, i_iinc, i_push, i_getI, i_getJ, i_getR, i_putI, i_putJ, i_putR, i_iadd, i_isub, i_imul, i_iand, i_ior, i_ixor, i_ishl, i_ishr, i_iushr, i_idiv, i_irem, i_ladd, i_lsub, i_lmul, i_land, i_lor, i_lxor, i_ldiv, i_lrem, i_lshl, i_lshr, i_lcmp, i_ineg, i_lneg, i_i2l, i_l2i, i_i2b, i_i2c, i_dup, i_pop, i_dup_x1, i_dup2, i_icmp_eq, i_icmp_lt, i_icmp_ge, i_icmp_gt, i_icmp_le, i_if_eq, i_if_lt, i_if_ge, i_if_gt, i_if_le, i_goto, i_ifnull, i_iald, i_bald, i_zald, i_lald, i_aald, i_iast, i_bast, i_zast, i_last, i_alen, i_iret, i_lret, i_aret, i_vret, i_oinit, i_cast, i_tsw, i_cases, i_mmin, i_mmax, i_lmin, i_throw, nb0, nb1, nint, nby0, rf_s, rf_n, of_r, of_n, tk_orf_rf, tk_c2, tk_ls, Value.category, tk_isR_ref, tk_isR_rf, tk_isR_null, h1, h2, a10, b10, c10, d10, x10, a11, b11, c11, d11, x11, hin0, cw, hfi, hs1]
      refine at52 _ 1 ?_
      unfold aheadOf
      rw [e, if_neg (show ¬ ((-1 : Int32) = 261) by decide), if_neg (show ¬ ((-1 : Int32) = 262) by decide)]
      rw [show p.2.2.1.toInt64 * (1 : Int32).toInt64 = p.2.2.1.toInt64 from Int64.mul_one _]
    · rw [e] at hsort
      have hs1 : vA V 10 (w0 + i) = 2 := hsort
      simp -implicitDefEqProofs [t_X12_paid_0, i_aload, i_iload, i_lload, i_istore, i_lstore, i_astore, i_iinc, i_push, i_getI, i_getJ, i_getR, i_putI, i_putJ, i_putR, i_iadd, i_isub, i_imul, i_iand, i_ior, i_ixor, i_ishl, i_ishr, i_iushr, i_idiv, i_irem, i_ladd, i_lsub, i_lmul, i_land, i_lor, i_lxor, i_ldiv, i_lrem, i_lshl, i_lshr, i_lcmp, i_ineg, i_lneg, i_i2l, i_l2i, i_i2b, i_i2c, i_dup, i_pop, i_dup_x1, i_dup2, i_icmp_eq, i_icmp_lt, i_icmp_ge, i_icmp_gt, i_icmp_le, i_if_eq, i_if_lt, i_if_ge, i_if_gt, i_if_le, i_goto, i_ifnull, i_iald, i_bald, i_zald, i_lald, i_aald, i_iast, i_bast, i_zast, i_last, i_alen, i_iret, i_lret, i_aret, i_vret, i_oinit, i_cast, i_tsw, i_cases, i_mmin, i_mmax, i_lmin, i_throw, nb0, nb1, nint, nby0, rf_s, rf_n, of_r, of_n, tk_orf_rf, tk_c2, tk_ls, Value.category, tk_isR_ref, tk_isR_rf, tk_isR_null, h1, h2, a10, b10, c10, d10, x10, a11, b11, c11, d11, x11, a21, b21, c21, d21, x21, hin, ct, hin0, cw, hfi, hs1]
      refine at52 _ _ ?_
      unfold aheadOf
      rw [e, if_pos rfl]
    · rw [e] at hsort
      have hs1 : vA V 10 (w0 + i) = 3 := hsort
      simp -implicitDefEqProofs [t_X12_paid_0, i_aload, i_iload, i_lload, i_istore, i_lstore, i_astore, i_iinc, i_push, i_getI, i_getJ, i_getR, i_putI, i_putJ, i_putR, i_iadd, i_isub, i_imul, i_iand, i_ior, i_ixor, i_ishl, i_ishr, i_iushr, i_idiv, i_irem, i_ladd, i_lsub, i_lmul, i_land, i_lor, i_lxor, i_ldiv, i_lrem, i_lshl, i_lshr, i_lcmp, i_ineg, i_lneg, i_i2l, i_l2i, i_i2b, i_i2c, i_dup, i_pop, i_dup_x1, i_dup2, i_icmp_eq, i_icmp_lt, i_icmp_ge, i_icmp_gt, i_icmp_le, i_if_eq, i_if_lt, i_if_ge, i_if_gt, i_if_le, i_goto, i_ifnull, i_iald, i_bald, i_zald, i_lald, i_aald, i_iast, i_bast, i_zast, i_last, i_alen, i_iret, i_lret, i_aret, i_vret, i_oinit, i_cast, i_tsw, i_cases, i_mmin, i_mmax, i_lmin, i_throw, nb0, nb1, nint, nby0, rf_s, rf_n, of_r, of_n, tk_orf_rf, tk_c2, tk_ls, Value.category, tk_isR_ref, tk_isR_rf, tk_isR_null, h1, h2, a10, b10, c10, d10, x10, a11, b11, c11, d11, x11, a21, b21, c21, d21, x21, hin, ct, hin0, cw, hfi, hs1]
      refine at52 _ _ ?_
      unfold aheadOf
      rw [e, if_neg (show ¬ ((262 : Int32) = 261) by decide), if_pos rfl]
  · exact absurd (q.1.symm.trans hw) (by decide)
  · exact absurd (q.1.symm.trans hw) (by decide)
end RPAID

/-! CLAUSES: does one hold of the facts -/
section HOLDS
variable {Z : tk_Z} {d mc ms : Nat} {S : tk_S} {QR : tk_R}
/-- is a fact as it is asked -/
def factI (x rel ag : Int32) : Int32 := if rel = 61 then (if x = ag then 1 else 0) else if rel = 60 then (if x < ag then 1 else 0) else (if ag < x then 1 else 0)
theorem fact01 (x rel ag : Int32) : factI x rel ag = 0 ∨ factI x rel ag = 1 := by
  unfold factI
  by_cases h1 : rel = 61
  · rw [if_pos h1]
    by_cases h2 : x = ag
    · rw [if_pos h2]; exact Or.inr rfl
    · rw [if_neg h2]; exact Or.inl rfl
  · rw [if_neg h1]
    by_cases h3 : rel = 60
    · rw [if_pos h3]
      by_cases h2 : x < ag
      · rw [if_pos h2]; exact Or.inr rfl
      · rw [if_neg h2]; exact Or.inl rfl
    · rw [if_neg h3]
      by_cases h2 : ag < x
      · rw [if_pos h2]; exact Or.inr rfl
      · rw [if_neg h2]; exact Or.inl rfl
/-- the bits after the first k steps -/
def bitsIn (w rel ag : Nat → Int32) (fk : Nat → Int32) : Nat → Int64
  | 0 => 0
  | k + 1 => if w k = 266 then bitsIn w rel ag fk k ^^^ 1 else if w k = 264 then bitsIn w rel ag fk k >>> (1 &&& 63) ||| bitsIn w rel ag fk k &&& 1 else if w k = 265 then (if bitsIn w rel ag fk k &&& 1 = 1 then bitsIn w rel ag fk k >>> (1 &&& 63) else bitsIn w rel ag fk k >>> (1 &&& 63) &&& -2) else bitsIn w rel ag fk k <<< (1 &&& 63) ||| (factI (fk k) (rel k) (ag k)).toInt64
theorem cmp1 (x : Int64) : lg_cmp x 1 = 0 ↔ x = 1 := by
  unfold lg_cmp
  by_cases h : x > 1
  · rw [if_pos h]
    exact ⟨fun w => absurd w (by decide), fun w => absurd (w ▸ h) (by decide)⟩
  · rw [if_neg h]
    by_cases g : x = 1
    · rw [if_pos g]
      exact ⟨fun _ => g, fun _ => rfl⟩
    · rw [if_neg g]
      exact ⟨fun w => absurd w (by decide), fun w => absurd w g⟩
set_option maxHeartbeats 4000000 in
theorem m_holdsOf {c qs qf m : Nat} {w rel ag : Nat → Int32} {kf : Nat → Nat} (hd : 2 ≤ d) (hc : c ∈ q_L S) (hck : q_K S c = 4) (hr : q_R S 4 4 c = some qs) (hq : qs ∈ q_L S) (hqk : q_K S qs = 15) (hqn : q_n S qs = 3 * m) (hm : m ≤ 700) (hf : qf ∈ q_L S) (hfk : q_K S qf = 15) (hfn : q_n S qf = 10)
    (hs : ∀ k, k < m → q_aI S qs (3 * k) = w k ∧ q_aI S qs (3 * k + 1) = rel k ∧ q_aI S qs (3 * k + 2) = ag k ∧ (w k = 264 ∨ w k = 265 ∨ w k = 266 ∨ (w k = nI (267 + kf k) ∧ kf k < 10)))
    (h : QR (some (.int (if m = 0 then 1 else if bitsIn w rel ag (fun k => q_aI S qf (kf k)) m &&& 1 = 1 then 1 else 0))) S) : tk_M Z mX3_holdsOf d mc ms [.ref c, .ref qf] S QR tk_noX := by
  refine M_X3_holdsOf (Nat.le_of_ble_eq_true rfl) (fun E hE => hE.1 _ _ _ _ _ ?_)
  have loop : ∀ r k x5 x6, k + r = m → m ≠ 0 → E 15 [some (.ref c), some (.ref qf), some (.long (bitsIn w rel ag (fun k => q_aI S qf (kf k)) k)), none, some (.int (nI (3 * k))), x5, x6] [] S 0 0 := by
    intro r
    induction r with
    | zero =>
      intro k x5 x6 hk hm0
      refine hE.2 _ _ _ _ _ ?_
      have hkm : k = m := by omega
      subst hkm
      have e2 : nI (3 * k) + 2 = nI (3 * k + 2) := nI_add _ 2
      have z : nI (3 * k) ≤ nI (3 * k + 2) := nI_le (by omega) (by omega)
      have z' : ¬ nI (3 * k + 2) < nI (3 * k) := nI_nlt (by omega) (by omega)
      simp -implicitDefEqProofs [t_X3_holdsOf_15, i_aload, i_iload, i_lload, i_istore, i_lstore, i_astore, i_iinc, i_push, i_getI, i_getJ, i_getR, i_putI, i_putJ, i_putR, i_iadd, i_isub, i_imul, i_iand, i_ior, i_ixor, i_ishl, i_ishr, i_iushr, i_idiv, i_irem, i_ladd, i_lsub, i_lmul, i_land, i_lor, i_lxor, i_ldiv, i_lrem, i_lshl, i_lshr, i_lcmp, i_ineg, i_lneg, i_i2l, i_l2i, i_i2b, i_i2c, i_dup, i_pop, i_dup_x1, i_dup2, i_icmp_eq, i_icmp_lt, i_icmp_ge, i_icmp_gt, i_icmp_le, i_if_eq, i_if_lt, i_if_ge, i_if_gt, i_if_le, i_goto, i_ifnull, i_iald, i_bald, i_zald, i_lald, i_aald, i_iast, i_bast, i_zast, i_last, i_alen, i_iret, i_lret, i_aret, i_vret, i_oinit, i_cast, i_tsw, i_cases, i_mmin, i_mmax, i_lmin, i_throw, nb0, nb1, nint, nby0, rf_s, rf_n, of_r, of_n, tk_orf_rf, tk_c2, tk_ls, Value.category, tk_isR_ref, tk_isR_rf, tk_isR_null, hc, hck, hr, hq, hqk, hqn, e2, z, z']
      rw [if_neg hm0] at h
      have hb := cmp1 (bitsIn w rel ag (fun k => q_aI S qf (kf k)) k &&& 1)
      refine ⟨fun w1 => ?_, fun w1 => ?_⟩
      · rw [if_pos (hb.mp w1)] at h; exact h
      · rw [if_neg (fun w2 => w1 (hb.mpr w2))] at h; exact h
    | succ r ih =>
      intro k x5 x6 hk hm0
      refine hE.2 _ _ _ _ _ ?_
      obtain ⟨s1, s2, s3, s4⟩ := hs k (by omega)
      have e2 : nI (3 * k) + 2 = nI (3 * k + 2) := nI_add _ 2
      have e1 : nI (3 * k) + 1 = nI (3 * k + 1) := nI_add _ 1
      have e3 : nI (3 * k) + 3 = nI (3 * k + 3) := nI_add _ 3
      have z : ¬ nI (3 * m) ≤ nI (3 * k + 2) := nI_ge (by omega) (by omega)
      have z' : nI (3 * k + 2) < nI (3 * m) := nI_lt (by omega) (by omega)
      have i0 : vp_in (nI (3 * k)) (3 * m) := vp_in_nI (by omega) (by omega)
      have i1 : vp_in (nI (3 * k + 1)) (3 * m) := vp_in_nI (by omega) (by omega)
      have i2 : vp_in (nI (3 * k + 2)) (3 * m) := vp_in_nI (by omega) (by omega)
      have c0 : (nI (3 * k)).toNatClampNeg = 3 * k := nI_clamp (by omega)
      have c1 : (nI (3 * k + 1)).toNatClampNeg = 3 * k + 1 := nI_clamp (by omega)
      have c2 : (nI (3 * k + 2)).toNatClampNeg = 3 * k + 2 := nI_clamp (by omega)
      simp -implicitDefEqProofs [t_X3_holdsOf_15, i_aload, i_iload, i_lload, i_istore, i_lstore, i_astore, i_iinc, i_push, i_getI, i_getJ, i_getR, i_putI, i_putJ, i_putR, i_iadd, i_isub, i_imul, i_iand, i_ior, i_ixor, i_ishl, i_ishr, i_iushr, i_idiv, i_irem, i_ladd, i_lsub, i_lmul, i_land, i_lor, i_lxor, i_ldiv, i_lrem, i_lshl, i_lshr, i_lcmp, i_ineg, i_lneg, i_i2l, i_l2i, i_i2b, i_i2c, i_dup, i_pop, i_dup_x1, i_dup2, i_icmp_eq, i_icmp_lt, i_icmp_ge, i_icmp_gt, i_icmp_le, i_if_eq, i_if_lt, i_if_ge, i_if_gt, i_if_le, i_goto, i_ifnull, i_iald, i_bald, i_zald, i_lald, i_aald, i_iast, i_bast, i_zast, i_last, i_alen, i_iret, i_lret, i_aret, i_vret, i_oinit, i_cast, i_tsw, i_cases, i_mmin, i_mmax, i_lmin, i_throw, nb0, nb1, nint, nby0, rf_s, rf_n, of_r, of_n, tk_orf_rf, tk_c2, tk_ls, Value.category, tk_isR_ref, tk_isR_rf, tk_isR_null, hc, hck, hr, hq, hqk, hqn, e1, e2, e3, z, z', i0, i1, i2, c0, c1, c2, s1, s2, s3]
      have hb := cmp1 (bitsIn w rel ag (fun k => q_aI S qf (kf k)) k &&& 1)
      have e5 : 3 * (k + 1) = 3 * k + 3 := by omega
      have g := fun x5 x6 => ih (k + 1) x5 x6 (by omega) hm0
      rw [e5] at g
      refine ⟨fun w1 => ?_, fun w1 => ⟨fun w2 => ?_, fun w2 => ⟨fun w3 => ⟨fun w4 => ?_, fun w4 => ?_⟩, fun w3 => ?_⟩⟩⟩
      · rw [bitsIn, if_pos w1] at g; exact g _ _
      · rw [bitsIn, if_neg w1, if_pos w2] at g; exact g _ _
      · rw [bitsIn, if_neg w1, if_neg w2, if_pos w3, if_pos (hb.mp w4)] at g; exact g _ _
      · rw [bitsIn, if_neg w1, if_neg w2, if_pos w3, if_neg (fun w5 => w4 (hb.mpr w5))] at g; exact g _ _
      · obtain ⟨y1, y2⟩ := ((s4.resolve_left w2).resolve_left w3).resolve_left w1
        rw [bitsIn, if_neg w1, if_neg w2, if_neg w3] at g
        refine ⟨by simp, by simp [Value.category], 1, 0, 0, by omega, by omega, by omega, ?_⟩
        rw [y1]
        refine m_isTrue (w := 0) hf hfk hfn (by omega) y2 ?_
        simp -implicitDefEqProofs [i_aload, i_iload, i_lload, i_istore, i_lstore, i_astore, i_iinc, i_push, i_getI, i_getJ, i_getR, i_putI, i_putJ, i_putR, i_iadd, i_isub, i_imul, i_iand, i_ior, i_ixor, i_ishl, i_ishr, i_iushr, i_idiv, i_irem, i_ladd, i_lsub, i_lmul, i_land, i_lor, i_lxor, i_ldiv, i_lrem, i_lshl, i_lshr, i_lcmp, i_ineg, i_lneg, i_i2l, i_l2i, i_i2b, i_i2c, i_dup, i_pop, i_dup_x1, i_dup2, i_icmp_eq, i_icmp_lt, i_icmp_ge, i_icmp_gt, i_icmp_le, i_if_eq, i_if_lt, i_if_ge, i_if_gt, i_if_le, i_goto, i_ifnull, i_iald, i_bald, i_zald, i_lald, i_aald, i_iast, i_bast, i_zast, i_last, i_alen, i_iret, i_lret, i_aret, i_vret, i_oinit, i_cast, i_tsw, i_cases, i_mmin, i_mmax, i_lmin, i_throw, nb0, nb1, nint, nby0, rf_s, rf_n, of_r, of_n, tk_orf_rf, tk_c2, tk_ls, Value.category, tk_isR_ref, tk_isR_rf, tk_isR_null]
        rw [e3]
        have hfi := fact01 (q_aI S qf (kf k)) (rel k) (ag k)
        generalize hF : factI (q_aI S qf (kf k)) (rel k) (ag k) = F at g hfi
        unfold factI at hF
        rw [hF]
        rcases hfi with z5 | z5
        · refine ⟨fun _ => ?_, fun w5 => absurd z5 w5⟩
          rw [z5, show (0 : Int32).toInt64 = 0 from rfl, Int64.or_zero] at g
          exact g _ _
        · refine ⟨fun w5 => absurd (z5 ▸ w5) (by decide), fun _ => ?_⟩
          rw [z5, show (1 : Int32).toInt64 = 1 from rfl] at g
          exact g _ _
  show t_X3_holdsOf_0 Z d mc ms QR E [some (.ref c), some (.ref qf), none, none, none, none, none] [] S 0 0
  simp -implicitDefEqProofs [t_X3_holdsOf_0, i_aload, i_iload, i_lload, i_istore, i_lstore, i_astore, i_iinc, i_push, i_getI, i_getJ, i_getR, i_putI, i_putJ, i_putR, i_iadd, i_isub, i_imul, i_iand, i_ior, i_ixor, i_ishl, i_ishr, i_iushr, i_idiv, i_irem, i_ladd, i_lsub, i_lmul, i_land, i_lor, i_lxor, i_ldiv, i_lrem, i_lshl, i_lshr, i_lcmp, i_ineg, i_lneg, i_i2l, i_l2i, i_i2b, i_i2c, i_dup, i_pop, i_dup_x1, i_dup2, i_icmp_eq, i_icmp_lt, i_icmp_ge, i_icmp_gt, i_icmp_le, i_if_eq, i_if_lt, i_if_ge, i_if_gt, i_if_le, i_goto, i_ifnull, i_iald, i_bald, i_zald, i_lald, i_aald, i_iast, i_bast, i_zast, i_last, i_alen, i_iret, i_lret, i_aret, i_vret, i_oinit, i_cast, i_tsw, i_cases, i_mmin, i_mmax, i_lmin, i_throw, nb0, nb1, nint, nby0, rf_s, rf_n, of_r, of_n, tk_orf_rf, tk_c2, tk_ls, Value.category, tk_isR_ref, tk_isR_rf, tk_isR_null, hc, hck, hr, hq, hqk, hqn]
  refine ⟨fun w1 => ?_, fun w1 => loop m 0 _ _ (by omega) (fun w2 => w1 (by rw [w2]; rfl))⟩
  have hm0 : m = 0 := by
    apply Classical.byContradiction
    intro hm0
    have : nI 0 < nI (3 * m) := nI_lt (by omega) (by omega)
    rw [w1] at this
    exact absurd this (by decide)
  rw [if_pos hm0] at h
  exact h
end HOLDS

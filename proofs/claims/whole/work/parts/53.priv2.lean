/-! THE TRUST'S OWN METHODS: roads, bids, leases -/
section PRIV2
variable {Z : tk_Z} {d mc ms : Nat} {S : tk_S} {QR : tk_R}
/-- is road i worth more than the best so far -/
def worthMb (pr : Nat → Int32) (wo : Nat → Int64) (b : Option Nat) (i : Nat) : Bool := decide (0 < wo i) && (match b with
  | none => true
  | some j => decide (takesOf (wo j) * (pr i).toInt64 < takesOf (wo i) * (pr j).toInt64))
def worthM (pr : Nat → Int32) (wo : Nat → Int64) : Nat → Nat → Option Nat → Option Nat
  | 0, _, b => b
  | m + 1, i, b => worthM pr wo m (i + 1) (if worthMb pr wo b i = true then some i else b)
theorem m_worthMost {ρ : Nat → Nat} {x n : Nat} {fS : Nat → Nat} {pr : Nat → Int32} {wo : Nat → Int64} (hd : 4 ≤ d) (hx : x ∈ q_L S) (hk : q_K S x = 12) (hS : cS Z ρ S x fS n pr wo) (H : QR (some (va_rf ((worthM pr wo n 0 none).map fS))) S) (hlt : ∀ b, worthM pr wo n 0 none = some b → b < n) : tk_M Z mX11_worthMost d mc ms [.ref x] S QR tk_noX := by
  obtain ⟨l, e, h1, h2, h3, h4, h5⟩ := hS
  refine M_X11_worthMost (Nat.le_of_ble_eq_true rfl) (fun E hE => hE.1 _ _ _ _ _ ?_)
  have hl := h2.1
  have loop : ∀ m i b x3, m + i = n → (∀ j, b = some j → j < n) → QR (some (va_rf ((worthM pr wo m i b).map fS))) S → E 4 [some (.ref x), some (va_rf (b.map fS)), some (.int (nI i)), x3] [] S 0 0 := by
    intro m
    induction m with
    | zero =>
      intro i b x3 hi hb H2
      refine hE.2 _ _ _ _ _ ?_
      have hi2 : i = n := by omega
      subst hi2
      have hrf : tk_isR (va_rf (b.map fS)) := tk_isR_rf _
      simp -implicitDefEqProofs [t_X11_worthMost_4, i_aload, i_iload, i_lload, i_istore, i_lstore, i_astore, i_iinc, i_push, i_getI, i_getJ, i_getR, i_putI, i_putJ, i_putR, i_iadd, i_isub, i_imul, i_iand, i_ior, i_ixor, i_ishl, i_ishr, i_iushr, i_idiv, i_irem, i_ladd, i_lsub, i_lmul, i_land, i_lor, i_lxor, i_ldiv, i_lrem, i_lshl, i_lshr, i_lcmp, i_ineg, i_lneg, i_i2l, i_l2i, i_i2b, i_i2c, i_dup, i_pop, i_dup_x1, i_dup2, i_icmp_eq, i_icmp_lt, i_icmp_ge, i_icmp_gt, i_icmp_le, i_if_eq, i_if_lt, i_if_ge, i_if_gt, i_if_le, i_goto, i_ifnull, i_iald, i_bald, i_zald, i_lald, i_aald, i_iast, i_bast, i_zast, i_last, i_alen, i_iret, i_lret, i_aret, i_vret, i_oinit, i_cast, i_tsw, i_cases, i_mmin, i_mmax, i_lmin, i_throw, nb0, nb1, nint, nby0, rf_s, rf_n, of_r, of_n, tk_orf_rf, tk_c2, tk_ls, Value.category, tk_isR_ref, tk_isR_rf, tk_isR_null, hx, hk, h1]
      refine ⟨by simp, hl.1, hl.2.1, by simp [Value.category], 0, 0, 0, by omega, by omega, by omega, ?_⟩
      refine l_size hl ?_
      simp -implicitDefEqProofs [i_aload, i_iload, i_lload, i_istore, i_lstore, i_astore, i_iinc, i_push, i_getI, i_getJ, i_getR, i_putI, i_putJ, i_putR, i_iadd, i_isub, i_imul, i_iand, i_ior, i_ixor, i_ishl, i_ishr, i_iushr, i_idiv, i_irem, i_ladd, i_lsub, i_lmul, i_land, i_lor, i_lxor, i_ldiv, i_lrem, i_lshl, i_lshr, i_lcmp, i_ineg, i_lneg, i_i2l, i_l2i, i_i2b, i_i2c, i_dup, i_pop, i_dup_x1, i_dup2, i_icmp_eq, i_icmp_lt, i_icmp_ge, i_icmp_gt, i_icmp_le, i_if_eq, i_if_lt, i_if_ge, i_if_gt, i_if_le, i_goto, i_ifnull, i_iald, i_bald, i_zald, i_lald, i_aald, i_iast, i_bast, i_zast, i_last, i_alen, i_iret, i_lret, i_aret, i_vret, i_oinit, i_cast, i_tsw, i_cases, i_mmin, i_mmax, i_lmin, i_throw, nb0, nb1, nint, nby0, rf_s, rf_n, of_r, of_n, tk_orf_rf, tk_c2, tk_ls, Value.category, tk_isR_ref, tk_isR_rf, tk_isR_null]
      exact H2
    | succ m ih =>
      intro i b x3 hi hb H
      refine hE.2 _ _ _ _ _ ?_
      have hil : i < n := by omega
      have z : ¬ nI n ≤ nI i := nI_ge (by omega) (by omega)
      have e1 : nI i + 1 = nI (i + 1) := nI_add i 1
      obtain ⟨y1, y2⟩ := hl.2.2.2.2.2.2.1 i hil
      obtain ⟨w1, w2, w3⟩ := h5 i hil
      rw [worthM] at H
      simp -implicitDefEqProofs [t_X11_worthMost_4, i_aload, i_iload, i_lload, i_istore, i_lstore, i_astore, i_iinc, i_push, i_getI, i_getJ, i_getR, i_putI, i_putJ, i_putR, i_iadd, i_isub, i_imul, i_iand, i_ior, i_ixor, i_ishl, i_ishr, i_iushr, i_idiv, i_irem, i_ladd, i_lsub, i_lmul, i_land, i_lor, i_lxor, i_ldiv, i_lrem, i_lshl, i_lshr, i_lcmp, i_ineg, i_lneg, i_i2l, i_l2i, i_i2b, i_i2c, i_dup, i_pop, i_dup_x1, i_dup2, i_icmp_eq, i_icmp_lt, i_icmp_ge, i_icmp_gt, i_icmp_le, i_if_eq, i_if_lt, i_if_ge, i_if_gt, i_if_le, i_goto, i_ifnull, i_iald, i_bald, i_zald, i_lald, i_aald, i_iast, i_bast, i_zast, i_last, i_alen, i_iret, i_lret, i_aret, i_vret, i_oinit, i_cast, i_tsw, i_cases, i_mmin, i_mmax, i_lmin, i_throw, nb0, nb1, nint, nby0, rf_s, rf_n, of_r, of_n, tk_orf_rf, tk_c2, tk_ls, Value.category, tk_isR_ref, tk_isR_rf, tk_isR_null, hx, hk, h1]
      refine ⟨by simp, hl.1, hl.2.1, by simp [Value.category], 0, 0, 0, by omega, by omega, by omega, ?_⟩
      refine l_size hl ?_
      simp -implicitDefEqProofs [i_aload, i_iload, i_lload, i_istore, i_lstore, i_astore, i_iinc, i_push, i_getI, i_getJ, i_getR, i_putI, i_putJ, i_putR, i_iadd, i_isub, i_imul, i_iand, i_ior, i_ixor, i_ishl, i_ishr, i_iushr, i_idiv, i_irem, i_ladd, i_lsub, i_lmul, i_land, i_lor, i_lxor, i_ldiv, i_lrem, i_lshl, i_lshr, i_lcmp, i_ineg, i_lneg, i_i2l, i_l2i, i_i2b, i_i2c, i_dup, i_pop, i_dup_x1, i_dup2, i_icmp_eq, i_icmp_lt, i_icmp_ge, i_icmp_gt, i_icmp_le, i_if_eq, i_if_lt, i_if_ge, i_if_gt, i_if_le, i_goto, i_ifnull, i_iald, i_bald, i_zald, i_lald, i_aald, i_iast, i_bast, i_zast, i_last, i_alen, i_iret, i_lret, i_aret, i_vret, i_oinit, i_cast, i_tsw, i_cases, i_mmin, i_mmax, i_lmin, i_throw, nb0, nb1, nint, nby0, rf_s, rf_n, of_r, of_n, tk_orf_rf, tk_c2, tk_ls, Value.category, tk_isR_ref, tk_isR_rf, tk_isR_null, hx, hk, h1, z]
      refine ⟨by simp, hl.1, hl.2.1, by simp [Value.category], 3, 0, 0, by omega, by omega, by omega, ?_⟩
      refine l_get (Nat.le_refl 3) hl hil ?_
      simp -implicitDefEqProofs [i_aload, i_iload, i_lload, i_istore, i_lstore, i_astore, i_iinc, i_push, i_getI, i_getJ, i_getR, i_putI, i_putJ, i_putR, i_iadd, i_isub, i_imul, i_iand, i_ior, i_ixor, i_ishl, i_ishr, i_iushr, i_idiv, i_irem, i_ladd, i_lsub, i_lmul, i_land, i_lor, i_lxor, i_ldiv, i_lrem, i_lshl, i_lshr, i_lcmp, i_ineg, i_lneg, i_i2l, i_l2i, i_i2b, i_i2c, i_dup, i_pop, i_dup_x1, i_dup2, i_icmp_eq, i_icmp_lt, i_icmp_ge, i_icmp_gt, i_icmp_le, i_if_eq, i_if_lt, i_if_ge, i_if_gt, i_if_le, i_goto, i_ifnull, i_iald, i_bald, i_zald, i_lald, i_aald, i_iast, i_bast, i_zast, i_last, i_alen, i_iret, i_lret, i_aret, i_vret, i_oinit, i_cast, i_tsw, i_cases, i_mmin, i_mmax, i_lmin, i_throw, nb0, nb1, nint, nby0, rf_s, rf_n, of_r, of_n, tk_orf_rf, tk_c2, tk_ls, Value.category, tk_isR_ref, tk_isR_rf, tk_isR_null, y1, y2, w3, e1, lg_cmp_le, lg_cmp_gt]
      refine ⟨fun w => ?_, fun w => ?_⟩
      · have hwb : ¬ worthMb pr wo b i = true := by
          unfold worthMb
          simp [Int64.not_lt.mpr w]
        rw [if_neg hwb] at H
        exact ⟨by rcases b with _ | j <;> rfl, ih (i + 1) b _ (by omega) hb H⟩
      · rcases b with _ | j
        · have hwb : worthMb pr wo none i = true := by
            unfold worthMb
            simp [w]
          rw [if_pos hwb] at H
          exact ⟨fun _ => ih (i + 1) (some i) _ (by omega) (fun j hj => by cases hj; exact hil) H, fun q => absurd rfl q⟩
        · refine ⟨fun q => (by cases q), fun _ => ?_⟩
          have hj := hb j rfl
          obtain ⟨u1, u2⟩ := hl.2.2.2.2.2.2.1 j hj
          obtain ⟨v1, v2, v3⟩ := h5 j hj
          refine ⟨by simp, y1, y2, by simp [Value.category], 2, 0, 0, by omega, by omega, by omega, ?_⟩
          refine m_isWorthMore (Nat.le_refl 2) y1 y2 u1 u2 ?_
          rw [w3, v3, w2, v2]
          by_cases hh : takesOf (wo j) * (pr i).toInt64 < takesOf (wo i) * (pr j).toInt64
          · have hwb : worthMb pr wo (some j) i = true := by
              unfold worthMb
              simp [w, hh]
            rw [if_pos hwb] at H
            rw [if_pos hh]
            simp -implicitDefEqProofs [i_aload, i_iload, i_lload, i_istore, i_lstore, i_astore, i_iinc, i_push, i_getI, i_getJ, i_getR, i_putI, i_putJ, i_putR, i_iadd, i_isub, i_imul, i_iand, i_ior, i_ixor, i_ishl, i_ishr, i_iushr, i_idiv, i_irem, i_ladd, i_lsub, i_lmul, i_land, i_lor, i_lxor, i_ldiv, i_lrem, i_lshl, i_lshr, i_lcmp, i_ineg, i_lneg, i_i2l, i_l2i, i_i2b, i_i2c, i_dup, i_pop, i_dup_x1, i_dup2, i_icmp_eq, i_icmp_lt, i_icmp_ge, i_icmp_gt, i_icmp_le, i_if_eq, i_if_lt, i_if_ge, i_if_gt, i_if_le, i_goto, i_ifnull, i_iald, i_bald, i_zald, i_lald, i_aald, i_iast, i_bast, i_zast, i_last, i_alen, i_iret, i_lret, i_aret, i_vret, i_oinit, i_cast, i_tsw, i_cases, i_mmin, i_mmax, i_lmin, i_throw, nb0, nb1, nint, nby0, rf_s, rf_n, of_r, of_n, tk_orf_rf, tk_c2, tk_ls, Value.category, tk_isR_ref, tk_isR_rf, tk_isR_null, e1]
            exact ih (i + 1) (some i) _ (by omega) (fun j hj => by cases hj; exact hil) H
          · have hwb : ¬ worthMb pr wo (some j) i = true := by
              unfold worthMb
              simp [hh]
            rw [if_neg hwb] at H
            rw [if_neg hh]
            simp -implicitDefEqProofs [i_aload, i_iload, i_lload, i_istore, i_lstore, i_astore, i_iinc, i_push, i_getI, i_getJ, i_getR, i_putI, i_putJ, i_putR, i_iadd, i_isub, i_imul, i_iand, i_ior, i_ixor, i_ishl, i_ishr, i_iushr, i_idiv, i_irem, i_ladd, i_lsub, i_lmul, i_land, i_lor, i_lxor, i_ldiv, i_lrem, i_lshl, i_lshr, i_lcmp, i_ineg, i_lneg, i_i2l, i_l2i, i_i2b, i_i2c, i_dup, i_pop, i_dup_x1, i_dup2, i_icmp_eq, i_icmp_lt, i_icmp_ge, i_icmp_gt, i_icmp_le, i_if_eq, i_if_lt, i_if_ge, i_if_gt, i_if_le, i_goto, i_ifnull, i_iald, i_bald, i_zald, i_lald, i_aald, i_iast, i_bast, i_zast, i_last, i_alen, i_iret, i_lret, i_aret, i_vret, i_oinit, i_cast, i_tsw, i_cases, i_mmin, i_mmax, i_lmin, i_throw, nb0, nb1, nint, nby0, rf_s, rf_n, of_r, of_n, tk_orf_rf, tk_c2, tk_ls, Value.category, tk_isR_ref, tk_isR_rf, tk_isR_null, e1]
            exact ih (i + 1) (some j) _ (by omega) hb H
  show t_X11_worthMost_0 Z d mc ms QR E [some (.ref x), none, none, none] [] S 0 0
  simp -implicitDefEqProofs [t_X11_worthMost_0, i_aload, i_iload, i_lload, i_istore, i_lstore, i_astore, i_iinc, i_push, i_getI, i_getJ, i_getR, i_putI, i_putJ, i_putR, i_iadd, i_isub, i_imul, i_iand, i_ior, i_ixor, i_ishl, i_ishr, i_iushr, i_idiv, i_irem, i_ladd, i_lsub, i_lmul, i_land, i_lor, i_lxor, i_ldiv, i_lrem, i_lshl, i_lshr, i_lcmp, i_ineg, i_lneg, i_i2l, i_l2i, i_i2b, i_i2c, i_dup, i_pop, i_dup_x1, i_dup2, i_icmp_eq, i_icmp_lt, i_icmp_ge, i_icmp_gt, i_icmp_le, i_if_eq, i_if_lt, i_if_ge, i_if_gt, i_if_le, i_goto, i_ifnull, i_iald, i_bald, i_zald, i_lald, i_aald, i_iast, i_bast, i_zast, i_last, i_alen, i_iret, i_lret, i_aret, i_vret, i_oinit, i_cast, i_tsw, i_cases, i_mmin, i_mmax, i_lmin, i_throw, nb0, nb1, nint, nby0, rf_s, rf_n, of_r, of_n, tk_orf_rf, tk_c2, tk_ls, Value.category, tk_isR_ref, tk_isR_rf, tk_isR_null]
  exact loop n 0 none _ rfl (fun j hj => by cases hj) H
theorem worthM_lt {pr : Nat → Int32} {wo : Nat → Int64} {n : Nat} : ∀ m i b, m + i = n → (∀ j, b = some j → j < n) → ∀ j, worthM pr wo m i b = some j → j < n := by
  intro m
  induction m with
  | zero => intro i b _ hb j hj; exact hb j hj
  | succ m ih =>
    intro i b hi hb j hj
    rw [worthM] at hj
    refine ih (i + 1) _ (by omega) (fun k hk => ?_) j hj
    by_cases w : worthMb pr wo b i = true
    · rw [if_pos w] at hk
      cases hk
      omega
    · rw [if_neg w] at hk
      exact hb k hk
/-- is bid k of gate g good, and better than the best so far -/
def bidMb (mo : Nat → Int64) (bf : Nat → Nat) (br bs : Nat → Int32) (g : Nat) (b : Option Nat) (k : Nat) : Bool := decide (br (10 * g + k) ≤ bs (10 * g + k) ∧ (br (10 * g + k)).toInt64 + (bs (10 * g + k)).toInt64 ≤ mo (bf (10 * g + k))) && (match b with
  | none => true
  | some j => decide (br (10 * g + j) < br (10 * g + k)))
def bidM (mo : Nat → Int64) (bf : Nat → Nat) (br bs : Nat → Int32) (g : Nat) : Nat → Nat → Option Nat → Option Nat
  | 0, _, b => b
  | m + 1, k, b => bidM mo bf br bs g m (k + 1) (if bidMb mo bf br bs g b k = true then some k else b)
theorem bidM_lt {mo : Nat → Int64} {bf : Nat → Nat} {br bs : Nat → Int32} {g n : Nat} : ∀ m i b, m + i = n → (∀ j, b = some j → j < n) → ∀ j, bidM mo bf br bs g m i b = some j → j < n := by
  intro m
  induction m with
  | zero => intro i b _ hb j hj; exact hb j hj
  | succ m ih =>
    intro i b hi hb j hj
    rw [bidM] at hj
    refine ih (i + 1) _ (by omega) (fun k hk => ?_) j hj
    by_cases w : bidMb mo bf br bs g b i = true
    · rw [if_pos w] at hk
      cases hk
      omega
    · rw [if_neg w] at hk
      exact hb k hk
theorem m_bestBid {a bl e g n nF : Nat} {fB fF bf : Nat → Nat} {br bs : Nat → Int32} {mo : Nat → Int64} (hd : 4 ≤ d) (ha : a ∈ q_L S) (hk : q_K S a = 6) (hb : q_R S 6 2 a = some bl) (hl : isL Z 2 S bl n fB e) (hB : ∀ k, k < n → q_R S 2 0 (fB k) = some (fF (bf (10 * g + k))) ∧ bf (10 * g + k) < nF ∧ q_I S 2 1 (fB k) = br (10 * g + k) ∧ q_I S 2 2 (fB k) = bs (10 * g + k)) (hF : ∀ f, f < nF → fF f ∈ q_L S ∧ q_K S (fF f) = 5 ∧ q_J S 5 1 (fF f) = mo f)
    (H : QR (some (va_rf ((bidM mo bf br bs g n 0 none).map fB))) S) : tk_M Z mX5_bestBid d mc ms [.ref a] S QR tk_noX := by
  refine M_X5_bestBid (Nat.le_of_ble_eq_true rfl) (fun E hE => hE.1 _ _ _ _ _ ?_)
  have loop : ∀ m i b x3, m + i = n → (∀ j, b = some j → j < n) → QR (some (va_rf ((bidM mo bf br bs g m i b).map fB))) S → E 4 [some (.ref a), some (va_rf (b.map fB)), some (.int (nI i)), x3] [] S 0 0 := by
    intro m
    induction m with
    | zero =>
      intro i b x3 hi hbd H2
      refine hE.2 _ _ _ _ _ ?_
      have hi2 : i = n := by omega
      subst hi2
      simp -implicitDefEqProofs [t_X5_bestBid_4, i_aload, i_iload, i_lload, i_istore, i_lstore, i_astore, i_iinc, i_push, i_getI, i_getJ, i_getR, i_putI, i_putJ, i_putR, i_iadd, i_isub, i_imul, i_iand, i_ior, i_ixor, i_ishl, i_ishr, i_iushr, i_idiv, i_irem, i_ladd, i_lsub, i_lmul, i_land, i_lor, i_lxor, i_ldiv, i_lrem, i_lshl, i_lshr, i_lcmp, i_ineg, i_lneg, i_i2l, i_l2i, i_i2b, i_i2c, i_dup, i_pop, i_dup_x1, i_dup2, i_icmp_eq, i_icmp_lt, i_icmp_ge, i_icmp_gt, i_icmp_le, i_if_eq, i_if_lt, i_if_ge, i_if_gt, i_if_le, i_goto, i_ifnull, i_iald, i_bald, i_zald, i_lald, i_aald, i_iast, i_bast, i_zast, i_last, i_alen, i_iret, i_lret, i_aret, i_vret, i_oinit, i_cast, i_tsw, i_cases, i_mmin, i_mmax, i_lmin, i_throw, nb0, nb1, nint, nby0, rf_s, rf_n, of_r, of_n, tk_orf_rf, tk_c2, tk_ls, Value.category, tk_isR_ref, tk_isR_rf, tk_isR_null, ha, hk, hb]
      refine ⟨by simp, hl.1, hl.2.1, by simp [Value.category], 0, 0, 0, by omega, by omega, by omega, ?_⟩
      refine l_size hl ?_
      simp -implicitDefEqProofs [i_aload, i_iload, i_lload, i_istore, i_lstore, i_astore, i_iinc, i_push, i_getI, i_getJ, i_getR, i_putI, i_putJ, i_putR, i_iadd, i_isub, i_imul, i_iand, i_ior, i_ixor, i_ishl, i_ishr, i_iushr, i_idiv, i_irem, i_ladd, i_lsub, i_lmul, i_land, i_lor, i_lxor, i_ldiv, i_lrem, i_lshl, i_lshr, i_lcmp, i_ineg, i_lneg, i_i2l, i_l2i, i_i2b, i_i2c, i_dup, i_pop, i_dup_x1, i_dup2, i_icmp_eq, i_icmp_lt, i_icmp_ge, i_icmp_gt, i_icmp_le, i_if_eq, i_if_lt, i_if_ge, i_if_gt, i_if_le, i_goto, i_ifnull, i_iald, i_bald, i_zald, i_lald, i_aald, i_iast, i_bast, i_zast, i_last, i_alen, i_iret, i_lret, i_aret, i_vret, i_oinit, i_cast, i_tsw, i_cases, i_mmin, i_mmax, i_lmin, i_throw, nb0, nb1, nint, nby0, rf_s, rf_n, of_r, of_n, tk_orf_rf, tk_c2, tk_ls, Value.category, tk_isR_ref, tk_isR_rf, tk_isR_null]
      exact H2
    | succ m ih =>
      intro i b x3 hi hbd H
      refine hE.2 _ _ _ _ _ ?_
      have hil : i < n := by omega
      have hn : n ≤ 1000 := hl.2.2.2.2.1
      have z : ¬ nI n ≤ nI i := nI_ge (by omega) (by omega)
      have e1 : nI i + 1 = nI (i + 1) := nI_add i 1
      obtain ⟨y1, y2⟩ := hl.2.2.2.2.2.2.1 i hil
      obtain ⟨w1, w2, w3, w4⟩ := hB i hil
      obtain ⟨f1, f2, f3⟩ := hF _ w2
      rw [bidM] at H
      simp -implicitDefEqProofs [t_X5_bestBid_4, i_aload, i_iload, i_lload, i_istore, i_lstore, i_astore, i_iinc, i_push, i_getI, i_getJ, i_getR, i_putI, i_putJ, i_putR, i_iadd, i_isub, i_imul, i_iand, i_ior, i_ixor, i_ishl, i_ishr, i_iushr, i_idiv, i_irem, i_ladd, i_lsub, i_lmul, i_land, i_lor, i_lxor, i_ldiv, i_lrem, i_lshl, i_lshr, i_lcmp, i_ineg, i_lneg, i_i2l, i_l2i, i_i2b, i_i2c, i_dup, i_pop, i_dup_x1, i_dup2, i_icmp_eq, i_icmp_lt, i_icmp_ge, i_icmp_gt, i_icmp_le, i_if_eq, i_if_lt, i_if_ge, i_if_gt, i_if_le, i_goto, i_ifnull, i_iald, i_bald, i_zald, i_lald, i_aald, i_iast, i_bast, i_zast, i_last, i_alen, i_iret, i_lret, i_aret, i_vret, i_oinit, i_cast, i_tsw, i_cases, i_mmin, i_mmax, i_lmin, i_throw, nb0, nb1, nint, nby0, rf_s, rf_n, of_r, of_n, tk_orf_rf, tk_c2, tk_ls, Value.category, tk_isR_ref, tk_isR_rf, tk_isR_null, ha, hk, hb]
      refine ⟨by simp, hl.1, hl.2.1, by simp [Value.category], 0, 0, 0, by omega, by omega, by omega, ?_⟩
      refine l_size hl ?_
      simp -implicitDefEqProofs [i_aload, i_iload, i_lload, i_istore, i_lstore, i_astore, i_iinc, i_push, i_getI, i_getJ, i_getR, i_putI, i_putJ, i_putR, i_iadd, i_isub, i_imul, i_iand, i_ior, i_ixor, i_ishl, i_ishr, i_iushr, i_idiv, i_irem, i_ladd, i_lsub, i_lmul, i_land, i_lor, i_lxor, i_ldiv, i_lrem, i_lshl, i_lshr, i_lcmp, i_ineg, i_lneg, i_i2l, i_l2i, i_i2b, i_i2c, i_dup, i_pop, i_dup_x1, i_dup2, i_icmp_eq, i_icmp_lt, i_icmp_ge, i_icmp_gt, i_icmp_le, i_if_eq, i_if_lt, i_if_ge, i_if_gt, i_if_le, i_goto, i_ifnull, i_iald, i_bald, i_zald, i_lald, i_aald, i_iast, i_bast, i_zast, i_last, i_alen, i_iret, i_lret, i_aret, i_vret, i_oinit, i_cast, i_tsw, i_cases, i_mmin, i_mmax, i_lmin, i_throw, nb0, nb1, nint, nby0, rf_s, rf_n, of_r, of_n, tk_orf_rf, tk_c2, tk_ls, Value.category, tk_isR_ref, tk_isR_rf, tk_isR_null, ha, hk, hb, z]
      refine ⟨by simp, hl.1, hl.2.1, by simp [Value.category], 3, 0, 0, by omega, by omega, by omega, ?_⟩
      refine l_get (Nat.le_refl 3) hl hil ?_
      simp -implicitDefEqProofs [i_aload, i_iload, i_lload, i_istore, i_lstore, i_astore, i_iinc, i_push, i_getI, i_getJ, i_getR, i_putI, i_putJ, i_putR, i_iadd, i_isub, i_imul, i_iand, i_ior, i_ixor, i_ishl, i_ishr, i_iushr, i_idiv, i_irem, i_ladd, i_lsub, i_lmul, i_land, i_lor, i_lxor, i_ldiv, i_lrem, i_lshl, i_lshr, i_lcmp, i_ineg, i_lneg, i_i2l, i_l2i, i_i2b, i_i2c, i_dup, i_pop, i_dup_x1, i_dup2, i_icmp_eq, i_icmp_lt, i_icmp_ge, i_icmp_gt, i_icmp_le, i_if_eq, i_if_lt, i_if_ge, i_if_gt, i_if_le, i_goto, i_ifnull, i_iald, i_bald, i_zald, i_lald, i_aald, i_iast, i_bast, i_zast, i_last, i_alen, i_iret, i_lret, i_aret, i_vret, i_oinit, i_cast, i_tsw, i_cases, i_mmin, i_mmax, i_lmin, i_throw, nb0, nb1, nint, nby0, rf_s, rf_n, of_r, of_n, tk_orf_rf, tk_c2, tk_ls, Value.category, tk_isR_ref, tk_isR_rf, tk_isR_null, y1, y2]
      refine ⟨by simp, y1, y2, by simp [Value.category], 0, 0, 0, by omega, by omega, by omega, ?_⟩
      refine m_isGood y1 y2 w1 f1 f2 ?_
      rw [w3, w4, f3]
      by_cases hgd : br (10 * g + i) ≤ bs (10 * g + i) ∧ (br (10 * g + i)).toInt64 + (bs (10 * g + i)).toInt64 ≤ mo (bf (10 * g + i))
      · rw [if_pos hgd]
        rcases b with _ | j
        · have hwb : bidMb mo bf br bs g none i = true := by
            unfold bidMb
            simp [hgd]
          rw [if_pos hwb] at H
          simp -implicitDefEqProofs [i_aload, i_iload, i_lload, i_istore, i_lstore, i_astore, i_iinc, i_push, i_getI, i_getJ, i_getR, i_putI, i_putJ, i_putR, i_iadd, i_isub, i_imul, i_iand, i_ior, i_ixor, i_ishl, i_ishr, i_iushr, i_idiv, i_irem, i_ladd, i_lsub, i_lmul, i_land, i_lor, i_lxor, i_ldiv, i_lrem, i_lshl, i_lshr, i_lcmp, i_ineg, i_lneg, i_i2l, i_l2i, i_i2b, i_i2c, i_dup, i_pop, i_dup_x1, i_dup2, i_icmp_eq, i_icmp_lt, i_icmp_ge, i_icmp_gt, i_icmp_le, i_if_eq, i_if_lt, i_if_ge, i_if_gt, i_if_le, i_goto, i_ifnull, i_iald, i_bald, i_zald, i_lald, i_aald, i_iast, i_bast, i_zast, i_last, i_alen, i_iret, i_lret, i_aret, i_vret, i_oinit, i_cast, i_tsw, i_cases, i_mmin, i_mmax, i_lmin, i_throw, nb0, nb1, nint, nby0, rf_s, rf_n, of_r, of_n, tk_orf_rf, tk_c2, tk_ls, Value.category, tk_isR_ref, tk_isR_rf, tk_isR_null, e1]
          exact ih (i + 1) (some i) _ (by omega) (fun j hj => by cases hj; exact hil) H
        · have hj := hbd j rfl
          obtain ⟨u1, u2⟩ := hl.2.2.2.2.2.2.1 j hj
          obtain ⟨v1, v2, v3, v4⟩ := hB j hj
          simp -implicitDefEqProofs [i_aload, i_iload, i_lload, i_istore, i_lstore, i_astore, i_iinc, i_push, i_getI, i_getJ, i_getR, i_putI, i_putJ, i_putR, i_iadd, i_isub, i_imul, i_iand, i_ior, i_ixor, i_ishl, i_ishr, i_iushr, i_idiv, i_irem, i_ladd, i_lsub, i_lmul, i_land, i_lor, i_lxor, i_ldiv, i_lrem, i_lshl, i_lshr, i_lcmp, i_ineg, i_lneg, i_i2l, i_l2i, i_i2b, i_i2c, i_dup, i_pop, i_dup_x1, i_dup2, i_icmp_eq, i_icmp_lt, i_icmp_ge, i_icmp_gt, i_icmp_le, i_if_eq, i_if_lt, i_if_ge, i_if_gt, i_if_le, i_goto, i_ifnull, i_iald, i_bald, i_zald, i_lald, i_aald, i_iast, i_bast, i_zast, i_last, i_alen, i_iret, i_lret, i_aret, i_vret, i_oinit, i_cast, i_tsw, i_cases, i_mmin, i_mmax, i_lmin, i_throw, nb0, nb1, nint, nby0, rf_s, rf_n, of_r, of_n, tk_orf_rf, tk_c2, tk_ls, Value.category, tk_isR_ref, tk_isR_rf, tk_isR_null, e1, y1, y2, u1, u2, w3, v3]
          refine ⟨fun hh => ?_, fun hh => ?_⟩
          · have hwb : ¬ bidMb mo bf br bs g (some j) i = true := by
              unfold bidMb
              simp [Int32.not_lt.mpr hh]
            rw [if_neg hwb] at H
            exact ih (i + 1) (some j) _ (by omega) hbd H
          · have hwb : bidMb mo bf br bs g (some j) i = true := by
              unfold bidMb
              simp [hgd, hh]
            rw [if_pos hwb] at H
            exact ih (i + 1) (some i) _ (by omega) (fun j hj => by cases hj; exact hil) H
      · rw [if_neg hgd]
        have hwb : ¬ bidMb mo bf br bs g b i = true := by
          unfold bidMb
          rw [decide_eq_false hgd]
          simp
        rw [if_neg hwb] at H
        simp -implicitDefEqProofs [i_aload, i_iload, i_lload, i_istore, i_lstore, i_astore, i_iinc, i_push, i_getI, i_getJ, i_getR, i_putI, i_putJ, i_putR, i_iadd, i_isub, i_imul, i_iand, i_ior, i_ixor, i_ishl, i_ishr, i_iushr, i_idiv, i_irem, i_ladd, i_lsub, i_lmul, i_land, i_lor, i_lxor, i_ldiv, i_lrem, i_lshl, i_lshr, i_lcmp, i_ineg, i_lneg, i_i2l, i_l2i, i_i2b, i_i2c, i_dup, i_pop, i_dup_x1, i_dup2, i_icmp_eq, i_icmp_lt, i_icmp_ge, i_icmp_gt, i_icmp_le, i_if_eq, i_if_lt, i_if_ge, i_if_gt, i_if_le, i_goto, i_ifnull, i_iald, i_bald, i_zald, i_lald, i_aald, i_iast, i_bast, i_zast, i_last, i_alen, i_iret, i_lret, i_aret, i_vret, i_oinit, i_cast, i_tsw, i_cases, i_mmin, i_mmax, i_lmin, i_throw, nb0, nb1, nint, nby0, rf_s, rf_n, of_r, of_n, tk_orf_rf, tk_c2, tk_ls, Value.category, tk_isR_ref, tk_isR_rf, tk_isR_null, e1]
        exact ⟨by rcases b with _ | j <;> rfl, ih (i + 1) b _ (by omega) hbd H⟩
  show t_X5_bestBid_0 Z d mc ms QR E [some (.ref a), none, none, none] [] S 0 0
  simp -implicitDefEqProofs [t_X5_bestBid_0, i_aload, i_iload, i_lload, i_istore, i_lstore, i_astore, i_iinc, i_push, i_getI, i_getJ, i_getR, i_putI, i_putJ, i_putR, i_iadd, i_isub, i_imul, i_iand, i_ior, i_ixor, i_ishl, i_ishr, i_iushr, i_idiv, i_irem, i_ladd, i_lsub, i_lmul, i_land, i_lor, i_lxor, i_ldiv, i_lrem, i_lshl, i_lshr, i_lcmp, i_ineg, i_lneg, i_i2l, i_l2i, i_i2b, i_i2c, i_dup, i_pop, i_dup_x1, i_dup2, i_icmp_eq, i_icmp_lt, i_icmp_ge, i_icmp_gt, i_icmp_le, i_if_eq, i_if_lt, i_if_ge, i_if_gt, i_if_le, i_goto, i_ifnull, i_iald, i_bald, i_zald, i_lald, i_aald, i_iast, i_bast, i_zast, i_last, i_alen, i_iret, i_lret, i_aret, i_vret, i_oinit, i_cast, i_tsw, i_cases, i_mmin, i_mmax, i_lmin, i_throw, nb0, nb1, nint, nby0, rf_s, rf_n, of_r, of_n, tk_orf_rf, tk_c2, tk_ls, Value.category, tk_isR_ref, tk_isR_rf, tk_isR_null]
  exact loop n 0 none _ rfl (fun j hj => by cases hj) H
end PRIV2

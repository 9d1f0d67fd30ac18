/-! THE REFERENCE READS: a clause's end -/
section RCL
variable {Z : tk_Z} {d mc ms : Nat} {QR : tk_R} {len m : Nat} {g : Nat → Int32} {B : bS} {V V1 V2 : vR} {ρ : Nat → Nat} {S : tk_S} {R : Nat → Nat}
theorem pOne_ge {r s s' : Nat} {c : List pS} (hs : s ≤ len) (h : pOne g len r s = .inl (s', c)) : s ≤ s' := by
  have := pOne_good g r s hs
  rw [h] at this
  have := this.1
  omega
theorem r_ones : ∀ r, r ≤ 10 → oneC Z g len mX12_one (pOne g len r) (9 + 3 * r) (10 - r) ∧ oneC Z g len mX12_condition (pAny g len (pOne g len r)) (11 + 3 * r) (10 - r) := by
  intro r
  induction r with
  | zero =>
    intro _
    have h1 := r_one (Z := Z) (g := g) (len := len) (o := 10) (dd := 6) (by omega) (by omega) (fun z => absurd z (Nat.lt_irrefl 10))
    have h2 := r_joined h1 (by omega) (fun s s' c hs h => pOne_ge hs h)
    have h3 := r_condition h2 (by omega) (fun s s' c hs h => by
      have := pJoin_good g (tv := 265) (Or.inr rfl) (fun s hs => pOne_good g 0 s hs) s hs
      rw [show pJoin g len (pOne g len 0) 265 s = .inl (s', c) from h] at this
      have := this.1
      omega)
    exact ⟨h1, h3⟩
  | succ r ih =>
    intro hr
    obtain ⟨i1, i2⟩ := ih (by omega)
    have h1 := r_one (Z := Z) (g := g) (len := len) (o := 10 - (r + 1)) (dd := 9 + 3 * r) (by omega) (by omega) (fun z => by
      rw [show 9 - (10 - (r + 1)) = r by omega, show 10 - (r + 1) + 1 = 10 - r by omega]
      exact ⟨i1, by rw [show 9 + 3 * r + 2 = 11 + 3 * r by omega]; exact i2⟩)
    rw [show 10 - (10 - (r + 1)) = r + 1 by omega, show 9 + 3 * r + 3 = 9 + 3 * (r + 1) by omega] at h1
    have h2 := r_joined h1 (by omega) (fun s s' c hs h => pOne_ge hs h)
    have h3 := r_condition h2 (by omega) (fun s s' c hs h => by
      have := pJoin_good g (tv := 265) (Or.inr rfl) (fun s hs => pOne_good g (r + 1) s hs) s hs
      rw [show pJoin g len (pOne g len (r + 1)) 265 s = .inl (s', c) from h] at this
      have := this.1
      omega)
    exact ⟨h1, by rw [show 11 + 3 * (r + 1) = 9 + 3 * (r + 1) + 1 + 1 by omega]; exact h3⟩
/-- how the reference tells a clause's word and manner -/
def srt (w mn : Int32) : Int32 := if w = 256 then 0 else if w = 257 then (if mn = 261 then 2 else if mn = 262 then 3 else 1) else if w = 258 then 4 else (if mn = 263 then 6 else 5)
/-- what the reading of clause w leaves alone -/
def qlF (V V' : vR) (k w : Nat) : Prop := (∀ i, i ≠ 4 → i ≠ 5 → i ≠ 6 → i ≠ 7 → i ≠ 17 → vI V' i = vI V i) ∧ vJ V' = vJ V ∧ (∀ i, i < 10 ∨ 16 < i → vA V' i = vA V i) ∧ vL V' = vL V ∧ (∀ j, j < k → vA V' 15 j = vA V 15 j ∧ vA V' 16 j = vA V 16 j) ∧ ∀ i j, 10 ≤ i → i ≤ 14 → j ≠ w → vA V' i j = vA V i j
theorem qlF.rfl' {k w : Nat} : qlF V V k w := ⟨fun _ _ _ _ _ _ => rfl, rfl, fun _ _ => rfl, rfl, fun _ _ => ⟨rfl, rfl⟩, fun _ _ _ _ _ => rfl⟩
theorem qlF.trans {k w : Nat} (h : qlF V V1 k w) (h2 : qlF V1 V2 k w) : qlF V V2 k w := ⟨fun i a b c d e => (h2.1 i a b c d e).trans (h.1 i a b c d e), h2.2.1.trans h.2.1, fun i a => (h2.2.2.1 i a).trans (h.2.2.1 i a), h2.2.2.2.1.trans h.2.2.2.1, fun j hj => ⟨(h2.2.2.2.2.1 j hj).1.trans (h.2.2.2.2.1 j hj).1, (h2.2.2.2.2.1 j hj).2.trans (h.2.2.2.2.1 j hj).2⟩, fun i j a b c => (h2.2.2.2.2.2 i j a b c).trans (h.2.2.2.2.2 i j a b c)⟩
theorem qlF.of {k w : Nat} (h : pF V V1 k) : qlF V V1 k w := ⟨h.1, h.2.1, fun i a => h.2.2.1 i (by omega) (by omega), h.2.2.2.1, h.2.2.2.2, fun i j a b c => by rw [h.2.2.1 i (by omega) (by omega)]⟩
theorem qlF.ofA {k w i : Nat} {f : Nat → Int32} (hi : 10 ≤ i ∧ i ≤ 14) (hf : ∀ j, j ≠ w → f j = vA V i j) : qlF V (wA V i f) k w := ⟨fun _ _ _ _ _ _ => rfl, rfl, fun j hj => by
  rw [vA_wA, if_neg (by omega)], rfl, fun j hj => by
  rw [vA_wA, vA_wA, if_neg (by omega), if_neg (by omega)]; exact ⟨rfl, rfl⟩, fun a j ha hb hj => by
  rw [vA_wA]
  split
  · rename_i e; rw [e]; exact hf j hj
  · rfl⟩
theorem upd_ne (f : Nat → Int32) (w : Nat) (v : Int32) : ∀ j, j ≠ w → upd f w v j = f j := fun j hj => if_neg hj
abbrev pQ : Type := (Nat × pC) ⊕ (Int32 × Nat × Nat)
def jc : pQ → Nat
  | .inl (_, p) => p.2.2.2.2.length
  | .inr (_, _, j) => j
/-- clause p stands at w, its steps behind k -/
def clIn (V : vR) (k w : Nat) (p : pC) : Prop := vA V 10 w = srt p.1 p.2.1 ∧ (p.1 = 257 ∨ p.1 = 258 → vA V 11 w = p.2.2.1) ∧ (p.1 = 258 → vA V 12 w = p.2.2.2.1) ∧ vA V 13 w = nI k ∧ vA V 14 w = nI (k + p.2.2.2.2.length) ∧ cdIn V k p.2.2.2.2
def clR (g : Nat → Int32) (len : Nat) (V V' : vR) (k w : Nat) : pQ → Prop
  | .inl (s', p) => qlF V V' k w ∧ vI V' 5 = 0 ∧ vI V' 6 = vI V 6 ∧ (∃ q, q ≤ len ∧ vI V' 4 = nI q ∧ tkStart g len q = s') ∧ vI V' 17 = nI (k + p.2.2.2.2.length) ∧ clIn V' k w p
  | .inr (kd, pl, j) => qlF V V' k w ∧ vI V' 5 = kd ∧ (kd = 1 ∨ kd = 2 ∨ kd = 3) ∧ vI V' 6 = nI pl ∧ vI V' 17 = nI (k + j) ∧ ∃ q, q ≤ len ∧ vI V' 4 = nI q
def okQ (B : bS) (m : Nat) (g : Nat → Int32) (len : Nat) (V : vR) (hw cl k w : Nat) (QR : tk_R) (o : Option Value) (r : pQ) : Prop := ∀ V', clR g len V V' k w r → okV B m (rLk (cp 400 (max hw (k + jc r))) cl) QR o V'
/-- ahead of a clause's end -/
def preR (g : Nat → Int32) (len : Nat) (V V1 : vR) (k w s1 : Nat) (wd mn fi se : Int32) : Prop := qlF V V1 k w ∧ vI V1 5 = 0 ∧ vI V1 6 = vI V 6 ∧ (∃ q, q ≤ len ∧ vI V1 4 = nI q ∧ tkStart g len q = s1) ∧ vI V1 17 = nI k ∧ vA V1 10 w = srt wd mn ∧ (wd = 257 ∨ wd = 258 → vA V1 11 w = fi) ∧ (wd = 258 → vA V1 12 w = se)
theorem qlF.at1 {k w : Nat} (h : qlF V V1 k w) : vA V1 1 = vA V 1 ∧ vI V1 3 = vI V 3 := ⟨h.2.2.1 1 (by omega), h.1 3 (by decide) (by decide) (by decide) (by decide) (by decide)⟩
theorem isWd_if : isWd 35 4 := ⟨by decide, by decide, by decide +kernel⟩
/-- a fault has been told: the rest does nothing -/
theorem cl_tailF {E : tk_E} {hw cl k w cs ss : Nat} {r : pQ} {x1 x3 : Option Value} {kd : Int32} {pl j : Nat} (hE : ∀ ls st S cs ss, t_X12_clause_245 Z d mc ms QR E ls st S cs ss → E 245 ls st S cs ss) (hd : 6 ≤ d) (hR : RS B m ρ S (rLk (cp 400 (max hw (k + j))) cl) R V1) (h1 : clR g len V V1 k w (.inr (kd, pl, j))) (hw4 : w < 480) (hr : r = .inr (kd, pl, j)) (hcs : cs ≤ mc) (hss : ss ≤ ms)
    (H : okQ B m g len V hw cl k w QR none r) : E 245 [some (.ref m), x1, some (.int (nI w)), x3] [] S cs ss := by
  refine hE _ _ _ _ _ ?_
  obtain ⟨u1, u2, u3⟩ := hR.1.1
  obtain ⟨a13, b13, c13, d13, -⟩ := hR.1.2 13 _ _ rfl
  obtain ⟨a14, b14, c14, d14, -⟩ := hR.1.2 14 _ _ rfl
  have x13 := hR.2.1.2.2.1 13 _ _ rfl (by decide)
  have x14 := hR.2.1.2.2.1 14 _ _ rfl (by decide)
  have n14 := hR.1.ne (i := 14) (j := 13) rfl rfl (by decide)
  have hin : vp_in (nI w) 481 := vp_in_nI (by omega) (by omega)
  have hin2 : vp_in (nI w) 480 := vp_in_nI (by omega) (by omega)
  have hI := hR.2.1.1
  obtain ⟨c1, c2, c3, c4, c5, q, c6, c7⟩ := id h1
  have hne : vI V1 5 ≠ 0 := by
    rw [c2]
    rcases c3 with e | e | e <;> rw [e] <;> decide
  have hpos : 0 < vI V1 5 := by
    rw [c2]
    rcases c3 with e | e | e <;> rw [e] <;> decide
  simp -implicitDefEqProofs [t_X12_clause_245, i_aload, i_iload, i_lload, i_istore, i_lstore, i_astore, i_iinc, i_push, i_getI, i_getJ, i_getR, i_putI, i_putJ, i_putR, i_iadd, i_isub, i_imul, i_iand, i_ior, i_ixor, i_ishl, i_ishr, i_iushr, i_idiv, i_irem, i_ladd, i_lsub, i_lmul, i_land, i_lor, i_lxor, i_ldiv, i_lrem, i_lshl, i_lshr, i_lcmp, i_ineg, i_lneg, i_i2l, i_l2i, i_i2b, i_i2c, i_dup, i_pop, i_dup_x1, i_dup2, i_icmp_eq, i_icmp_lt, i_icmp_ge, i_icmp_gt, i_icmp_le, i_if_eq, i_if_lt, i_if_ge, i_if_gt, i_if_le, i_goto, i_ifnull, i_iald, i_bald, i_zald, i_lald, i_aald, i_iast, i_bast, i_zast, i_last, i_alen, i_iret, i_lret, i_aret, i_vret, i_oinit, i_cast, i_tsw, i_cases, i_mmin, i_mmax, i_lmin, i_throw, nb0, nb1, nint, nby0, rf_s, rf_n, of_r, of_n, tk_orf_rf, tk_c2, tk_ls, Value.category, tk_isR_ref, tk_isR_rf, tk_isR_null, z_q_L_s_I, z_q_K_s_I, z_q_I_s_I, z_q_J_s_I, z_q_R_s_I, z_q_n_s_I, z_q_aI_s_I, z_q_aJ_s_I, z_q_aR_s_I, z_q_L_s_J, z_q_K_s_J, z_q_I_s_J, z_q_J_s_J, z_q_R_s_J, z_q_n_s_J, z_q_aI_s_J, z_q_aJ_s_J, z_q_aR_s_J, z_q_L_s_R, z_q_K_s_R, z_q_I_s_R, z_q_J_s_R, z_q_R_s_R, z_q_n_s_R, z_q_aI_s_R, z_q_aJ_s_R, z_q_aR_s_R, z_q_L_s_aI, z_q_K_s_aI, z_q_I_s_aI, z_q_J_s_aI, z_q_R_s_aI, z_q_n_s_aI, z_q_aI_s_aI, z_q_aJ_s_aI, z_q_aR_s_aI, z_q_L_s_aJ, z_q_K_s_aJ, z_q_I_s_aJ, z_q_J_s_aJ, z_q_R_s_aJ, z_q_n_s_aJ, z_q_aI_s_aJ, z_q_aJ_s_aJ, z_q_aR_s_aJ, z_q_L_s_aR, z_q_K_s_aR, z_q_I_s_aR, z_q_J_s_aR, z_q_R_s_aR, z_q_n_s_aR, z_q_aI_s_aR, z_q_aJ_s_aR, z_q_aR_s_aR, z_q_L_s_new, z_q_K_s_new, z_q_I_s_new, z_q_J_s_new, z_q_R_s_new, z_q_n_s_new, z_q_aI_s_new, z_q_aJ_s_new, z_q_aR_s_new, z_q_L_s_arr, z_q_K_s_arr, z_q_I_s_arr, z_q_J_s_arr, z_q_R_s_arr, z_q_n_s_arr, z_q_aI_s_arr, z_q_aJ_s_arr, z_q_aR_s_arr, u1, u2, a13, b13, c13, d13, x13, hI, hin, nI_clamp (show w < 2 ^ 31 by omega)]
  refine ⟨by simp, u1, u2, by simp, 5, 0, 0, by omega, by omega, by omega, ?_⟩
  refine r_eatF u1 u2 (by simpa -implicitDefEqProofs [z_q_L_s_I, z_q_K_s_I, z_q_I_s_I, z_q_J_s_I, z_q_R_s_I, z_q_n_s_I, z_q_aI_s_I, z_q_aJ_s_I, z_q_aR_s_I, z_q_L_s_J, z_q_K_s_J, z_q_I_s_J, z_q_J_s_J, z_q_R_s_J, z_q_n_s_J, z_q_aI_s_J, z_q_aJ_s_J, z_q_aR_s_J, z_q_L_s_R, z_q_K_s_R, z_q_I_s_R, z_q_J_s_R, z_q_R_s_R, z_q_n_s_R, z_q_aI_s_R, z_q_aJ_s_R, z_q_aR_s_R, z_q_L_s_aI, z_q_K_s_aI, z_q_I_s_aI, z_q_J_s_aI, z_q_R_s_aI, z_q_n_s_aI, z_q_aI_s_aI, z_q_aJ_s_aI, z_q_aR_s_aI, z_q_L_s_aJ, z_q_K_s_aJ, z_q_I_s_aJ, z_q_J_s_aJ, z_q_R_s_aJ, z_q_n_s_aJ, z_q_aI_s_aJ, z_q_aJ_s_aJ, z_q_aR_s_aJ, z_q_L_s_aR, z_q_K_s_aR, z_q_I_s_aR, z_q_J_s_aR, z_q_R_s_aR, z_q_n_s_aR, z_q_aI_s_aR, z_q_aJ_s_aR, z_q_aR_s_aR, z_q_L_s_new, z_q_K_s_new, z_q_I_s_new, z_q_J_s_new, z_q_R_s_new, z_q_n_s_new, z_q_aI_s_new, z_q_aJ_s_new, z_q_aR_s_new, z_q_L_s_arr, z_q_K_s_arr, z_q_I_s_arr, z_q_J_s_arr, z_q_R_s_arr, z_q_n_s_arr, z_q_aI_s_arr, z_q_aJ_s_arr, z_q_aR_s_arr, hI] using hne) ?_
  simp -implicitDefEqProofs [i_aload, i_iload, i_lload, i_istore, i_lstore, i_astore, i_iinc, i_push, i_getI, i_getJ, i_getR, i_putI, i_putJ, i_putR, i_iadd, i_isub, i_imul, i_iand, i_ior, i_ixor, i_ishl, i_ishr, i_iushr, i_idiv, i_irem, i_ladd, i_lsub, i_lmul, i_land, i_lor, i_lxor, i_ldiv, i_lrem, i_lshl, i_lshr, i_lcmp, i_ineg, i_lneg, i_i2l, i_l2i, i_i2b, i_i2c, i_dup, i_pop, i_dup_x1, i_dup2, i_icmp_eq, i_icmp_lt, i_icmp_ge, i_icmp_gt, i_icmp_le, i_if_eq, i_if_lt, i_if_ge, i_if_gt, i_if_le, i_goto, i_ifnull, i_iald, i_bald, i_zald, i_lald, i_aald, i_iast, i_bast, i_zast, i_last, i_alen, i_iret, i_lret, i_aret, i_vret, i_oinit, i_cast, i_tsw, i_cases, i_mmin, i_mmax, i_lmin, i_throw, nb0, nb1, nint, nby0, rf_s, rf_n, of_r, of_n, tk_orf_rf, tk_c2, tk_ls, Value.category, tk_isR_ref, tk_isR_rf, tk_isR_null, z_q_L_s_I, z_q_K_s_I, z_q_I_s_I, z_q_J_s_I, z_q_R_s_I, z_q_n_s_I, z_q_aI_s_I, z_q_aJ_s_I, z_q_aR_s_I, z_q_L_s_J, z_q_K_s_J, z_q_I_s_J, z_q_J_s_J, z_q_R_s_J, z_q_n_s_J, z_q_aI_s_J, z_q_aJ_s_J, z_q_aR_s_J, z_q_L_s_R, z_q_K_s_R, z_q_I_s_R, z_q_J_s_R, z_q_R_s_R, z_q_n_s_R, z_q_aI_s_R, z_q_aJ_s_R, z_q_aR_s_R, z_q_L_s_aI, z_q_K_s_aI, z_q_I_s_aI, z_q_J_s_aI, z_q_R_s_aI, z_q_n_s_aI, z_q_aI_s_aI, z_q_aJ_s_aI, z_q_aR_s_aI, z_q_L_s_aJ, z_q_K_s_aJ, z_q_I_s_aJ, z_q_J_s_aJ, z_q_R_s_aJ, z_q_n_s_aJ, z_q_aI_s_aJ, z_q_aJ_s_aJ, z_q_aR_s_aJ, z_q_L_s_aR, z_q_K_s_aR, z_q_I_s_aR, z_q_J_s_aR, z_q_R_s_aR, z_q_n_s_aR, z_q_aI_s_aR, z_q_aJ_s_aR, z_q_aR_s_aR, z_q_L_s_new, z_q_K_s_new, z_q_I_s_new, z_q_J_s_new, z_q_R_s_new, z_q_n_s_new, z_q_aI_s_new, z_q_aJ_s_new, z_q_aR_s_new, z_q_L_s_arr, z_q_K_s_arr, z_q_I_s_arr, z_q_J_s_arr, z_q_R_s_arr, z_q_n_s_arr, z_q_aI_s_arr, z_q_aJ_s_arr, z_q_aR_s_arr, u1, u2, a14, b14, c14, d14, x14, n14, hI, hin2, nI_clamp (show w < 2 ^ 31 by omega)]
  refine ⟨by simp, u1, u2, by simp, 5, 0, 0, by omega, by omega, by omega, ?_⟩
  refine r_needF u1 u2 (by simpa -implicitDefEqProofs [z_q_L_s_I, z_q_K_s_I, z_q_I_s_I, z_q_J_s_I, z_q_R_s_I, z_q_n_s_I, z_q_aI_s_I, z_q_aJ_s_I, z_q_aR_s_I, z_q_L_s_J, z_q_K_s_J, z_q_I_s_J, z_q_J_s_J, z_q_R_s_J, z_q_n_s_J, z_q_aI_s_J, z_q_aJ_s_J, z_q_aR_s_J, z_q_L_s_R, z_q_K_s_R, z_q_I_s_R, z_q_J_s_R, z_q_R_s_R, z_q_n_s_R, z_q_aI_s_R, z_q_aJ_s_R, z_q_aR_s_R, z_q_L_s_aI, z_q_K_s_aI, z_q_I_s_aI, z_q_J_s_aI, z_q_R_s_aI, z_q_n_s_aI, z_q_aI_s_aI, z_q_aJ_s_aI, z_q_aR_s_aI, z_q_L_s_aJ, z_q_K_s_aJ, z_q_I_s_aJ, z_q_J_s_aJ, z_q_R_s_aJ, z_q_n_s_aJ, z_q_aI_s_aJ, z_q_aJ_s_aJ, z_q_aR_s_aJ, z_q_L_s_aR, z_q_K_s_aR, z_q_I_s_aR, z_q_J_s_aR, z_q_R_s_aR, z_q_n_s_aR, z_q_aI_s_aR, z_q_aJ_s_aR, z_q_aR_s_aR, z_q_L_s_new, z_q_K_s_new, z_q_I_s_new, z_q_J_s_new, z_q_R_s_new, z_q_n_s_new, z_q_aI_s_new, z_q_aJ_s_new, z_q_aR_s_new, z_q_L_s_arr, z_q_K_s_arr, z_q_I_s_arr, z_q_J_s_arr, z_q_R_s_arr, z_q_n_s_arr, z_q_aI_s_arr, z_q_aJ_s_arr, z_q_aR_s_arr, hI] using hpos) ?_
  simp -implicitDefEqProofs [i_aload, i_iload, i_lload, i_istore, i_lstore, i_astore, i_iinc, i_push, i_getI, i_getJ, i_getR, i_putI, i_putJ, i_putR, i_iadd, i_isub, i_imul, i_iand, i_ior, i_ixor, i_ishl, i_ishr, i_iushr, i_idiv, i_irem, i_ladd, i_lsub, i_lmul, i_land, i_lor, i_lxor, i_ldiv, i_lrem, i_lshl, i_lshr, i_lcmp, i_ineg, i_lneg, i_i2l, i_l2i, i_i2b, i_i2c, i_dup, i_pop, i_dup_x1, i_dup2, i_icmp_eq, i_icmp_lt, i_icmp_ge, i_icmp_gt, i_icmp_le, i_if_eq, i_if_lt, i_if_ge, i_if_gt, i_if_le, i_goto, i_ifnull, i_iald, i_bald, i_zald, i_lald, i_aald, i_iast, i_bast, i_zast, i_last, i_alen, i_iret, i_lret, i_aret, i_vret, i_oinit, i_cast, i_tsw, i_cases, i_mmin, i_mmax, i_lmin, i_throw, nb0, nb1, nint, nby0, rf_s, rf_n, of_r, of_n, tk_orf_rf, tk_c2, tk_ls, Value.category, tk_isR_ref, tk_isR_rf, tk_isR_null]
  subst hr
  refine ⟨hcs, hss, H _ ?_ _ _ _ (((hR.iA (k := 13) rfl _).iI 7 _).iA (k := 14) rfl _)⟩
  refine ⟨c1.trans ((qlF.ofA (V := V1) (i := 13) (by omega) (upd_ne _ _ _)).trans ((qlF.of (pF.ofI (k := k) (Or.inr (Or.inr (Or.inr (Or.inl rfl)))))).trans (qlF.ofA (i := 14) (by omega) (fun j hj => ?_)))), ?_, c3, ?_, ?_, q, c6, ?_⟩
  · simp [vA_wI, vA_wA, upd, hj]
  · simpa [vI_wI, vI_wA] using c2
  · simpa [vI_wI, vI_wA] using c4
  · simpa [vI_wI, vI_wA] using c5
  · simpa [vI_wI, vI_wA] using c7
end RCL

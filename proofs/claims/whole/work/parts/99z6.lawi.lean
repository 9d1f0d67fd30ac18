/-! THE LAW: what holds between its calls -/
section LAWI
variable {Z : tk_Z} {ρ ρ' : Nat → Nat} {S S' : tk_S} {x m r : Nat} {gh : gH} {M : Mt} {T : nT} {R : Nat → Nat} {V : vR} {QR : tk_R}
theorem CI.move (hC : CI Z ρ S x gh M) (hZ : Z.2.2.2.2.2.1 ∉ q_L S) (hs : ∀ b, b ∈ q_L S → ρ b < 99 → sameAt S S' b) (hr : rx ρ ρ' S) : CI Z ρ' S' x gh M := by
  obtain ⟨fS, fG, fV, p, p2, fF, fL, bl⟩ := gh
  obtain ⟨⟨tn, tg, tp⟩, acts, ⟨nS, pr, wo⟩, ⟨nG, os, ps, ls, re, su, du, le, nb, bf, br, bs⟩, ⟨nV, kd, wh, be, bi, pa, pd, la⟩, ⟨nF, mo⟩, ⟨nL, lsu, lra, lrk, ldu⟩, J, ⟨td, dry, lc⟩⟩ := M
  obtain ⟨cD0, cT0, cK0, cA0, cS0, cG0, cV0, cF0, cL0, cJ0⟩ := hC
  obtain ⟨hx, hk, hρ, htd, ht, hdry, hlc⟩ := cD0
  have sx := hs x hx (by rw [hρ]; decide)
  have sM : ∀ R, (∀ q, q ∈ R → q < 99) → sm ρ S S' R := fun R hR b hb hq => hs b hb (hR _ hq)
  exact ⟨cD.same ⟨hx, hk, hρ, htd, ht, hdry, hlc⟩ sx (hr x hx), cT0.same (xr.of sx) (sM _ (by simp)) hr, cK0.same (xr.of sx) (sM _ (by simp)) hr, cA0.same hZ (xr.of sx) (sM _ (by simp)) hr, cS0.same hZ (xr.of sx) (sM _ (by simp)) hr, cG0.same hZ (xr.of sx) (sM _ (by simp)) hr, cV0.same hZ (xr.of sx) (sM _ (by simp)) hr, cF0.same hZ (xr.of sx) (sM _ (by simp)) hr, cL0.same hZ (xr.of sx) (sM _ (by simp)) hr, cJ0.same (xr.of sx) (sM _ (by simp)) hr⟩
theorem CI.relab {w : Nat} (hC : CI Z ρ S x gh M) (hZ : Z.2.2.2.2.2.1 ∉ q_L S) (hr : 99 ≤ ρ r) : CI Z (va_up ρ r w) S x gh M := by
  have mem : ∀ b, b ∈ q_L (((q_L S).filter (fun b => decide (b ≠ r)), S.2) : tk_S) ↔ b ∈ q_L S ∧ b ≠ r := fun b => by
    show b ∈ (q_L S).filter (fun b => decide (b ≠ r)) ↔ _
    rw [List.mem_filter, decide_eq_true_iff]
  generalize hS1 : (((q_L S).filter (fun b => decide (b ≠ r)), S.2) : tk_S) = S1 at mem
  have e1 : S1.2 = S.2 := by rw [← hS1]
  have s1 : ∀ b, b ∈ q_L S1 → sameAt S S1 b := fun b hb => by
    refine ⟨hb, ?_, fun c k => ?_, fun c k => ?_, fun c k => ?_, ?_, ?_, ?_, ?_⟩ <;> (rw [← hS1]; rfl)
  have s2 : ∀ b, b ∈ q_L S1 → sameAt S1 S b := fun b hb => by
    refine ⟨((mem b).mp hb).1, ?_, fun c k => ?_, fun c k => ?_, fun c k => ?_, ?_, ?_, ?_, ?_⟩ <;> (rw [← hS1]; rfl)
  have hZ1 : Z.2.2.2.2.2.1 ∉ q_L S1 := fun z => hZ ((mem _).mp z).1
  have a1 : CI Z ρ S1 x gh M := hC.move hZ (fun b hb hlt => s1 b ((mem b).mpr ⟨hb, fun z => by rw [z] at hlt; omega⟩)) rx.rfl'
  have a2 : CI Z (va_up ρ r w) S1 x gh M := a1.move hZ1 (fun b hb _ => sameAt.rfl' hb) (fun b hb => if_neg ((mem b).mp hb).2)
  exact a2.move hZ1 (fun b hb _ => s2 b hb) (fun _ _ => rfl)
/-- the row for what is answered -/
def oR (ρ : Nat → Nat) (S : tk_S) (r w : Nat) : Prop := r ∈ q_L S ∧ q_K S r = 16 ∧ q_n S r = 1 ∧ ρ r = w
def FX (r : Nat) (ρ ρ' : Nat → Nat) (S S' : tk_S) : Prop := gr S S' ∧ rx ρ ρ' S ∧ ∀ b, b ∈ q_L S → 100 ≤ ρ b → b ≠ r → sameAt S S' b
theorem RS.own {B : bS} (hR : RS B m ρ S T R V) : RS (ρ, S) m ρ S T R V := ⟨hR.1, hR.2.1, bF.rfl'⟩
theorem RS.fx (hR : RS (ρ, S) m ρ S T R V) (hO : oR ρ S r 100) (hF : FX r ρ ρ' S S') : RS (ρ', S') m ρ' S' T R V := by
  obtain ⟨⟨⟨h1, h2, h3⟩, hA⟩, ⟨v1, v2, v3, v4⟩, -⟩ := hR
  obtain ⟨f1, f2, f3⟩ := hF
  have sm := f3 m h1 (by rw [h3]; exact Nat.le_refl _) (fun z => by rw [z, hO.2.1] at h2; exact absurd h2 (by decide))
  have sr : ∀ k kd cap, T k = some (kd, cap) → sameAt S S' (R k) := fun k kd cap hT => by
    obtain ⟨a1, a2, a3, a4, a5⟩ := hA k kd cap hT
    exact f3 _ a2 (by rw [a5]; omega) (fun z => by rw [z, hO.2.2.2] at a5; omega)
  refine ⟨⟨⟨sm.1, sm.2.1.trans h2, (f2 m h1).trans h3⟩, fun k kd cap hT => ?_⟩, ⟨fun k => (sm.2.2.1 13 k).trans (v1 k), (sm.2.2.2.1 13 43).trans v2, fun k kd cap hT hk => (sr k kd cap hT).2.2.2.2.2.2.1.trans (v3 k kd cap hT hk), fun k cap hT => (sr k 16 cap hT).2.2.2.2.2.2.2.1.trans (v4 k cap hT)⟩, bF.rfl'⟩
  obtain ⟨a1, a2, a3, a4, a5⟩ := hA k kd cap hT
  have s := sr k kd cap hT
  exact ⟨(sm.2.2.2.2.1 13 k).trans a1, s.1, s.2.1.trans a3, s.2.2.2.2.2.1.trans a4, (f2 _ a2).trans a5⟩
theorem RS.relab {u w : Nat} (hR : RS (ρ, S) m ρ S T R V) (hO : oR ρ S r u) (hu : u ≤ 100) : RS (va_up ρ r w, S) m (va_up ρ r w) S T R V := by
  obtain ⟨⟨⟨h1, h2, h3⟩, hA⟩, hv, -⟩ := hR
  refine ⟨⟨⟨h1, h2, ?_⟩, fun k kd cap hT => ?_⟩, hv, bF.rfl'⟩
  · rw [← h3]
    exact if_neg (fun z => by rw [z, hO.2.1] at h2; exact absurd h2 (by decide))
  · obtain ⟨a1, a2, a3, a4, a5⟩ := hA k kd cap hT
    refine ⟨a1, a2, a3, a4, ?_⟩
    rw [← a5]
    exact if_neg (fun z => by rw [z, hO.2.2.2] at a5; omega)
theorem oR.relab {u w : Nat} (hO : oR ρ S r u) : oR (va_up ρ r w) S r w := ⟨hO.1, hO.2.1, hO.2.2.1, if_pos rfl⟩
/-- a call of the class is over: what was answered lies in r -/
def okW (Z : tk_Z) (ρ : Nat → Nat) (S : tk_S) (x r : Nat) (QR : tk_R) (o : Int32 × Int64 × Mt) : Prop := ∀ S' ρ' gh', FX r ρ ρ' S S' → CI Z ρ' S' x gh' o.2.2 → oR ρ' S' r 100 → Z.2.2.2.2.2.1 ∉ q_L S' → (o.1 = 0 → q_aJ S' r 0 = o.2.1) → QR (some (.int o.1)) S'
theorem sameAJ {b : Nat} {f : Nat → Int64} (hb : b ∈ q_L S) (hn : b ≠ r) : sameAt S (s_aJ S r f) b := ⟨hb, rfl, fun _ _ => rfl, fun _ _ => rfl, fun _ _ => rfl, rfl, rfl, if_neg hn, rfl⟩
theorem okW.val {v : Int64} {M' : Mt} {gh' : gH} (H : okW Z ρ S x r QR (0, v, M')) (hO : oR ρ S r 100) (hZ' : Z.2.2.2.2.2.1 ∉ q_L S') (hF : FO ρ ρ' S S') (hC : CI Z ρ' S' x gh' M') : QR (some (.int 0)) (s_aJ S' r (vp_updL (q_aJ S' r) 0 v)) := by
  have sr := hF.2.2 r hO.1 (by rw [hO.2.2.2]; exact Nat.le_refl _)
  have hr' : ρ' r = 100 := (hF.2.1 r hO.1).trans hO.2.2.2
  have hO' : oR ρ' (s_aJ S' r (vp_updL (q_aJ S' r) 0 v)) r 100 := ⟨sr.1, sr.2.1.trans hO.2.1, sr.2.2.2.2.2.1.trans hO.2.2.1, hr'⟩
  refine H _ ρ' gh' ⟨hF.1, hF.2.1, fun b hb hq hn => (hF.2.2 b hb hq).trans (sameAJ (hF.1 b hb) hn)⟩ (hC.move hZ' (fun b hb hlt => sameAJ hb (fun z => by rw [z, hr'] at hlt; omega)) rx.rfl') hO' hZ' (fun _ => ?_)
  show va_up (q_aJ S') r (vp_updL (q_aJ S' r) 0 v) r 0 = v
  simp [va_up, vp_updL]
theorem okW.thr {c : Int32} {v : Int64} (H : okW Z ρ S x r QR (c, v, M)) (hc : c ≠ 0) (hC : CI Z ρ S x gh M) (hO : oR ρ S r 100) (hZ : Z.2.2.2.2.2.1 ∉ q_L S) : QR (some (.int c)) S := H S ρ gh ⟨fun b hb => hb, rx.rfl', fun b hb _ _ => sameAt.rfl' hb⟩ hC hO hZ (fun z => absurd z hc)
theorem okW.void {v : Int64} {M' : Mt} {gh' : gH} (H : okW Z ρ S x r QR (0, v, M')) (hv : q_aJ S r 0 = v) (hO : oR ρ S r 100) (hZ' : Z.2.2.2.2.2.1 ∉ q_L S') (hF : FO ρ ρ' S S') (hC : CI Z ρ' S' x gh' M') : QR (some (.int 0)) S' := by
  have sr := hF.2.2 r hO.1 (by rw [hO.2.2.2]; exact Nat.le_refl _)
  exact H S' ρ' gh' ⟨hF.1, hF.2.1, fun b hb hq _ => hF.2.2 b hb hq⟩ hC ⟨sr.1, sr.2.1.trans hO.2.1, sr.2.2.2.2.2.1.trans hO.2.2.1, (hF.2.1 r hO.1).trans hO.2.2.2⟩ hZ' (fun _ => by rw [sr.2.2.2.2.2.2.2.1]; exact hv)
theorem oR.fo (hO : oR ρ S r 100) (hF : FO ρ ρ' S S') : r ∈ q_L S' ∧ q_K S' r = 16 ∧ q_n S' r = 1 := by
  have sr := hF.2.2 r hO.1 (by rw [hO.2.2.2]; exact Nat.le_refl _)
  exact ⟨sr.1, sr.2.1.trans hO.2.1, sr.2.2.2.2.2.1.trans hO.2.2.1⟩
theorem in01 : vp_in 0 1 := vp_in_nI (n := 0) (N := 1) (by omega) (by omega)
theorem c00 : (0 : Int32).toNatClampNeg = 0 := rfl
theorem cmp_self (w : Int64) : lg_cmp w w = 0 := by
  unfold lg_cmp
  simp [Int64.lt_irrefl]
/-- the handlers' places -/
theorem thr0 {E : String} {K : tk_K} {hs : List (String × tk_K)} {ls : List (Option Value)} {cs ss : Nat} (h : ∀ q : Nat, K ls [.ref q] S cs ss) : ∃ K', (E, K') ∈ (E, K) :: hs ∧ ∀ q : Nat, K' ls [.ref q] S cs ss := ⟨K, List.mem_cons_self, h⟩
theorem thr1 {E : String} {K : tk_K} {a1 : String × tk_K} {hs : List (String × tk_K)} {ls : List (Option Value)} {cs ss : Nat} (h : ∀ q : Nat, K ls [.ref q] S cs ss) : ∃ K', (E, K') ∈ a1 :: (E, K) :: hs ∧ ∀ q : Nat, K' ls [.ref q] S cs ss := ⟨K, List.mem_cons_of_mem _ List.mem_cons_self, h⟩
theorem thr2 {E : String} {K : tk_K} {a1 a2 : String × tk_K} {hs : List (String × tk_K)} {ls : List (Option Value)} {cs ss : Nat} (h : ∀ q : Nat, K ls [.ref q] S cs ss) : ∃ K', (E, K') ∈ a1 :: a2 :: (E, K) :: hs ∧ ∀ q : Nat, K' ls [.ref q] S cs ss := ⟨K, List.mem_cons_of_mem _ (List.mem_cons_of_mem _ List.mem_cons_self), h⟩
theorem midW (hF : FX r ρ ρ' S S') (hC : CI Z ρ' S' x gh M) (hO' : oR ρ' S' r 100) (hO : oR ρ S r 100) (hR : RS (ρ, S) m ρ S T R V) (hZ' : Z.2.2.2.2.2.1 ∉ q_L S') : CI Z (va_up ρ' r 99) S' x gh M ∧ RS (va_up ρ' r 99, S') m (va_up ρ' r 99) S' T R V ∧ oR (va_up ρ' r 99) S' r 99 :=
  ⟨hC.relab hZ' (by rw [hO'.2.2.2]; decide), (hR.fx hO hF).relab hO' (Nat.le_refl _), hO'.relab⟩
theorem midQ {ρ2 : Nat → Nat} {S2 : tk_S} (hC : CI Z ρ S x gh M) (hO : oR ρ S r 99) (hR : RS (ρ, S) m ρ2 S2 T R V) (hZ : Z.2.2.2.2.2.1 ∉ q_L S) (hZ2 : Z.2.2.2.2.2.1 ∉ q_L S2) : CI Z (va_up ρ2 r 100) S2 x gh M ∧ RS (va_up ρ2 r 100, S2) m (va_up ρ2 r 100) S2 T R V ∧ oR (va_up ρ2 r 100) S2 r 100 ∧ q_aJ S2 r = q_aJ S r := by
  obtain ⟨f1, f2, f3⟩ := hR.2.2
  have sr := f3 r hO.1 (show ρ r < 100 by rw [hO.2.2.2]; decide)
  have hO2 : oR ρ2 S2 r 99 := ⟨sr.1, sr.2.1.trans hO.2.1, sr.2.2.2.2.2.1.trans hO.2.2.1, (f2 r hO.1).trans hO.2.2.2⟩
  have hC2 : CI Z ρ2 S2 x gh M := hC.move hZ (fun b hb hlt => f3 b hb (show ρ b < 100 by omega)) f2
  exact ⟨hC2.relab hZ2 (by rw [hO2.2.2.2]; exact Nat.le_refl _), hR.own.relab hO2 (by omega), hO2.relab, sr.2.2.2.2.2.2.2.1⟩
end LAWI
/-! between two turns of the law's loop -/
section LAWJ
variable {Z : tk_Z} {d mc ms b c x m r : Nat} {S : tk_S} {cs ss : Nat} {M : Mt} {E : tk_E}
def jnM (M : Mt) : Nat := M.2.2.2.2.2.2.2.1.1
def LC (Z : tk_Z) (c x m r : Nat) (S : tk_S) (cs ss : Nat) (M : Mt) : Prop := ∃ ρ R V gh hw k, CI Z ρ S x gh M ∧ RS (ρ, S) m ρ S (rLk (cp 400 hw) (cp 600 M.2.2.2.2.2.2.2.1.1)) R V ∧ RI V k M ∧ oR ρ S r 100 ∧ IV c M ∧ JV M ∧ k ≤ 690 * M.2.1.length ∧ k ≤ hw ∧ hw ≤ 8970 ∧ cs ≤ 100 + 200 * c + 5 * lvl (jnM M) + 4 * lv 600 (jnM M) + 2 * lv 400 hw ∧ ss ≤ 20000 + 7000 * c + 60000 * lvl (jnM M) + 80000 * lv 600 (jnM M) + 30000 * lv 400 hw
/-- behind the reference's answer -/
def tlI (Z : tk_Z) (d mc ms : Nat) (E : tk_E) : tk_K := (i_istore 6 (i_aload 2 (i_callV Z mX12_thrown 13 0 d mc ms (i_iload 5 (i_icmp_eq (i_iload 5 (i_if_eq (i_aload 3 (i_push (.int (0)) (i_lald (i_iload 6 (i_i2l (i_lcmp (i_if_eq (i_goto (E 1635)) (i_push (.int (0)) i_lwret)))))))) (i_goto (E 1635)))) (i_push (.int (0)) i_lwret))))))
def tlJ (Z : tk_Z) (d mc ms : Nat) (E : tk_E) : tk_K := (i_lstore 6 (i_aload 2 (i_callV Z mX12_thrown 13 0 d mc ms (i_iload 5 (i_icmp_eq (i_iload 5 (i_if_eq (i_aload 3 (i_push (.int (0)) (i_lald (i_lload 6 (i_lcmp (i_if_eq (i_goto (E 1635)) (i_push (.int (0)) i_lwret))))))) (i_goto (E 1635)))) (i_push (.int (0)) i_lwret))))))
def tlV0 (Z : tk_Z) (d mc ms : Nat) (E : tk_E) : tk_K := (i_aload 2 (i_callV Z mX12_thrown 13 0 d mc ms (i_iload 5 (i_icmp_eq (i_goto (E 1635)) (i_push (.int (0)) i_lwret)))))
theorem tlI_ok {ρ : Nat → Nat} {kc w i : Int32} {l6 l7 : Option Value} (hd : 1 ≤ d) (hcs : cs ≤ mc) (hss : ss ≤ ms) (hO : rO ρ S m) (h0 : q_I S 13 0 m = kc) (hr : r ∈ q_L S ∧ q_K S r = 16 ∧ q_n S r = 1) (hv : kc = 0 → q_aJ S r 0 = w.toInt64)
    (H : ∀ l7', E 1635 [some (.ref b), some (.ref x), some (.ref m), some (.ref r), some (.int i), some (.int kc), some (.int w), l7'] [] S cs ss) : tlI Z d mc ms E [some (.ref b), some (.ref x), some (.ref m), some (.ref r), some (.int i), some (.int kc), l6, l7] [.int w] S cs ss := by
  unfold tlI
  simp -implicitDefEqProofs [i_aload, i_iload, i_lload, i_istore, i_lstore, i_astore, i_iinc, i_push, i_getI, i_getJ, i_getR, i_putI, i_putJ, i_putR, i_iadd, i_isub, i_imul, i_iand, i_ior, i_ixor, i_ishl, i_ishr, i_iushr, i_idiv, i_irem, i_ladd, i_lsub, i_lmul, i_land, i_lor, i_lxor, i_ldiv, i_lrem, i_lshl, i_lshr, i_lcmp, i_ineg, i_lneg, i_i2l, i_l2i, i_i2b, i_i2c, i_dup, i_pop, i_dup_x1, i_dup2, i_icmp_eq, i_icmp_lt, i_icmp_ge, i_icmp_gt, i_icmp_le, i_if_eq, i_if_lt, i_if_ge, i_if_gt, i_if_le, i_goto, i_ifnull, i_iald, i_bald, i_zald, i_lald, i_aald, i_iast, i_bast, i_zast, i_last, i_alen, i_iret, i_lret, i_aret, i_vret, i_oinit, i_cast, i_tsw, i_cases, i_mmin, i_mmax, i_lmin, i_throw, nb0, nb1, nint, nby0, rf_s, rf_n, of_r, of_n, tk_orf_rf, tk_c2, tk_ls, Value.category, tk_isR_ref, tk_isR_rf, tk_isR_null]
  refine ⟨by simp, hO.1, hO.2.1, by simp [Value.category], 0, 0, 0, by omega, by omega, by omega, ?_⟩
  refine r_thrown hO ?_
  rw [h0]
  simp -implicitDefEqProofs [i_aload, i_iload, i_lload, i_istore, i_lstore, i_astore, i_iinc, i_push, i_getI, i_getJ, i_getR, i_putI, i_putJ, i_putR, i_iadd, i_isub, i_imul, i_iand, i_ior, i_ixor, i_ishl, i_ishr, i_iushr, i_idiv, i_irem, i_ladd, i_lsub, i_lmul, i_land, i_lor, i_lxor, i_ldiv, i_lrem, i_lshl, i_lshr, i_lcmp, i_ineg, i_lneg, i_i2l, i_l2i, i_i2b, i_i2c, i_dup, i_pop, i_dup_x1, i_dup2, i_icmp_eq, i_icmp_lt, i_icmp_ge, i_icmp_gt, i_icmp_le, i_if_eq, i_if_lt, i_if_ge, i_if_gt, i_if_le, i_goto, i_ifnull, i_iald, i_bald, i_zald, i_lald, i_aald, i_iast, i_bast, i_zast, i_last, i_alen, i_iret, i_lret, i_aret, i_vret, i_oinit, i_cast, i_tsw, i_cases, i_mmin, i_mmax, i_lmin, i_throw, nb0, nb1, nint, nby0, rf_s, rf_n, of_r, of_n, tk_orf_rf, tk_c2, tk_ls, Value.category, tk_isR_ref, tk_isR_rf, tk_isR_null]
  refine ⟨fun z => ?_, fun z => H _⟩
  have hv := hv z
  simp -implicitDefEqProofs [hr.1, hr.2.1, hr.2.2, in01, hv, cmp_self]
  exact H _
theorem tlJ_ok {ρ : Nat → Nat} {kc i : Int32} {w : Int64} {l6 l7 : Option Value} (hd : 1 ≤ d) (hcs : cs ≤ mc) (hss : ss ≤ ms) (hO : rO ρ S m) (h0 : q_I S 13 0 m = kc) (hr : r ∈ q_L S ∧ q_K S r = 16 ∧ q_n S r = 1) (hv : kc = 0 → q_aJ S r 0 = w)
    (H : ∀ l7', E 1635 [some (.ref b), some (.ref x), some (.ref m), some (.ref r), some (.int i), some (.int kc), some (.long w), l7'] [] S cs ss) : tlJ Z d mc ms E [some (.ref b), some (.ref x), some (.ref m), some (.ref r), some (.int i), some (.int kc), l6, l7] [.long w] S cs ss := by
  unfold tlJ
  simp -implicitDefEqProofs [i_aload, i_iload, i_lload, i_istore, i_lstore, i_astore, i_iinc, i_push, i_getI, i_getJ, i_getR, i_putI, i_putJ, i_putR, i_iadd, i_isub, i_imul, i_iand, i_ior, i_ixor, i_ishl, i_ishr, i_iushr, i_idiv, i_irem, i_ladd, i_lsub, i_lmul, i_land, i_lor, i_lxor, i_ldiv, i_lrem, i_lshl, i_lshr, i_lcmp, i_ineg, i_lneg, i_i2l, i_l2i, i_i2b, i_i2c, i_dup, i_pop, i_dup_x1, i_dup2, i_icmp_eq, i_icmp_lt, i_icmp_ge, i_icmp_gt, i_icmp_le, i_if_eq, i_if_lt, i_if_ge, i_if_gt, i_if_le, i_goto, i_ifnull, i_iald, i_bald, i_zald, i_lald, i_aald, i_iast, i_bast, i_zast, i_last, i_alen, i_iret, i_lret, i_aret, i_vret, i_oinit, i_cast, i_tsw, i_cases, i_mmin, i_mmax, i_lmin, i_throw, nb0, nb1, nint, nby0, rf_s, rf_n, of_r, of_n, tk_orf_rf, tk_c2, tk_ls, Value.category, tk_isR_ref, tk_isR_rf, tk_isR_null]
  refine ⟨by simp, hO.1, hO.2.1, by simp [Value.category], 0, 0, 0, by omega, by omega, by omega, ?_⟩
  refine r_thrown hO ?_
  rw [h0]
  simp -implicitDefEqProofs [i_aload, i_iload, i_lload, i_istore, i_lstore, i_astore, i_iinc, i_push, i_getI, i_getJ, i_getR, i_putI, i_putJ, i_putR, i_iadd, i_isub, i_imul, i_iand, i_ior, i_ixor, i_ishl, i_ishr, i_iushr, i_idiv, i_irem, i_ladd, i_lsub, i_lmul, i_land, i_lor, i_lxor, i_ldiv, i_lrem, i_lshl, i_lshr, i_lcmp, i_ineg, i_lneg, i_i2l, i_l2i, i_i2b, i_i2c, i_dup, i_pop, i_dup_x1, i_dup2, i_icmp_eq, i_icmp_lt, i_icmp_ge, i_icmp_gt, i_icmp_le, i_if_eq, i_if_lt, i_if_ge, i_if_gt, i_if_le, i_goto, i_ifnull, i_iald, i_bald, i_zald, i_lald, i_aald, i_iast, i_bast, i_zast, i_last, i_alen, i_iret, i_lret, i_aret, i_vret, i_oinit, i_cast, i_tsw, i_cases, i_mmin, i_mmax, i_lmin, i_throw, nb0, nb1, nint, nby0, rf_s, rf_n, of_r, of_n, tk_orf_rf, tk_c2, tk_ls, Value.category, tk_isR_ref, tk_isR_rf, tk_isR_null]
  refine ⟨fun z => ?_, fun z => H _⟩
  have hv := hv z
  simp -implicitDefEqProofs [hr.1, hr.2.1, hr.2.2, in01, hv, cmp_self]
  exact H _
theorem tlV0_ok {ρ : Nat → Nat} {kc i : Int32} {l6 l7 : Option Value} (hd : 1 ≤ d) (hcs : cs ≤ mc) (hss : ss ≤ ms) (hO : rO ρ S m) (h0 : q_I S 13 0 m = kc)
    (H : E 1635 [some (.ref b), some (.ref x), some (.ref m), some (.ref r), some (.int i), some (.int kc), l6, l7] [] S cs ss) : tlV0 Z d mc ms E [some (.ref b), some (.ref x), some (.ref m), some (.ref r), some (.int i), some (.int kc), l6, l7] [] S cs ss := by
  unfold tlV0
  simp -implicitDefEqProofs [i_aload, i_iload, i_lload, i_istore, i_lstore, i_astore, i_iinc, i_push, i_getI, i_getJ, i_getR, i_putI, i_putJ, i_putR, i_iadd, i_isub, i_imul, i_iand, i_ior, i_ixor, i_ishl, i_ishr, i_iushr, i_idiv, i_irem, i_ladd, i_lsub, i_lmul, i_land, i_lor, i_lxor, i_ldiv, i_lrem, i_lshl, i_lshr, i_lcmp, i_ineg, i_lneg, i_i2l, i_l2i, i_i2b, i_i2c, i_dup, i_pop, i_dup_x1, i_dup2, i_icmp_eq, i_icmp_lt, i_icmp_ge, i_icmp_gt, i_icmp_le, i_if_eq, i_if_lt, i_if_ge, i_if_gt, i_if_le, i_goto, i_ifnull, i_iald, i_bald, i_zald, i_lald, i_aald, i_iast, i_bast, i_zast, i_last, i_alen, i_iret, i_lret, i_aret, i_vret, i_oinit, i_cast, i_tsw, i_cases, i_mmin, i_mmax, i_lmin, i_throw, nb0, nb1, nint, nby0, rf_s, rf_n, of_r, of_n, tk_orf_rf, tk_c2, tk_ls, Value.category, tk_isR_ref, tk_isR_rf, tk_isR_null]
  refine ⟨by simp, hO.1, hO.2.1, by simp [Value.category], 0, 0, 0, by omega, by omega, by omega, ?_⟩
  refine r_thrown hO ?_
  rw [h0]
  simp -implicitDefEqProofs [i_aload, i_iload, i_lload, i_istore, i_lstore, i_astore, i_iinc, i_push, i_getI, i_getJ, i_getR, i_putI, i_putJ, i_putR, i_iadd, i_isub, i_imul, i_iand, i_ior, i_ixor, i_ishl, i_ishr, i_iushr, i_idiv, i_irem, i_ladd, i_lsub, i_lmul, i_land, i_lor, i_lxor, i_ldiv, i_lrem, i_lshl, i_lshr, i_lcmp, i_ineg, i_lneg, i_i2l, i_l2i, i_i2b, i_i2c, i_dup, i_pop, i_dup_x1, i_dup2, i_icmp_eq, i_icmp_lt, i_icmp_ge, i_icmp_gt, i_icmp_le, i_if_eq, i_if_lt, i_if_ge, i_if_gt, i_if_le, i_goto, i_ifnull, i_iald, i_bald, i_zald, i_lald, i_aald, i_iast, i_bast, i_zast, i_last, i_alen, i_iret, i_lret, i_aret, i_vret, i_oinit, i_cast, i_tsw, i_cases, i_mmin, i_mmax, i_lmin, i_throw, nb0, nb1, nint, nby0, rf_s, rf_n, of_r, of_n, tk_orf_rf, tk_c2, tk_ls, Value.category, tk_isR_ref, tk_isR_rf, tk_isR_null]
  exact H
end LAWJ

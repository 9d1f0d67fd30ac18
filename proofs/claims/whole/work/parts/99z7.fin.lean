/-! THE LAW: the end of each turn -/
section LAWF
variable {Z : tk_Z} {d mc ms b c x m r : Nat} {S : tk_S} {cs ss : Nat} {M : Mt} {E : tk_E}
theorem IV.wo0 (h : IV c M) : M.2.2.1.2.2 M.2.2.1.1 = 0 := by
  obtain ⟨⟨tn, tg, tp⟩, acts, ⟨nS, pr, wo⟩, ⟨nG, os, ps, ls, re, su, du, le, nb, bf, br, bs⟩, ⟨nV, kd, wh, be, bi, pa, pd, la⟩, ⟨nF, mo⟩, ⟨nL, lsu, lra, lrk, ldu⟩, ⟨jn, jb, jd, jk, jw, js, jh⟩, ⟨td, dry, lc⟩⟩ := M
  exact h.2.1.2.2 nS (Nat.le_refl _)
theorem IV.g0 (h : IV c M) : M.2.2.2.1.2.2.1 M.2.2.2.1.1 = 0 ∧ M.2.2.2.1.2.2.2.2.2.2.2.2.1 M.2.2.2.1.1 = 0 := by
  obtain ⟨⟨tn, tg, tp⟩, acts, ⟨nS, pr, wo⟩, ⟨nG, os, ps, ls, re, su, du, le, nb, bf, br, bs⟩, ⟨nV, kd, wh, be, bi, pa, pd, la⟩, ⟨nF, mo⟩, ⟨nL, lsu, lra, lrk, ldu⟩, ⟨jn, jb, jd, jk, jw, js, jh⟩, ⟨td, dry, lc⟩⟩ := M
  have g := h.2.2.1.1 nG (Nat.le_refl _)
  exact ⟨g.1, g.2.1⟩
theorem IV.du0 (h : IV c M) : M.2.2.2.2.2.2.1.2.2.2.2 M.2.2.2.2.2.2.1.1 = 0 := by
  obtain ⟨⟨tn, tg, tp⟩, acts, ⟨nS, pr, wo⟩, ⟨nG, os, ps, ls, re, su, du, le, nb, bf, br, bs⟩, ⟨nV, kd, wh, be, bi, pa, pd, la⟩, ⟨nF, mo⟩, ⟨nL, lsu, lra, lrk, ldu⟩, ⟨jn, jb, jd, jk, jw, js, jh⟩, ⟨td, dry, lc⟩⟩ := M
  exact h.2.2.2.2.1.2.2.2 nL (Nat.le_refl _)
theorem IV.dry (h : IV c M) : M.2.2.2.2.2.2.2.2.2.1 ≤ 20000 := by
  obtain ⟨⟨tn, tg, tp⟩, acts, ⟨nS, pr, wo⟩, ⟨nG, os, ps, ls, re, su, du, le, nb, bf, br, bs⟩, ⟨nV, kd, wh, be, bi, pa, pd, la⟩, ⟨nF, mo⟩, ⟨nL, lsu, lra, lrk, ldu⟩, ⟨jn, jb, jd, jk, jw, js, jh⟩, ⟨td, dry, lc⟩⟩ := M
  exact h.2.2.2.2.2.2
theorem IV.wop (h : IV c M) : ∀ i, i < M.2.2.1.1 → 0 ≤ M.2.2.1.2.2 i := by
  obtain ⟨⟨tn, tg, tp⟩, acts, ⟨nS, pr, wo⟩, ⟨nG, os, ps, ls, re, su, du, le, nb, bf, br, bs⟩, ⟨nV, kd, wh, be, bi, pa, pd, la⟩, ⟨nF, mo⟩, ⟨nL, lsu, lra, lrk, ldu⟩, ⟨jn, jb, jd, jk, jw, js, jh⟩, ⟨td, dry, lc⟩⟩ := M
  exact fun i _ => toI_pos.mpr (h.2.1.2.1 i).1
theorem IV.hda (h : IV c M) : ∀ (a : Nat) (A : pA), M.2.1[a]? = some A → -1 ≤ A.1 := by
  obtain ⟨⟨tn, tg, tp⟩, acts, ⟨nS, pr, wo⟩, ⟨nG, os, ps, ls, re, su, du, le, nb, bf, br, bs⟩, ⟨nV, kd, wh, be, bi, pa, pd, la⟩, ⟨nF, mo⟩, ⟨nL, lsu, lra, lrk, ldu⟩, ⟨jn, jb, jd, jk, jw, js, jh⟩, ⟨td, dry, lc⟩⟩ := M
  exact h.1
theorem BD.td (h : BD M) : M.2.2.2.2.2.2.2.2.1 ≤ 9999 := by
  obtain ⟨⟨tn, tg, tp⟩, acts, ⟨nS, pr, wo⟩, ⟨nG, os, ps, ls, re, su, du, le, nb, bf, br, bs⟩, ⟨nV, kd, wh, be, bi, pa, pd, la⟩, ⟨nF, mo⟩, ⟨nL, lsu, lra, lrk, ldu⟩, ⟨jn, jb, jd, jk, jw, js, jh⟩, ⟨td, dry, lc⟩⟩ := M
  exact h.2.2.2.2.2.2.2.2.2.2
theorem BD.nS (h : BD M) : M.2.2.1.1 ≤ 12 := by
  obtain ⟨⟨tn, tg, tp⟩, acts, ⟨nS, pr, wo⟩, ⟨nG, os, ps, ls, re, su, du, le, nb, bf, br, bs⟩, ⟨nV, kd, wh, be, bi, pa, pd, la⟩, ⟨nF, mo⟩, ⟨nL, lsu, lra, lrk, ldu⟩, ⟨jn, jb, jd, jk, jw, js, jh⟩, ⟨td, dry, lc⟩⟩ := M
  exact h.2.2.2.1
theorem BD.tn (h : BD M) : M.1.1 ≤ 2000 := by
  obtain ⟨⟨tn, tg, tp⟩, acts, ⟨nS, pr, wo⟩, ⟨nG, os, ps, ls, re, su, du, le, nb, bf, br, bs⟩, ⟨nV, kd, wh, be, bi, pa, pd, la⟩, ⟨nF, mo⟩, ⟨nL, lsu, lra, lrk, ldu⟩, ⟨jn, jb, jd, jk, jw, js, jh⟩, ⟨td, dry, lc⟩⟩ := M
  exact h.1
theorem BD.acts (h : BD M) : M.2.1.length ≤ 12 := by
  obtain ⟨⟨tn, tg, tp⟩, acts, ⟨nS, pr, wo⟩, ⟨nG, os, ps, ls, re, su, du, le, nb, bf, br, bs⟩, ⟨nV, kd, wh, be, bi, pa, pd, la⟩, ⟨nF, mo⟩, ⟨nL, lsu, lra, lrk, ldu⟩, ⟨jn, jb, jd, jk, jw, js, jh⟩, ⟨td, dry, lc⟩⟩ := M
  exact h.2.1
theorem BD.nG (h : BD M) : M.2.2.2.1.1 ≤ 8 := by
  obtain ⟨⟨tn, tg, tp⟩, acts, ⟨nS, pr, wo⟩, ⟨nG, os, ps, ls, re, su, du, le, nb, bf, br, bs⟩, ⟨nV, kd, wh, be, bi, pa, pd, la⟩, ⟨nF, mo⟩, ⟨nL, lsu, lra, lrk, ldu⟩, ⟨jn, jb, jd, jk, jw, js, jh⟩, ⟨td, dry, lc⟩⟩ := M
  exact h.2.2.2.2.1
theorem BD.nV (h : BD M) : M.2.2.2.2.1.1 ≤ 60 := by
  obtain ⟨⟨tn, tg, tp⟩, acts, ⟨nS, pr, wo⟩, ⟨nG, os, ps, ls, re, su, du, le, nb, bf, br, bs⟩, ⟨nV, kd, wh, be, bi, pa, pd, la⟩, ⟨nF, mo⟩, ⟨nL, lsu, lra, lrk, ldu⟩, ⟨jn, jb, jd, jk, jw, js, jh⟩, ⟨td, dry, lc⟩⟩ := M
  exact h.2.2.2.2.2.2.1
theorem BD.nF (h : BD M) : M.2.2.2.2.2.1.1 ≤ 8 := by
  obtain ⟨⟨tn, tg, tp⟩, acts, ⟨nS, pr, wo⟩, ⟨nG, os, ps, ls, re, su, du, le, nb, bf, br, bs⟩, ⟨nV, kd, wh, be, bi, pa, pd, la⟩, ⟨nF, mo⟩, ⟨nL, lsu, lra, lrk, ldu⟩, ⟨jn, jb, jd, jk, jw, js, jh⟩, ⟨td, dry, lc⟩⟩ := M
  exact h.2.2.2.2.2.2.2.1
theorem BD.nL (h : BD M) : M.2.2.2.2.2.2.1.1 ≤ 10 := by
  obtain ⟨⟨tn, tg, tp⟩, acts, ⟨nS, pr, wo⟩, ⟨nG, os, ps, ls, re, su, du, le, nb, bf, br, bs⟩, ⟨nV, kd, wh, be, bi, pa, pd, la⟩, ⟨nF, mo⟩, ⟨nL, lsu, lra, lrk, ldu⟩, ⟨jn, jb, jd, jk, jw, js, jh⟩, ⟨td, dry, lc⟩⟩ := M
  exact h.2.2.2.2.2.2.2.2.1
theorem BD.jn (h : BD M) : M.2.2.2.2.2.2.2.1.1 ≤ 12000 := by
  obtain ⟨⟨tn, tg, tp⟩, acts, ⟨nS, pr, wo⟩, ⟨nG, os, ps, ls, re, su, du, le, nb, bf, br, bs⟩, ⟨nV, kd, wh, be, bi, pa, pd, la⟩, ⟨nF, mo⟩, ⟨nL, lsu, lra, lrk, ldu⟩, ⟨jn, jb, jd, jk, jw, js, jh⟩, ⟨td, dry, lc⟩⟩ := M
  exact h.2.2.2.2.2.2.2.2.2.1
/-- what a call leaves of the bounds -/
def okN (c : Nat) (M : Mt) (o : Int32 × Int64 × Mt) : Prop := IV (c + 1) o.2.2 ∧ JV o.2.2 ∧ jnM M ≤ jnM o.2.2 ∧ o.2.2.2.1 = M.2.1
theorem okN.same (h : IV c M) (hJ : JV M) (a : Int32) (v : Int64) : okN c M (a, v, M) := ⟨h.mono (Nat.le_succ c), hJ, Nat.le_refl _, rfl⟩
/-- what the reference answers to a call with the outcome o -/
def okI (B : bS) (m hw k : Nat) (QR : tk_R) (o : Int32 × Int64 × Mt) : Prop := ∀ w : Int32, (o.1 = 0 → w.toInt64 = o.2.1) → okR B m hw k QR (some (.int w)) o.1 o.2.2
def okJ (B : bS) (m hw k : Nat) (QR : tk_R) (o : Int32 × Int64 × Mt) : Prop := ∀ w : Int64, (o.1 = 0 → w = o.2.1) → okR B m hw k QR (some (.long w)) o.1 o.2.2
/-- what goes on behind a turn -/
def NX (Z : tk_Z) (b c x m r : Nat) (E : tk_E) : Prop := ∀ S cs ss M l5 l6 l7, Z.2.2.2.2.2.1 ∉ q_L S → LC Z (c + 1) x m r S cs ss M → E 1635 [some (.ref b), some (.ref x), some (.ref m), some (.ref r), some (.int (nI (6 * c))), l5, l6, l7] [] S cs ss
section FIN
variable {ρ1 ρ2 : Nat → Nat} {S1 S2 : tk_S} {gh : gH} {o : Int32 × Int64 × Mt} {hw' k' : Nat} {R2 : Nat → Nat} {V' : vR}
theorem fin_LC (c1 : CI Z ρ1 S1 x gh o.2.2) (O1 : oR ρ1 S1 r 99) (hR2 : RS (ρ1, S1) m ρ2 S2 (rLk (cp 400 hw') (cp 600 o.2.2.2.2.2.2.2.2.2.1.1)) R2 V') (hI' : RI V' k' o.2.2) (hZ1 : Z.2.2.2.2.2.1 ∉ q_L S1) (hIV : IV (c + 1) o.2.2) (hJV : JV o.2.2) (hk' : k' ≤ 690 * o.2.2.2.1.length) (hkw' : k' ≤ hw') (hhw' : hw' ≤ 8970)
    (hcs : cs ≤ 100 + 200 * (c + 1) + 5 * lvl (jnM o.2.2) + 4 * lv 600 (jnM o.2.2) + 2 * lv 400 hw') (hss : ss ≤ 20000 + 7000 * (c + 1) + 60000 * lvl (jnM o.2.2) + 80000 * lv 600 (jnM o.2.2) + 30000 * lv 400 hw') : (r ∈ q_L S2 ∧ q_K S2 r = 16 ∧ q_n S2 r = 1) ∧ q_aJ S2 r = q_aJ S1 r ∧ (Z.2.2.2.2.2.1 ∉ q_L S2 → LC Z (c + 1) x m r S2 cs ss o.2.2) := by
  have sr := hR2.2.2.2.2 r O1.1 (show ρ1 r < 100 by rw [O1.2.2.2]; decide)
  refine ⟨⟨sr.1, sr.2.1.trans O1.2.1, sr.2.2.2.2.2.1.trans O1.2.2.1⟩, sr.2.2.2.2.2.2.2.1, fun hZ2 => ?_⟩
  obtain ⟨q1, q2, q3, q4⟩ := midQ c1 O1 hR2 hZ1 hZ2
  exact ⟨_, _, _, _, hw', k', q1, q2, hI', q3, hIV, hJV, hk', hkw', hhw', hcs, hss⟩
theorem room_ok {hw : Nat} (hc : c ≤ 511) (hmc : mc = 601024) (hms : ms = 7293034) (hcs : cs ≤ 100 + 200 * (c + 1) + 5 * lvl (jnM M) + 4 * lv 600 (jnM M) + 2 * lv 400 hw) (hss : ss ≤ 20000 + 7000 * (c + 1) + 60000 * lvl (jnM M) + 80000 * lv 600 (jnM M) + 30000 * lv 400 hw) : cs ≤ mc ∧ ss ≤ ms := by
  have a := lvl_le (jnM M)
  have b := lv_le 600 (jnM M)
  have e := lv_le 400 hw
  omega
theorem finI {w : Int32} {l6 l7 : Option Value} (hS : ∀ pc ls st S cs ss, (Z.2.2.2.2.2.1 ∉ q_L S → E pc ls st S cs ss) → E pc ls st S cs ss) (c1 : CI Z ρ1 S1 x gh o.2.2) (O1 : oR ρ1 S1 r 99) (hR2 : RS (ρ1, S1) m ρ2 S2 (rLk (cp 400 hw') (cp 600 o.2.2.2.2.2.2.2.2.2.1.1)) R2 V') (hI' : RI V' k' o.2.2) (h0 : vI V' 0 = o.1) (hv : o.1 = 0 → q_aJ S1 r 0 = o.2.1) (hw : o.1 = 0 → w.toInt64 = o.2.1) (hZ1 : Z.2.2.2.2.2.1 ∉ q_L S1) (hIV : IV (c + 1) o.2.2) (hJV : JV o.2.2) (hk' : k' ≤ 690 * o.2.2.2.1.length) (hkw' : k' ≤ hw') (hhw' : hw' ≤ 8970)
    (hcs : cs ≤ 100 + 200 * (c + 1) + 5 * lvl (jnM o.2.2) + 4 * lv 600 (jnM o.2.2) + 2 * lv 400 hw') (hss : ss ≤ 20000 + 7000 * (c + 1) + 60000 * lvl (jnM o.2.2) + 80000 * lv 600 (jnM o.2.2) + 30000 * lv 400 hw') (hc : c ≤ 511) (hd : 1 ≤ d) (hmc : mc = 601024) (hms : ms = 7293034) (next : NX Z b c x m r E) : tlI Z d mc ms E [some (.ref b), some (.ref x), some (.ref m), some (.ref r), some (.int (nI (6 * c))), some (.int o.1), l6, l7] [.int w] S2 cs ss := by
  obtain ⟨f1, f2, f3⟩ := fin_LC c1 O1 hR2 hI' hZ1 hIV hJV hk' hkw' hhw' hcs hss
  obtain ⟨a1, a2⟩ := room_ok hc hmc hms hcs hss
  refine tlI_ok hd a1 a2 hR2.1.1 ((hR2.2.1.1 0).trans h0) f1 (fun z => by rw [f2, hv z, hw z]) (fun l7' => hS _ _ _ _ _ _ (fun hZ2 => ?_))
  exact next _ _ _ _ _ _ _ hZ2 (f3 hZ2)
theorem finJ {w : Int64} {l6 l7 : Option Value} (hS : ∀ pc ls st S cs ss, (Z.2.2.2.2.2.1 ∉ q_L S → E pc ls st S cs ss) → E pc ls st S cs ss) (c1 : CI Z ρ1 S1 x gh o.2.2) (O1 : oR ρ1 S1 r 99) (hR2 : RS (ρ1, S1) m ρ2 S2 (rLk (cp 400 hw') (cp 600 o.2.2.2.2.2.2.2.2.2.1.1)) R2 V') (hI' : RI V' k' o.2.2) (h0 : vI V' 0 = o.1) (hv : o.1 = 0 → q_aJ S1 r 0 = o.2.1) (hw : o.1 = 0 → w = o.2.1) (hZ1 : Z.2.2.2.2.2.1 ∉ q_L S1) (hIV : IV (c + 1) o.2.2) (hJV : JV o.2.2) (hk' : k' ≤ 690 * o.2.2.2.1.length) (hkw' : k' ≤ hw') (hhw' : hw' ≤ 8970)
    (hcs : cs ≤ 100 + 200 * (c + 1) + 5 * lvl (jnM o.2.2) + 4 * lv 600 (jnM o.2.2) + 2 * lv 400 hw') (hss : ss ≤ 20000 + 7000 * (c + 1) + 60000 * lvl (jnM o.2.2) + 80000 * lv 600 (jnM o.2.2) + 30000 * lv 400 hw') (hc : c ≤ 511) (hd : 1 ≤ d) (hmc : mc = 601024) (hms : ms = 7293034) (next : NX Z b c x m r E) : tlJ Z d mc ms E [some (.ref b), some (.ref x), some (.ref m), some (.ref r), some (.int (nI (6 * c))), some (.int o.1), l6, l7] [.long w] S2 cs ss := by
  obtain ⟨f1, f2, f3⟩ := fin_LC c1 O1 hR2 hI' hZ1 hIV hJV hk' hkw' hhw' hcs hss
  obtain ⟨a1, a2⟩ := room_ok hc hmc hms hcs hss
  refine tlJ_ok hd a1 a2 hR2.1.1 ((hR2.2.1.1 0).trans h0) f1 (fun z => by rw [f2, hv z, hw z]) (fun l7' => hS _ _ _ _ _ _ (fun hZ2 => ?_))
  exact next _ _ _ _ _ _ _ hZ2 (f3 hZ2)
theorem finU {l6 l7 : Option Value} (hS : ∀ pc ls st S cs ss, (Z.2.2.2.2.2.1 ∉ q_L S → E pc ls st S cs ss) → E pc ls st S cs ss) (c1 : CI Z ρ1 S1 x gh o.2.2) (O1 : oR ρ1 S1 r 99) (hR2 : RS (ρ1, S1) m ρ2 S2 (rLk (cp 400 hw') (cp 600 o.2.2.2.2.2.2.2.2.2.1.1)) R2 V') (hI' : RI V' k' o.2.2) (h0 : vI V' 0 = o.1) (hZ1 : Z.2.2.2.2.2.1 ∉ q_L S1) (hIV : IV (c + 1) o.2.2) (hJV : JV o.2.2) (hk' : k' ≤ 690 * o.2.2.2.1.length) (hkw' : k' ≤ hw') (hhw' : hw' ≤ 8970)
    (hcs : cs ≤ 100 + 200 * (c + 1) + 5 * lvl (jnM o.2.2) + 4 * lv 600 (jnM o.2.2) + 2 * lv 400 hw') (hss : ss ≤ 20000 + 7000 * (c + 1) + 60000 * lvl (jnM o.2.2) + 80000 * lv 600 (jnM o.2.2) + 30000 * lv 400 hw') (hc : c ≤ 511) (hd : 1 ≤ d) (hmc : mc = 601024) (hms : ms = 7293034) (next : NX Z b c x m r E) : tlV0 Z d mc ms E [some (.ref b), some (.ref x), some (.ref m), some (.ref r), some (.int (nI (6 * c))), some (.int o.1), l6, l7] [] S2 cs ss := by
  obtain ⟨f1, f2, f3⟩ := fin_LC c1 O1 hR2 hI' hZ1 hIV hJV hk' hkw' hhw' hcs hss
  obtain ⟨a1, a2⟩ := room_ok hc hmc hms hcs hss
  refine tlV0_ok hd a1 a2 hR2.1.1 ((hR2.2.1.1 0).trans h0) (hS _ _ _ _ _ _ (fun hZ2 => ?_))
  exact next _ _ _ _ _ _ _ hZ2 (f3 hZ2)
end FIN
/-- the travellers' rows, as far as they go -/
theorem CI.pv {ρ : Nat → Nat} {gh : gH} {pa' pd' : Nat → Int32} (h : ∀ j, j < 8 * M.2.2.2.2.1.1 → pa' j = M.2.2.2.2.1.2.2.2.2.2.1 j ∧ pd' j = M.2.2.2.2.1.2.2.2.2.2.2.1 j) (hC : CI Z ρ S x gh M) : CI Z ρ S x gh (M.1, M.2.1, M.2.2.1, M.2.2.2.1, (M.2.2.2.2.1.1, M.2.2.2.2.1.2.1, M.2.2.2.2.1.2.2.1, M.2.2.2.2.1.2.2.2.1, M.2.2.2.2.1.2.2.2.2.1, pa', pd', M.2.2.2.2.1.2.2.2.2.2.2.2), M.2.2.2.2.2) := by
  obtain ⟨fS, fG, fV, p, p2, fF, fL, bl⟩ := gh
  obtain ⟨⟨tn, tg, tp⟩, acts, ⟨nS, pr, wo⟩, ⟨nG, os, ps, ls, re, su, du, le, nb, bf, br, bs⟩, ⟨nV, kd, wh, be, bi, pa, pd, la⟩, ⟨nF, mo⟩, ⟨nL, lsu, lra, lrk, ldu⟩, J, ⟨td, dry, lc⟩⟩ := M
  obtain ⟨cD0, cT0, cK0, cA0, cS0, cG0, cV0, cF0, cL0, cJ0⟩ := hC
  obtain ⟨l, e, h1, h2, h3, h31, h32, h4, h5⟩ := cV0
  refine ⟨cD0, cT0, cK0, cA0, cS0, cG0, ⟨l, e, h1, h2, h3, h31, h32, h4, fun i hi => ?_⟩, cF0, cL0, cJ0⟩
  obtain ⟨a1, a2, a3, a4, a5⟩ := h5 i hi
  dsimp only at h
  refine ⟨a1, a2, a3, a4, fun g hg => ?_⟩
  have q := h (8 * i + g) (by dsimp only at hi; omega)
  rw [q.1, q.2]
  exact a5 g hg
end LAWF

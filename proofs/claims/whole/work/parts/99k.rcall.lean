/-! THE REFERENCE'S CALLS: money, wear, force, stretch, farmer, rain -/
section RCALL4
variable {Z : tk_Z} {d mc ms : Nat} {QR : tk_R} {m hw k : Nat} {B : bS} {V : vR} {ρ : Nat → Nat} {S : tk_S} {R : Nat → Nat} {M : Mt}
theorem rr_money {i : Int32} (hd : 1 ≤ d) (hR : RS B m ρ S (rLk (cp 400 hw) (cp 600 M.2.2.2.2.2.2.2.1.1)) R V) (hI : RI V k M) (hB : BD M)
    (H1 : (i < 0 ∨ nI M.2.2.2.2.2.1.1 ≤ i) → okR B m hw k QR (some (.long 0)) 1 M) (H0 : ∀ j, j < M.2.2.2.2.2.1.1 → i = nI j → okR B m hw k QR (some (.long (M.2.2.2.2.2.1.2 j))) 0 M) : tk_M Z mX12_money d mc ms [.ref m, .int i] S QR tk_noX := by
  have hI0 := hI
  obtain ⟨⟨tn, tg, tp⟩, acts, ⟨nS, pr, wo⟩, ⟨nG, os, ps, ls, re, su, du, le, nb, bf, br, bs⟩, ⟨nV, kd, wh, be, bi, pa, pd, la⟩, ⟨nF, mo⟩, ⟨nL, lsu, lra, lrk, ldu⟩, ⟨jn, jb, jd, jk, jw, js, jh⟩, ⟨td, dry, lc⟩⟩ := M
  dsimp only at H1 H0
  obtain ⟨rT0, rA0, rS0, rG0, rV0, rF0, rL0, rJ0, rD0⟩ := id hI
  obtain ⟨b1, b2, b3, b4, b5, b6, b7, b8, b9, b10, b11⟩ := hB
  have x44 := hR.2.1.2.2.2 44 _ rfl
  rw [rF0.2] at x44
  refine r_money (n := nF) (mo := mo) hd hR.1.1 (hR.1.2 44 _ _ rfl) ((hR.2.1.1 45).trans rF0.1) b8 (Nat.le_refl 8) (fun f hf => by rw [x44]) (fun w => ?_) (fun f hf hif => ?_)
  · exact H1 w _ (hI0.t0 1) rfl _ _ _ (hR.iI 0 1)
  · exact H0 f hf hif _ (hI0.t0 0) rfl _ _ _ (hR.iI 0 0)
theorem rr_wear {i : Int32} (hd : 1 ≤ d) (hR : RS B m ρ S (rLk (cp 400 hw) (cp 600 M.2.2.2.2.2.2.2.1.1)) R V) (hI : RI V k M) (hB : BD M)
    (H1 : (i < 0 ∨ nI M.2.2.1.1 ≤ i) → okR B m hw k QR (some (.long 0)) 1 M) (H0 : ∀ j, j < M.2.2.1.1 → i = nI j → okR B m hw k QR (some (.long (M.2.2.1.2.2 j))) 0 M) : tk_M Z mX12_wear d mc ms [.ref m, .int i] S QR tk_noX := by
  have hI0 := hI
  obtain ⟨⟨tn, tg, tp⟩, acts, ⟨nS, pr, wo⟩, ⟨nG, os, ps, ls, re, su, du, le, nb, bf, br, bs⟩, ⟨nV, kd, wh, be, bi, pa, pd, la⟩, ⟨nF, mo⟩, ⟨nL, lsu, lra, lrk, ldu⟩, ⟨jn, jb, jd, jk, jw, js, jh⟩, ⟨td, dry, lc⟩⟩ := M
  dsimp only at H1 H0
  obtain ⟨rT0, rA0, rS0, rG0, rV0, rF0, rL0, rJ0, rD0⟩ := id hI
  obtain ⟨b1, b2, b3, b4, b5, b6, b7, b8, b9, b10, b11⟩ := hB
  have x27 := hR.2.1.2.2.2 27 _ rfl
  rw [rS0.2.2] at x27
  refine r_wear (n := nS) (mo := wo) hd hR.1.1 (hR.1.2 27 _ _ rfl) ((hR.2.1.1 28).trans rS0.1) b4 (Nat.le_refl 12) (fun f hf => by rw [x27]) (fun w => ?_) (fun f hf hif => ?_)
  · exact H1 w _ (hI0.t0 1) rfl _ _ _ (hR.iI 0 1)
  · exact H0 f hf hif _ (hI0.t0 0) rfl _ _ _ (hR.iI 0 0)
theorem rr_force {i : Int32} (hd : 1 ≤ d) (hR : RS B m ρ S (rLk (cp 400 hw) (cp 600 M.2.2.2.2.2.2.2.1.1)) R V) (hI : RI V k M) (hB : BD M) (hda : ∀ (a : Nat) (A : pA), M.2.1[a]? = some A → -1 ≤ A.1)
    (H1 : ¬ (0 ≤ i ∧ i ≤ 9999) → okR B m hw k QR (some (.int 0)) 1 M) (H0 : (0 ≤ i ∧ i ≤ 9999) → okR B m hw k QR (some (.int (actM M.2.1 0 i (-1) (-1)))) 0 M) : tk_M Z mX12_force d mc ms [.ref m, .int i] S QR tk_noX := by
  have hI0 := hI
  obtain ⟨⟨tn, tg, tp⟩, acts, ⟨nS, pr, wo⟩, ⟨nG, os, ps, ls, re, su, du, le, nb, bf, br, bs⟩, ⟨nV, kd, wh, be, bi, pa, pd, la⟩, ⟨nF, mo⟩, ⟨nL, lsu, lra, lrk, ldu⟩, ⟨jn, jb, jd, jk, jw, js, jh⟩, ⟨td, dry, lc⟩⟩ := M
  dsimp only at H1 H0
  obtain ⟨rT0, rA0, rS0, rG0, rV0, rF0, rL0, rJ0, rD0⟩ := id hI
  obtain ⟨b1, b2, b3, b4, b5, b6, b7, b8, b9, b10, b11⟩ := hB
  have x9 := hR.2.1.2.2.1 9 _ _ rfl (by decide)
  refine r_force (acts := acts) hd hR.1.1 (hR.1.2 9 _ _ rfl) ((hR.2.1.1 18).trans rA0.1) b2 (fun a A hA => ⟨by rw [x9]; exact (rA0.2.2.2 a A hA).1, hda a A hA⟩) (fun w => ?_) (fun w => ?_)
  · exact H1 w _ (hI0.t0 1) rfl _ _ _ (hR.iI 0 1)
  · exact H0 w _ (hI0.t0 0) rfl _ _ _ (hR.iI 0 0)
theorem rr_stretch {i : Int32} (hd : 1 ≤ d) (hR : RS B m ρ S (rLk (cp 400 hw) (cp 600 M.2.2.2.2.2.2.2.1.1)) R V) (hI : RI V k M) (hB : BD M)
    (H1 : ¬ (1 ≤ i ∧ i ≤ 10000) → okR B m hw k QR (some (.int 0)) 1 M) (H2 : (1 ≤ i ∧ i ≤ 10000) → 12 ≤ M.2.2.1.1 → okR B m hw k QR (some (.int 0)) 2 M)
    (H0 : (1 ≤ i ∧ i ≤ 10000) → M.2.2.1.1 < 12 → okR B m hw k QR (some (.int (nI M.2.2.1.1))) 0 (M.1, M.2.1, (M.2.2.1.1 + 1, upd M.2.2.1.2.1 M.2.2.1.1 i, M.2.2.1.2.2), M.2.2.2)) : tk_M Z mX12_stretch d mc ms [.ref m, .int i] S QR tk_noX := by
  have hI0 := hI
  obtain ⟨⟨tn, tg, tp⟩, acts, ⟨nS, pr, wo⟩, ⟨nG, os, ps, ls, re, su, du, le, nb, bf, br, bs⟩, ⟨nV, kd, wh, be, bi, pa, pd, la⟩, ⟨nF, mo⟩, ⟨nL, lsu, lra, lrk, ldu⟩, ⟨jn, jb, jd, jk, jw, js, jh⟩, ⟨td, dry, lc⟩⟩ := M
  dsimp only at H1 H2 H0
  obtain ⟨rT0, rA0, rS0, rG0, rV0, rF0, rL0, rJ0, rD0⟩ := id hI
  obtain ⟨b1, b2, b3, b4, b5, b6, b7, b8, b9, b10, b11⟩ := hB
  have x26 := hR.2.1.2.2.1 26 _ _ rfl (by decide)
  rw [rS0.2.1] at x26
  refine r_stretch (n := nS) hd hR.1.1 (hR.1.2 26 _ _ rfl) ((hR.2.1.1 28).trans rS0.1) b4 (fun w => ?_) (fun w w2 => ?_) (fun w w2 => ?_)
  · exact H1 w _ (hI0.t0 1) rfl _ _ _ (hR.iI 0 1)
  · exact H2 w (by show 12 ≤ nS; omega) _ (hI0.t0 2) rfl _ _ _ (hR.iI 0 2)
  · rw [x26]
    refine H0 w w2 _ ?_ ?_ _ _ _ (((hR.iI 0 0).iA (k := 26) rfl (upd pr nS i)).iI 28 (nI (nS + 1)))
    · exact ⟨rT0, rA0, ⟨rfl, rfl, rS0.2.2⟩, rG0, rV0, rF0, rL0, rJ0, rD0⟩
    · rfl
theorem rr_farmer {i : Int32} (hd : 1 ≤ d) (hR : RS B m ρ S (rLk (cp 400 hw) (cp 600 M.2.2.2.2.2.2.2.1.1)) R V) (hI : RI V k M) (hB : BD M)
    (H1 : ¬ (0 ≤ i ∧ i ≤ 1000000000) → okR B m hw k QR (some (.int 0)) 1 M) (H2 : (0 ≤ i ∧ i ≤ 1000000000) → 8 ≤ M.2.2.2.2.2.1.1 → okR B m hw k QR (some (.int 0)) 2 M)
    (H0 : (0 ≤ i ∧ i ≤ 1000000000) → M.2.2.2.2.2.1.1 < 8 → okR B m hw k QR (some (.int (nI M.2.2.2.2.2.1.1))) 0 (M.1, M.2.1, M.2.2.1, M.2.2.2.1, M.2.2.2.2.1, (M.2.2.2.2.2.1.1 + 1, vp_updL M.2.2.2.2.2.1.2 M.2.2.2.2.2.1.1 i.toInt64), M.2.2.2.2.2.2)) : tk_M Z mX12_farmer d mc ms [.ref m, .int i] S QR tk_noX := by
  have hI0 := hI
  obtain ⟨⟨tn, tg, tp⟩, acts, ⟨nS, pr, wo⟩, ⟨nG, os, ps, ls, re, su, du, le, nb, bf, br, bs⟩, ⟨nV, kd, wh, be, bi, pa, pd, la⟩, ⟨nF, mo⟩, ⟨nL, lsu, lra, lrk, ldu⟩, ⟨jn, jb, jd, jk, jw, js, jh⟩, ⟨td, dry, lc⟩⟩ := M
  dsimp only at H1 H2 H0
  obtain ⟨rT0, rA0, rS0, rG0, rV0, rF0, rL0, rJ0, rD0⟩ := id hI
  obtain ⟨b1, b2, b3, b4, b5, b6, b7, b8, b9, b10, b11⟩ := hB
  have x44 := hR.2.1.2.2.2 44 _ rfl
  rw [rF0.2] at x44
  refine r_farmer (n := nF) hd hR.1.1 (hR.1.2 44 _ _ rfl) ((hR.2.1.1 45).trans rF0.1) b8 (fun w => ?_) (fun w w2 => ?_) (fun w w2 => ?_)
  · exact H1 w _ (hI0.t0 1) rfl _ _ _ (hR.iI 0 1)
  · exact H2 w (by show 8 ≤ nF; omega) _ (hI0.t0 2) rfl _ _ _ (hR.iI 0 2)
  · rw [x44]
    refine H0 w w2 _ ?_ ?_ _ _ _ (((hR.iI 0 0).iL (k := 44) rfl (vp_updL mo nF i.toInt64)).iI 45 (nI (nF + 1)))
    · exact ⟨rT0, rA0, rS0, rG0, rV0, ⟨rfl, rfl⟩, rL0, rJ0, rD0⟩
    · rfl
theorem rr_rain {i : Int32} (hd : 1 ≤ d) (hR : RS B m ρ S (rLk (cp 400 hw) (cp 600 M.2.2.2.2.2.2.2.1.1)) R V) (hI : RI V k M)
    (H1 : ¬ (0 ≤ i ∧ i ≤ 1000) → okR B m hw k QR none 1 M) (H0 : ∀ j : Nat, j ≤ 1000 → i = nI j → okR B m hw k QR none 0 (M.1, M.2.1, M.2.2.1, M.2.2.2.1, M.2.2.2.2.1, M.2.2.2.2.2.1, M.2.2.2.2.2.2.1, M.2.2.2.2.2.2.2.1, (M.2.2.2.2.2.2.2.2.1, M.2.2.2.2.2.2.2.2.1 + j, M.2.2.2.2.2.2.2.2.2.2))) : tk_M Z mX12_rain d mc ms [.ref m, .int i] S QR tk_noX := by
  have hI0 := hI
  obtain ⟨⟨tn, tg, tp⟩, acts, ⟨nS, pr, wo⟩, ⟨nG, os, ps, ls, re, su, du, le, nb, bf, br, bs⟩, ⟨nV, kd, wh, be, bi, pa, pd, la⟩, ⟨nF, mo⟩, ⟨nL, lsu, lra, lrk, ldu⟩, ⟨jn, jb, jd, jk, jw, js, jh⟩, ⟨td, dry, lc⟩⟩ := M
  dsimp only at H1 H0
  obtain ⟨rT0, rA0, rS0, rG0, rV0, rF0, rL0, rJ0, rD0⟩ := id hI
  refine r_rain hd hR.1.1 (fun w => ?_) (fun w => ?_)
  · exact H1 w _ (hI0.t0 1) rfl _ _ _ (hR.iI 0 1)
  · obtain ⟨j, hj, hij⟩ := nI_of2 (M := 1000) (n := 1000) rfl (Int32.not_lt.mpr w.1) w.2
    refine H0 j hj hij _ ?_ ?_ _ _ _ ((hR.iI 0 0).iI 33 i)
    · refine ⟨rT0, rA0, rS0, rG0, rV0, rF0, rL0, rJ0, rD0.1, ?_, rD0.2.2⟩
      show i = nI (td + j - td)
      rw [hij, show td + j - td = j by omega]
    · rfl
end RCALL4

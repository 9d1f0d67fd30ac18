/-! THE MODEL'S BOUNDS: a call more -/
section BNDC
variable {M : Mt} {c : Nat}
theorem i32_le {a b : Int32} (h : a ≤ b) : a.toInt ≤ b.toInt := Int32.le_iff_toInt_le.mp h
theorem upd_b {f : Nat → Int32} {k : Nat} {v : Int32} {lo hi : Int} (h : ∀ i, lo ≤ (f i).toInt ∧ (f i).toInt ≤ hi) (h1 : lo ≤ v.toInt) (h2 : v.toInt ≤ hi) : ∀ i, lo ≤ (upd f k v i).toInt ∧ (upd f k v i).toInt ≤ hi := fun i => by
  by_cases e : i = k
  · have e1 : upd f k v i = v := if_pos e
    rw [e1]; exact ⟨h1, h2⟩
  · have e1 : upd f k v i = f i := if_neg e
    rw [e1]; exact h i
theorem upd_n {f : Nat → Int32} {k : Nat} {v : Int32} (h : ∀ i, 0 ≤ (f i).toInt) (h1 : 0 ≤ v.toInt) : ∀ i, 0 ≤ (upd f k v i).toInt := fun i => by
  by_cases e : i = k
  · have e1 : upd f k v i = v := if_pos e
    rw [e1]; exact h1
  · have e1 : upd f k v i = f i := if_neg e
    rw [e1]; exact h i
theorem IV.feed {a b e f g : Int32} (h : IV c M) : IV (c + 1) (feedM a b e f g M).2 := by
  have h := h.mono (Nat.le_succ c)
  unfold feedM
  split
  · exact h
  · obtain ⟨⟨tn, tg, tp⟩, acts, ⟨nS, pr, wo⟩, ⟨nG, os, ps, ls, re, su, du, le, nb, bf, br, bs⟩, ⟨nV, kd, wh, be, bi, pa, pd, la⟩, ⟨nF, mo⟩, ⟨nL, lsu, lra, lrk, ldu⟩, ⟨jn, jb, jd, jk, jw, js, jh⟩, ⟨td, dry, lc⟩⟩ := M
    exact h
theorem IV.act1 {day pl : Int32} {qs : List pC} {g : Nat → Int32} (h : IV c M) (hd : 0 ≤ day) : IV (c + 1) ((0, g, pl), M.2.1 ++ [(day, qs)], M.2.2) := by
  have h := h.mono (Nat.le_succ c)
  obtain ⟨⟨tn, tg, tp⟩, acts, ⟨nS, pr, wo⟩, ⟨nG, os, ps, ls, re, su, du, le, nb, bf, br, bs⟩, ⟨nV, kd, wh, be, bi, pa, pd, la⟩, ⟨nF, mo⟩, ⟨nL, lsu, lra, lrk, ldu⟩, ⟨jn, jb, jd, jk, jw, js, jh⟩, ⟨td, dry, lc⟩⟩ := M
  refine ⟨fun a A hA => ?_, h.2⟩
  have hA : (acts ++ [(day, qs)])[a]? = some A := hA
  by_cases w : a < acts.length
  · rw [List.getElem?_append_left w] at hA
    exact h.1 a A hA
  · rw [List.getElem?_append_right (by omega)] at hA
    obtain ⟨z1, z2⟩ := List.getElem?_eq_some_iff.mp hA
    rw [List.getElem_singleton] at z2
    subst z2
    exact Int32.le_trans (show (-1 : Int32) ≤ 0 by decide) hd
theorem IV.act2 {x : mT} (h : IV c M) : IV (c + 1) (x, M.2) := by
  have h := h.mono (Nat.le_succ c)
  obtain ⟨⟨tn, tg, tp⟩, acts, ⟨nS, pr, wo⟩, ⟨nG, os, ps, ls, re, su, du, le, nb, bf, br, bs⟩, ⟨nV, kd, wh, be, bi, pa, pd, la⟩, ⟨nF, mo⟩, ⟨nL, lsu, lra, lrk, ldu⟩, ⟨jn, jb, jd, jk, jw, js, jh⟩, ⟨td, dry, lc⟩⟩ := M
  exact h
theorem IV.stretch {i : Int32} (h : IV c M) (hi : 1 ≤ i ∧ i ≤ 10000) : IV (c + 1) (M.1, M.2.1, (M.2.2.1.1 + 1, upd M.2.2.1.2.1 M.2.2.1.1 i, M.2.2.1.2.2), M.2.2.2) := by
  have h := h.mono (Nat.le_succ c)
  obtain ⟨⟨tn, tg, tp⟩, acts, ⟨nS, pr, wo⟩, ⟨nG, os, ps, ls, re, su, du, le, nb, bf, br, bs⟩, ⟨nV, kd, wh, be, bi, pa, pd, la⟩, ⟨nF, mo⟩, ⟨nL, lsu, lra, lrk, ldu⟩, ⟨jn, jb, jd, jk, jw, js, jh⟩, ⟨td, dry, lc⟩⟩ := M
  obtain ⟨h1, ⟨s1, s2, s3⟩, h3⟩ := h
  have a := i32_le hi.1
  have b := i32_le hi.2
  refine ⟨h1, ⟨upd_b s1 (Int.le_trans (by decide) a) b, s2, fun s hs => s3 s (by dsimp only at hs; omega)⟩, h3⟩
theorem IV.farmer {x : mF} (h : IV c M) : IV (c + 1) (M.1, M.2.1, M.2.2.1, M.2.2.2.1, M.2.2.2.2.1, x, M.2.2.2.2.2.2) := by
  have h := h.mono (Nat.le_succ c)
  obtain ⟨⟨tn, tg, tp⟩, acts, ⟨nS, pr, wo⟩, ⟨nG, os, ps, ls, re, su, du, le, nb, bf, br, bs⟩, ⟨nV, kd, wh, be, bi, pa, pd, la⟩, ⟨nF, mo⟩, ⟨nL, lsu, lra, lrk, ldu⟩, ⟨jn, jb, jd, jk, jw, js, jh⟩, ⟨td, dry, lc⟩⟩ := M
  exact h
theorem IV.rain {j : Nat} (h : IV c M) (hB : BD M) (hj : j ≤ 1000) : IV (c + 1) (M.1, M.2.1, M.2.2.1, M.2.2.2.1, M.2.2.2.2.1, M.2.2.2.2.2.1, M.2.2.2.2.2.2.1, M.2.2.2.2.2.2.2.1, (M.2.2.2.2.2.2.2.2.1, M.2.2.2.2.2.2.2.2.1 + j, M.2.2.2.2.2.2.2.2.2.2)) := by
  have h := h.mono (Nat.le_succ c)
  obtain ⟨⟨tn, tg, tp⟩, acts, ⟨nS, pr, wo⟩, ⟨nG, os, ps, ls, re, su, du, le, nb, bf, br, bs⟩, ⟨nV, kd, wh, be, bi, pa, pd, la⟩, ⟨nF, mo⟩, ⟨nL, lsu, lra, lrk, ldu⟩, ⟨jn, jb, jd, jk, jw, js, jh⟩, ⟨td, dry, lc⟩⟩ := M
  obtain ⟨h1, h2, h3, h4, h5, h6, h7⟩ := h
  obtain ⟨-, -, -, -, -, -, -, -, -, -, b11⟩ := hB
  exact ⟨h1, h2, h3, h4, h5, h6, by dsimp only; omega⟩
theorem nI_m1 {n : Nat} (h : n < 2 ^ 31) : (-1 : Int32) ≠ nI n := fun z => by
  have := nI_pos (n := n) h
  rw [← z] at this
  exact this (by decide)
theorem IV.traveller {k0 w0 b0 t0 : Int32} {pa' pd' : Nat → Int32} (h : IV c M) (hB : BD M) (hb : 0 ≤ b0 ∧ b0 ≤ 10000) (h1 : ∀ j, j < 8 * M.2.2.2.2.1.1 → pd' j = M.2.2.2.2.1.2.2.2.2.2.2.1 j) (h2 : ∀ g, g < 8 → pd' (8 * M.2.2.2.2.1.1 + g) = -1) :
    IV (c + 1) (M.1, M.2.1, M.2.2.1, M.2.2.2.1, (M.2.2.2.2.1.1 + 1, upd M.2.2.2.2.1.2.1 M.2.2.2.2.1.1 k0, upd M.2.2.2.2.1.2.2.1 M.2.2.2.2.1.1 w0, upd M.2.2.2.2.1.2.2.2.1 M.2.2.2.2.1.1 b0, upd M.2.2.2.2.1.2.2.2.2.1 M.2.2.2.2.1.1 t0, pa', pd', upd M.2.2.2.2.1.2.2.2.2.2.2.2 M.2.2.2.2.1.1 (-1)), M.2.2.2.2.2) := by
  have h := h.mono (Nat.le_succ c)
  obtain ⟨⟨tn, tg, tp⟩, acts, ⟨nS, pr, wo⟩, ⟨nG, os, ps, ls, re, su, du, le, nb, bf, br, bs⟩, ⟨nV, kd, wh, be, bi, pa, pd, la⟩, ⟨nF, mo⟩, ⟨nL, lsu, lra, lrk, ldu⟩, ⟨jn, jb, jd, jk, jw, js, jh⟩, ⟨td, dry, lc⟩⟩ := M
  obtain ⟨a1, a2, a3, ⟨t1, t2⟩, a5⟩ := h
  obtain ⟨-, -, -, -, -, -, -, -, -, -, b11⟩ := hB
  dsimp only at h1 h2 ⊢
  have x := i32_le hb.1
  have y := i32_le hb.2
  refine ⟨a1, a2, a3, ⟨upd_b t1 x y, fun t ht => ?_⟩, a5⟩
  by_cases e : t = nV
  · subst e
    have e1 : upd la t (-1) t = -1 := if_pos rfl
    rw [e1]
    refine ⟨Or.inl rfl, fun g hg => Or.inl (h2 g hg), fun z => absurd z (nI_m1 (by omega)), fun ⟨g, hg, z⟩ => ?_⟩
    rw [h2 g hg] at z
    exact absurd z (nI_m1 (by omega))
  · have e1 : upd la nV (-1) t = la t := if_neg e
    obtain ⟨p1, p2, p3⟩ := t2 t (by omega)
    have q : ∀ g, g < 8 → pd' (8 * t + g) = pd (8 * t + g) := fun g hg => h1 _ (by omega)
    rw [e1]
    refine ⟨p1, fun g hg => by rw [q g hg]; exact p2 g hg, p3.trans ⟨fun ⟨g, hg, z⟩ => ⟨g, hg, by rw [q g hg]; exact z⟩, fun ⟨g, hg, z⟩ => ⟨g, hg, by rw [← q g hg]; exact z⟩⟩⟩
theorem IV.gate {j : Nat} (h : IV c M) : IV (c + 1) (M.1, M.2.1, M.2.2.1, (M.2.2.2.1.1 + 1, va_up M.2.2.2.1.2.1 M.2.2.2.1.1 j, M.2.2.2.1.2.2.1, va_up M.2.2.2.1.2.2.2.1 M.2.2.2.1.1 none, M.2.2.2.1.2.2.2.2), M.2.2.2.2) := by
  have h := h.mono (Nat.le_succ c)
  obtain ⟨⟨tn, tg, tp⟩, acts, ⟨nS, pr, wo⟩, ⟨nG, os, ps, ls, re, su, du, le, nb, bf, br, bs⟩, ⟨nV, kd, wh, be, bi, pa, pd, la⟩, ⟨nF, mo⟩, ⟨nL, lsu, lra, lrk, ldu⟩, ⟨jn, jb, jd, jk, jw, js, jh⟩, ⟨td, dry, lc⟩⟩ := M
  obtain ⟨a1, a2, ⟨g1, g2, g3⟩, ⟨t1, t2⟩, a5, a6, a7⟩ := h
  have e : va_up ls nG none = ls := funext fun g => by
    by_cases w : g = nG
    · have e1 : va_up ls nG none g = none := if_pos w
      rw [e1, (g1 g (by omega)).2.2]
    · exact if_neg w
  dsimp only
  rw [e]
  refine ⟨a1, a2, ⟨fun g hg => g1 g (by omega), g2, g3⟩, ⟨t1, fun t ht => ?_⟩, a5, a6, a7⟩
  obtain ⟨p1, p2, p3⟩ := t2 t ht
  exact ⟨p1, fun g hg => (p2 g hg).imp id (fun z => ⟨by omega, z.2⟩), p3⟩
theorem iJ.line {td : Nat} {ls : Nat → Option Nat} {du : Nat → Nat} {J : mJ} {a b w : Int32} {v : Int64} (h : iJ c td ls du J.1 J.2.1) (hj : J.1 ≤ 12000) (h2 : 0 ≤ v.toInt) (h3 : v.toInt ≤ 2147483648) : iJ (c + 1) td ls du (lineM J a b w v).1 (lineM J a b w v).2.1 := by
  obtain ⟨j1, j2, j3⟩ := h
  have L := lineM_ok (J := J) (a := a) (b := b) (c := w) j1 j2 h2 h3 (by omega)
  refine ⟨L.1, L.2, ?_⟩
  show 91 * (J.1 + 1) ≤ _
  omega
theorem iJ.less {td : Nat} {ls : Nat → Option Nat} {du : Nat → Nat} {J : mJ} {a b w : Int32} {v : Int64} (h : iJ c td ls du J.1 J.2.1) (hj : J.1 ≤ 12000) (h2 : v.toInt ≤ 0) (h3 : 0 ≤ J.2.1.toInt + v.toInt) : iJ (c + 1) td ls du (lineM J a b w v).1 (lineM J a b w v).2.1 := by
  obtain ⟨j1, j2, j3⟩ := h
  have e : (lineM J a b w v).2.1.toInt = J.2.1.toInt + v.toInt := Jvm.Kit.i64_add (by omega) (by omega)
  have e2 : (lineM J a b w v).1 = J.1 + 1 := rfl
  refine ⟨by rw [e]; exact h3, by rw [e, e2]; omega, ?_⟩
  show 91 * (J.1 + 1) ≤ _
  omega
theorem IV.borrow {i ra0 rk0 : Int32} {a b w : Int32} (h : IV c M) (hB : BD M) (hi : (1 ≤ i ∧ i ≤ 10000000) ∧ (0 ≤ ra0 ∧ ra0 ≤ 500) ∧ (0 ≤ rk0 ∧ rk0 ≤ 3)) : IV (c + 1) (M.1, M.2.1, M.2.2.1, M.2.2.2.1, M.2.2.2.2.1, M.2.2.2.2.2.1, (M.2.2.2.2.2.2.1.1 + 1, upd M.2.2.2.2.2.2.1.2.1 M.2.2.2.2.2.2.1.1 i, upd M.2.2.2.2.2.2.1.2.2.1 M.2.2.2.2.2.2.1.1 ra0, upd M.2.2.2.2.2.2.1.2.2.2.1 M.2.2.2.2.2.2.1.1 rk0, M.2.2.2.2.2.2.1.2.2.2.2), lineM M.2.2.2.2.2.2.2.1 a b w i.toInt64, M.2.2.2.2.2.2.2.2) := by
  have h0 := h.mono (Nat.le_succ c)
  obtain ⟨⟨tn, tg, tp⟩, acts, ⟨nS, pr, wo⟩, ⟨nG, os, ps, ls, re, su, du, le, nb, bf, br, bs⟩, ⟨nV, kd, wh, be, bi, pa, pd, la⟩, ⟨nF, mo⟩, ⟨nL, lsu, lra, lrk, ldu⟩, ⟨jn, jb, jd, jk, jw, js, jh⟩, ⟨td, dry, lc⟩⟩ := M
  obtain ⟨h1, h2, h3, h4, ⟨l1, l2, l3, l4⟩, -, h7⟩ := h0
  obtain ⟨-, -, -, -, -, -, -, -, -, b10, b11⟩ := hB
  obtain ⟨-, -, -, -, -, h6, -⟩ := h
  have x1 := i32_le hi.1.1
  have x2 := i32_le hi.1.2
  have x3 := i32_le hi.2.1.1
  have x4 := i32_le hi.2.1.2
  have x0 : 0 ≤ i.toInt := Int.le_trans (by decide) x1
  refine ⟨h1, h2, h3, h4, ⟨upd_b l1 x0 x2, upd_b l2 x3 x4, l3, fun q hq => l4 q (by dsimp only at hq; omega)⟩, ?_, h7⟩
  exact iJ.line (J := (jn, jb, jd, jk, jw, js, jh)) (a := a) (b := b) (w := w) h6 b10 (toI64_pos x0).1 (toI64_pos x0).2
theorem neg_i32 {s : Int32} (h : 0 ≤ s.toInt) : (-s).toInt64.toInt = -s.toInt := by
  have := Int32.toInt_lt s
  rw [Int32.toInt_toInt64, Int32.toInt_neg]
  exact Int.bmod_eq_of_le (by omega) (by omega)
theorem IV.repay {s0 : Int32} {j : Nat} {a b w : Int32} (h : IV c M) (hB : BD M) (h1 : ¬ s0 < 1) (h2 : ¬ (M.2.2.2.2.2.2.1.2.1 j < s0 ∨ M.2.2.2.2.2.2.2.1.2.1 < s0.toInt64)) : IV (c + 1) (M.1, M.2.1, M.2.2.1, M.2.2.2.1, M.2.2.2.2.1, M.2.2.2.2.2.1, (M.2.2.2.2.2.2.1.1, upd M.2.2.2.2.2.2.1.2.1 j (M.2.2.2.2.2.2.1.2.1 j - s0), M.2.2.2.2.2.2.1.2.2), lineM M.2.2.2.2.2.2.2.1 a b w (-s0).toInt64, M.2.2.2.2.2.2.2.2) := by
  have h0 := h.mono (Nat.le_succ c)
  obtain ⟨⟨tn, tg, tp⟩, acts, ⟨nS, pr, wo⟩, ⟨nG, os, ps, ls, re, su, du, le, nb, bf, br, bs⟩, ⟨nV, kd, wh, be, bi, pa, pd, la⟩, ⟨nF, mo⟩, ⟨nL, lsu, lra, lrk, ldu⟩, ⟨jn, jb, jd, jk, jw, js, jh⟩, ⟨td, dry, lc⟩⟩ := M
  obtain ⟨g1, g2, g3, g4, ⟨l1, l2, l3, l4⟩, -, g7⟩ := h0
  obtain ⟨-, -, -, -, -, -, -, -, -, b10, b11⟩ := hB
  obtain ⟨-, -, -, -, -, h6, -⟩ := h
  dsimp only at h2
  have x1 : (1 : Int32).toInt ≤ s0.toInt := i32_le (Int32.not_lt.mp h1)
  have e1 : (1 : Int32).toInt = 1 := rfl
  have x2 := i32_le (Int32.not_lt.mp (fun z => h2 (Or.inl z)))
  have x3 := Int64.le_iff_toInt_le.mp (Int64.not_lt.mp (fun z => h2 (Or.inr z)))
  rw [Int32.toInt_toInt64] at x3
  have y := l1 j
  have es : (lsu j - s0).toInt = (lsu j).toInt - s0.toInt := by
    rw [Int32.toInt_sub]
    exact Int.bmod_eq_of_le (by omega) (by omega)
  have en := neg_i32 (s := s0) (by omega)
  refine ⟨g1, g2, g3, g4, ⟨upd_b l1 (by rw [es]; omega) (by rw [es]; omega), l2, l3, l4⟩, ?_, g7⟩
  exact iJ.less (J := (jn, jb, jd, jk, jw, js, jh)) (a := a) (b := b) (w := w) h6 b10 (by rw [en]; omega) (by rw [en]; dsimp only; omega)
theorem IV.bid {r0 s0 : Int32} {j f q n : Nat} (h : IV c M) (hj : j < M.2.2.2.1.1) (hr : (1 ≤ r0 ∧ r0 ≤ 10000000) ∧ (1 ≤ s0 ∧ s0 ≤ 10000000)) : IV (c + 1) (M.1, M.2.1, M.2.2.1, (M.2.2.2.1.1, M.2.2.2.1.2.1, M.2.2.2.1.2.2.1, M.2.2.2.1.2.2.2.1, M.2.2.2.1.2.2.2.2.1, M.2.2.2.1.2.2.2.2.2.1, M.2.2.2.1.2.2.2.2.2.2.1, M.2.2.2.1.2.2.2.2.2.2.2.1, va_up M.2.2.2.1.2.2.2.2.2.2.2.2.1 j n, va_up M.2.2.2.1.2.2.2.2.2.2.2.2.2.1 q f, upd M.2.2.2.1.2.2.2.2.2.2.2.2.2.2.1 q r0, upd M.2.2.2.1.2.2.2.2.2.2.2.2.2.2.2 q s0), M.2.2.2.2) := by
  have h := h.mono (Nat.le_succ c)
  obtain ⟨⟨tn, tg, tp⟩, acts, ⟨nS, pr, wo⟩, ⟨nG, os, ps, ls, re, su, du, le, nb, bf, br, bs⟩, ⟨nV, kd, wh, be, bi, pa, pd, la⟩, ⟨nF, mo⟩, ⟨nL, lsu, lra, lrk, ldu⟩, ⟨jn, jb, jd, jk, jw, js, jh⟩, ⟨td, dry, lc⟩⟩ := M
  obtain ⟨a1, a2, ⟨g1, g2, g3, g4, g5⟩, a4⟩ := h
  dsimp only at hj ⊢
  have x := Int.le_trans (show (0 : Int) ≤ (1 : Int32).toInt by decide) (i32_le hr.1.1)
  have y := Int.le_trans (show (0 : Int) ≤ (1 : Int32).toInt by decide) (i32_le hr.2.1)
  refine ⟨a1, a2, ⟨fun g hg => ⟨(g1 g hg).1, ?_, (g1 g hg).2.2⟩, g2, g3, g4, fun i => ⟨upd_n (fun i => (g5 i).1) x i, upd_n (fun i => (g5 i).2) y i⟩⟩, a4⟩
  have e : va_up nb j n g = nb g := if_neg (by omega)
  rw [e]
  exact (g1 g hg).2.1
theorem IV.let {j k n : Nat} (h : IV c M) (hB : BD M) (hj : j < M.2.2.2.1.1) (hn : n ≤ 40) (hl : M.2.2.2.1.2.2.2.1 j = none) : IV (c + 1) (letM M j k n) := by
  have h0 := h.mono (Nat.le_succ c)
  have ht9 : M.2.2.2.2.2.2.2.2.1 ≤ 9999 := by
    obtain ⟨⟨tn, tg, tp⟩, acts, ⟨nS, pr, wo⟩, ⟨nG, os, ps, ls, re, su, du, le, nb, bf, br, bs⟩, ⟨nV, kd, wh, be, bi, pa, pd, la⟩, ⟨nF, mo⟩, ⟨nL, lsu, lra, lrk, ldu⟩, ⟨jn, jb, jd, jk, jw, js, jh⟩, ⟨td, dry, lc⟩⟩ := M
    exact hB.2.2.2.2.2.2.2.2.2.2
  obtain ⟨⟨tn, tg, tp⟩, acts, ⟨nS, pr, wo⟩, ⟨nG, os, ps, ls, re, su, du, le, nb, bf, br, bs⟩, ⟨nV, kd, wh, be, bi, pa, pd, la⟩, ⟨nF, mo⟩, ⟨nL, lsu, lra, lrk, ldu⟩, ⟨jn, jb, jd, jk, jw, js, jh⟩, ⟨td, dry, lc⟩⟩ := M
  obtain ⟨a1, a2, ⟨g1, g2, g3, g4, g5⟩, a4, a5, -, a7⟩ := h0
  obtain ⟨-, -, -, -, b5, -, -, -, -, b10, -⟩ := hB
  obtain ⟨-, -, -, -, -, ⟨j1, j2, j3⟩, -⟩ := h
  dsimp only at hj hl ht9
  unfold letM
  dsimp only
  generalize bf (10 * j + k) = f
  have hre : ∀ g, 0 ≤ (upd re j (br (10 * j + k)) g).toInt := upd_n (fun g => (g4 g).1) (g5 _).1
  have hsu : ∀ g, 0 ≤ (upd su j (bs (10 * j + k)) g).toInt := upd_n (fun g => (g4 g).2) (g5 _).2
  generalize upd re j (br (10 * j + k)) = re' at hre ⊢
  generalize upd su j (bs (10 * j + k)) = su' at hsu ⊢
  generalize vp_updL mo f (mo f - (bs (10 * j + k)).toInt64) = mo'
  have ul : va_up ls j (some f) j = some f := if_pos rfl
  have ud : va_up du j td j = td := if_pos rfl
  have un : ∀ q, q ≠ j → va_up ls j (some f) q = ls q ∧ va_up du j td q = du q := fun q hq => ⟨if_neg hq, if_neg hq⟩
  have P := psi_upd (td := td) un 8 (show j < 8 by omega)
  rw [if_pos hl, ul, ud, if_neg (fun z => by cases z)] at P
  have K := keepM_ok (td := td) (i := j) (f := f) (k := (mo', va_up ls j (some f), va_up du j td, va_up le j n, (jn, jb, jd, jk, jw, js, jh))) hre hsu (by omega) ⟨fun g hg => ?_, fun g => ?_, j1, j2⟩ ul ud (by dsimp only; omega)
  · have Kls := fun g f' => keepM_ls (td := td) (re := re') (su := su') (i := j) (f := f) (w := (mo', va_up ls j (some f), va_up du j td, va_up le j n, (jn, jb, jd, jk, jw, js, jh))) (g := g) (f' := f')
    have Kdu := fun g => keepM_duo (td := td) (re := re') (su := su') (i := j) (f := f) (w := (mo', va_up ls j (some f), va_up du j td, va_up le j n, (jn, jb, jd, jk, jw, js, jh))) (g := g)
    generalize keepM td re' su' j f (mo', va_up ls j (some f), va_up du j td, va_up le j n, (jn, jb, jd, jk, jw, js, jh)) = Q at K Kls Kdu ⊢
    obtain ⟨mo2, ls2, du2, le2, jn2, jb2, jr2⟩ := Q
    obtain ⟨⟨k1, k2, k3, k4⟩, k5⟩ := K
    dsimp only at k1 k2 k3 k4 k5 Kls Kdu ⊢
    refine ⟨a1, a2, ⟨fun g hg => ⟨(g1 g hg).1, ?_, ?_⟩, fun g hg => ?_, k2, fun g => ⟨hre g, hsu g⟩, g5⟩, a4, a5, ⟨k3, k4, by omega⟩, a7⟩
    · have e : va_up nb j 0 g = nb g := if_neg (by omega)
      rw [e]
      exact (g1 g hg).2.1
    · rcases hq : ls2 g with _ | f'
      · rfl
      · have z := Kls g f' hq
        rw [(un g (by omega)).1, (g1 g hg).2.2] at z
        cases z
    · by_cases e : g = j
      · subst e
        exact (k1 g hg).1 (by omega)
      · rw [Kdu g e, (un g e).2]
        refine g2 g (fun z => hg ?_)
        rcases hq : ls2 g with _ | f'
        · rfl
        · have z2 := Kls g f' hq
          rw [(un g e).1, z] at z2
          cases z2
  · dsimp only at hg ⊢
    by_cases e : g = j
    · subst e
      rw [ud]
      exact ⟨fun z => absurd z (Nat.lt_irrefl _), Nat.le_refl _⟩
    · rw [(un g e).1] at hg
      rw [(un g e).2]
      have := g2 g hg
      exact ⟨fun _ => this, by omega⟩
  · dsimp only
    by_cases e : g = j
    · subst e
      have e1 : va_up le g n g = n := if_pos rfl
      rw [ud, e1]
      exact ⟨by omega, hn⟩
    · have e1 : va_up le j n g = le g := if_neg e
      rw [(un g e).2, e1]
      exact g3 g
theorem harm_b {k w b : Int32} (h : 0 ≤ b.toInt ∧ b.toInt ≤ 10000) : 0 ≤ (harmOf k w b).toInt ∧ (harmOf k w b).toInt ≤ 10000 := by
  unfold harmOf
  have e4 : (b / 4).toInt = b.toInt / 4 := by
    rw [Int32.toInt_div, show (4 : Int32).toInt = 4 from rfl, Int.tdiv_eq_ediv_of_nonneg h.1]
    exact Int.bmod_eq_of_le (by omega) (by omega)
  by_cases k0 : k = 0
  · rw [if_pos k0]; split <;> decide
  rw [if_neg k0]
  by_cases k1 : k = 1
  · rw [if_pos k1]; split <;> decide
  rw [if_neg k1]
  by_cases k2 : k = 2
  · rw [if_pos k2]; split <;> decide
  rw [if_neg k2]
  by_cases k3 : k = 3
  · rw [if_pos k3]; decide
  rw [if_neg k3]
  by_cases k4 : k = 4
  · rw [if_pos k4]; exact h
  rw [if_neg k4]
  by_cases k5 : k = 5
  · rw [if_pos k5, e4]; omega
  rw [if_neg k5]
  decide
theorem IV.pass {t g : Nat} (h : IV c M) (hB : BD M) (hc : c ≤ 600) (ht : t < M.2.2.2.2.1.1) (hg : g < M.2.2.2.1.1) : IV (c + 1) (passM M t g) := by
  have h0 := h.mono (Nat.le_succ c)
  unfold passM
  dsimp only
  generalize passPay M t g = r
  obtain ⟨v, by0⟩ := r
  obtain ⟨⟨tn, tg, tp⟩, acts, ⟨nS, pr, wo⟩, ⟨nG, os, ps, ls, re, su, du, le, nb, bf, br, bs⟩, ⟨nV, kd, wh, be, bi, pa, pd, la⟩, ⟨nF, mo⟩, ⟨nL, lsu, lra, lrk, ldu⟩, ⟨jn, jb, jd, jk, jw, js, jh⟩, ⟨td, dry, lc⟩⟩ := M
  obtain ⟨h1, -, ⟨g1, g2⟩, ⟨t1, t2⟩, h5, -, h7⟩ := h0
  obtain ⟨-, -, -, -, b5, b6, -, -, -, b10, b11⟩ := hB
  obtain ⟨-, ⟨s1, s2, s3⟩, -, -, -, h6, -⟩ := h
  dsimp only at ht hg ⊢
  have hb := harm_b (k := kd t) (w := wh t) (t1 t)
  generalize harmOf (kd t) (wh t) (be t) = hm at hb
  have eh : hm.toInt64.toInt = hm.toInt := Int32.toInt_toInt64 hm
  have e2 : (2 * hm.toInt64).toInt = 2 * hm.toInt := by
    rw [Jvm.Kit.i64_mul (by rw [eh, show (2 : Int64).toInt = 2 from rfl]; omega) (by rw [eh, show (2 : Int64).toInt = 2 from rfl]; omega), eh]; rfl
  have ha : ∃ a : Int64, (if td < dry then 2 * hm.toInt64 else hm.toInt64) = a ∧ 0 ≤ a.toInt ∧ a.toInt ≤ 20000 := by
    refine ⟨_, rfl, ?_⟩
    split
    · rw [e2]; omega
    · rw [eh]; omega
  obtain ⟨a, ea, a0, a1⟩ := ha
  have og : os g < nS := (b6 g hg).1
  have ew : (wo (os g) + a).toInt = (wo (os g)).toInt + a.toInt := by
    have := s2 (os g)
    exact Jvm.Kit.i64_add (by omega) (by omega)
  have S2 : ∀ s, 0 ≤ (vp_updL wo (os g) (wo (os g) + a) s).toInt ∧ (vp_updL wo (os g) (wo (os g) + a) s).toInt ≤ 20000 * ((c + 1 : Nat) : Int) := fun s => by
    by_cases e : s = os g
    · subst e
      have e1 : vp_updL wo (os g) (wo (os g) + a) (os g) = wo (os g) + a := if_pos rfl
      have := s2 (os g)
      rw [e1, ew]
      omega
    · have e1 : vp_updL wo (os g) (wo (os g) + a) s = wo s := if_neg e
      have := s2 s
      rw [e1]
      omega
  have S3 : ∀ s, nS ≤ s → vp_updL wo (os g) (wo (os g) + a) s = 0 := fun s hs => by
    have e1 : vp_updL wo (os g) (wo (os g) + a) s = wo s := if_neg (by omega)
    rw [e1]
    exact s3 s hs
  have G1 : ∀ q, nG ≤ q → upd ps g (ps g + 1) q = 0 ∧ nb q = 0 ∧ ls q = none := fun q hq => by
    have e1 : upd ps g (ps g + 1) q = ps q := if_neg (by omega)
    rw [e1]
    exact g1 q hq
  have T2 : ∀ t', t' < nV → ((if 0 < v then upd la t (nI td) else la) t' = -1 ∨ ∃ j : Nat, j ≤ td ∧ (if 0 < v then upd la t (nI td) else la) t' = nI j) ∧ (∀ q, q < 8 → (if 0 < v then upd pd (8 * t + g) (nI td) else pd) (8 * t' + q) = -1 ∨ (q < nG ∧ ∃ j : Nat, j ≤ td ∧ (if 0 < v then upd pd (8 * t + g) (nI td) else pd) (8 * t' + q) = nI j)) ∧ ((if 0 < v then upd la t (nI td) else la) t' = nI td ↔ ∃ q, q < 8 ∧ (if 0 < v then upd pd (8 * t + g) (nI td) else pd) (8 * t' + q) = nI td) := by
    intro t' ht'
    by_cases hv : 0 < v
    · rw [if_pos hv, if_pos hv]
      by_cases e : t' = t
      · subst e
        have e1 : upd la t' (nI td) t' = nI td := if_pos rfl
        have e2 : upd pd (8 * t' + g) (nI td) (8 * t' + g) = nI td := if_pos rfl
        rw [e1]
        refine ⟨Or.inr ⟨td, Nat.le_refl _, rfl⟩, fun q hq => ?_, fun _ => ⟨g, by omega, e2⟩, fun _ => rfl⟩
        by_cases e3 : q = g
        · subst e3
          rw [e2]
          exact Or.inr ⟨hg, td, Nat.le_refl _, rfl⟩
        · have e4 : upd pd (8 * t' + g) (nI td) (8 * t' + q) = pd (8 * t' + q) := if_neg (by omega)
          rw [e4]
          exact (t2 t' ht').2.1 q hq
      · have e1 : upd la t (nI td) t' = la t' := if_neg e
        have e2 : ∀ q, q < 8 → upd pd (8 * t + g) (nI td) (8 * t' + q) = pd (8 * t' + q) := fun q hq => if_neg (by omega)
        obtain ⟨p1, p2, p3⟩ := t2 t' ht'
        rw [e1]
        exact ⟨p1, fun q hq => by rw [e2 q hq]; exact p2 q hq, p3.trans ⟨fun ⟨q, hq, z⟩ => ⟨q, hq, by rw [e2 q hq]; exact z⟩, fun ⟨q, hq, z⟩ => ⟨q, hq, by rw [← e2 q hq]; exact z⟩⟩⟩
    · rw [if_neg hv, if_neg hv]
      exact t2 t' ht'
  unfold woM psM noteM tollTo lcM
  dsimp only
  rw [ea]
  refine ⟨h1, ⟨s1, S2, S3⟩, ⟨G1, g2⟩, ⟨t1, T2⟩, h5, ?_, h7⟩
  rcases hl : ls g with _ | f
  · dsimp only
    by_cases hv : 0 < v
    · rw [if_pos hv]
      have v0 : 0 ≤ v.toInt := by
        have := Int32.lt_iff_toInt_lt.mp hv
        rw [Int32.toInt_zero] at this
        omega
      exact iJ.line (J := (jn, jb, jd, jk, jw, js, jh)) (a := nI td) (b := 0) (w := nI t) h6 b10 (toI64_pos v0).1 (toI64_pos v0).2
    · rw [if_neg hv]
      exact ⟨h6.1, h6.2.1, by have := h6.2.2; dsimp only; omega⟩
  · exact ⟨h6.1, h6.2.1, by have := h6.2.2; dsimp only; omega⟩
theorem mendM_ok {W : Int} : ∀ m k (M : Mt), (∀ s, 0 ≤ (M.2.2.1.2.1 s).toInt ∧ (M.2.2.1.2.1 s).toInt ≤ 10000) → (∀ s, 0 ≤ (M.2.2.1.2.2 s).toInt ∧ (M.2.2.1.2.2 s).toInt ≤ W) → (∀ s, M.2.2.1.1 ≤ s → M.2.2.1.2.2 s = 0) → 0 ≤ M.2.2.2.2.2.2.2.1.2.1.toInt →
    ∃ (wo' : Nat → Int64) (J' : mJ), (mendM m k M).2 = (M.1, M.2.1, (M.2.2.1.1, M.2.2.1.2.1, wo'), M.2.2.2.1, M.2.2.2.2.1, M.2.2.2.2.2.1, M.2.2.2.2.2.2.1, J', M.2.2.2.2.2.2.2.2) ∧ (∀ s, 0 ≤ (wo' s).toInt ∧ (wo' s).toInt ≤ W) ∧ (∀ s, M.2.2.1.1 ≤ s → wo' s = 0) ∧ 0 ≤ J'.2.1.toInt ∧ J'.2.1.toInt ≤ M.2.2.2.2.2.2.2.1.2.1.toInt ∧ M.2.2.2.2.2.2.2.1.1 ≤ J'.1 ∧ J'.1 ≤ M.2.2.2.2.2.2.2.1.1 + m := by
  intro m
  induction m with
  | zero => intro k M h1 h2 h3 h4; exact ⟨M.2.2.1.2.2, M.2.2.2.2.2.2.2.1, rfl, h2, h3, h4, Int.le_refl _, Nat.le_refl _, Nat.le_refl _⟩
  | succ m ih =>
    intro k M h1 h2 h3 h4
    have stay : ∃ (wo' : Nat → Int64) (J' : mJ), M = (M.1, M.2.1, (M.2.2.1.1, M.2.2.1.2.1, wo'), M.2.2.2.1, M.2.2.2.2.1, M.2.2.2.2.2.1, M.2.2.2.2.2.2.1, J', M.2.2.2.2.2.2.2.2) ∧ (∀ s, 0 ≤ (wo' s).toInt ∧ (wo' s).toInt ≤ W) ∧ (∀ s, M.2.2.1.1 ≤ s → wo' s = 0) ∧ 0 ≤ J'.2.1.toInt ∧ J'.2.1.toInt ≤ M.2.2.2.2.2.2.2.1.2.1.toInt ∧ M.2.2.2.2.2.2.2.1.1 ≤ J'.1 ∧ J'.1 ≤ M.2.2.2.2.2.2.2.1.1 + (m + 1) := ⟨M.2.2.1.2.2, M.2.2.2.2.2.2.2.1, rfl, h2, h3, h4, Int.le_refl _, Nat.le_refl _, Nat.le_add_right _ _⟩
    rw [mendM]
    rcases hw : worthM M.2.2.1.2.1 M.2.2.1.2.2 M.2.2.1.1 0 none with _ | b
    · exact stay
    · dsimp only
      by_cases w : M.2.2.2.2.2.2.2.1.2.1 < (M.2.2.1.2.1 b).toInt64
      · rw [if_pos w]
        exact stay
      · rw [if_neg w]
        have p := h1 b
        have w1 := Int64.le_iff_toInt_le.mp (Int64.not_lt.mp w)
        rw [Int32.toInt_toInt64] at w1
        have en := neg_i32 p.1
        have jb0 := Int64.toInt_lt M.2.2.2.2.2.2.2.1.2.1
        have eb : (M.2.2.2.2.2.2.2.1.2.1 + (-(M.2.2.1.2.1 b)).toInt64).toInt = M.2.2.2.2.2.2.2.1.2.1.toInt - (M.2.2.1.2.1 b).toInt := by
          rw [Jvm.Kit.i64_add (by rw [en]; omega) (by rw [en]; omega), en]
          omega
        have tk : 0 ≤ (M.2.2.1.2.2 b - takesOf (M.2.2.1.2.2 b)).toInt ∧ (M.2.2.1.2.2 b - takesOf (M.2.2.1.2.2 b)).toInt ≤ (M.2.2.1.2.2 b).toInt := by
          have q := h2 b
          have q1 := toI_pos.mp (takes_sub (toI_pos.mpr q.1))
          refine ⟨q1, ?_⟩
          unfold takesOf at q1 ⊢
          by_cases h5 : (50 : Int64) < M.2.2.1.2.2 b
          · rw [if_pos h5]
            have q2 := Int64.lt_iff_toInt_lt.mp h5
            have q3 := Int64.toInt_lt (M.2.2.1.2.2 b)
            have c50 : (50 : Int64).toInt = 50 := rfl
            rw [Jvm.Kit.i64_sub (by omega) (by omega)]
            omega
          · rw [if_neg h5, Int64.sub_self, Int64.toInt_zero]
            exact q.1
        obtain ⟨wo', J', i1, i2, i3, i4, i5, i6, i7⟩ := ih (k + 1) (loadM M b) h1 (fun s => by
          show 0 ≤ (vp_updL M.2.2.1.2.2 b (M.2.2.1.2.2 b - takesOf (M.2.2.1.2.2 b)) s).toInt ∧ (vp_updL M.2.2.1.2.2 b (M.2.2.1.2.2 b - takesOf (M.2.2.1.2.2 b)) s).toInt ≤ W
          by_cases e : s = b
          · subst e
            have e1 : vp_updL M.2.2.1.2.2 s (M.2.2.1.2.2 s - takesOf (M.2.2.1.2.2 s)) s = M.2.2.1.2.2 s - takesOf (M.2.2.1.2.2 s) := if_pos rfl
            rw [e1]
            exact ⟨tk.1, Int.le_trans tk.2 (h2 s).2⟩
          · have e1 : vp_updL M.2.2.1.2.2 b (M.2.2.1.2.2 b - takesOf (M.2.2.1.2.2 b)) s = M.2.2.1.2.2 s := if_neg e
            rw [e1]
            exact h2 s) (fun s hs => by
          show vp_updL M.2.2.1.2.2 b (M.2.2.1.2.2 b - takesOf (M.2.2.1.2.2 b)) s = 0
          by_cases e : s = b
          · subst e
            have e1 : vp_updL M.2.2.1.2.2 s (M.2.2.1.2.2 s - takesOf (M.2.2.1.2.2 s)) s = M.2.2.1.2.2 s - takesOf (M.2.2.1.2.2 s) := if_pos rfl
            rw [e1, h3 s hs]
            rfl
          · have e1 : vp_updL M.2.2.1.2.2 b (M.2.2.1.2.2 b - takesOf (M.2.2.1.2.2 b)) s = M.2.2.1.2.2 s := if_neg e
            rw [e1]
            exact h3 s hs) (by
          show 0 ≤ (M.2.2.2.2.2.2.2.1.2.1 + (-(M.2.2.1.2.1 b)).toInt64).toInt
          rw [eb]
          omega)
        refine ⟨wo', J', i1, i2, i3, i4, ?_, ?_, ?_⟩
        · have i5 : J'.2.1.toInt ≤ (M.2.2.2.2.2.2.2.1.2.1 + (-(M.2.2.1.2.1 b)).toInt64).toInt := i5
          rw [eb] at i5
          omega
        · have i6 : M.2.2.2.2.2.2.2.1.1 + 1 ≤ J'.1 := i6
          omega
        · have i7 : J'.1 ≤ M.2.2.2.2.2.2.2.1.1 + 1 + m := i7
          omega
theorem IV.mend {n : Nat} (h : IV c M) (hn : n ≤ 20) : IV (c + 1) (mendM n 0 M).2 := by
  have h0 := h.mono (Nat.le_succ c)
  have key := fun (a) (b) (d) (e) => mendM_ok (W := 20000 * (c : Int)) n 0 M a b d e
  obtain ⟨⟨tn, tg, tp⟩, acts, ⟨nS, pr, wo⟩, ⟨nG, os, ps, ls, re, su, du, le, nb, bf, br, bs⟩, ⟨nV, kd, wh, be, bi, pa, pd, la⟩, ⟨nF, mo⟩, ⟨nL, lsu, lra, lrk, ldu⟩, ⟨jn, jb, jd, jk, jw, js, jh⟩, ⟨td, dry, lc⟩⟩ := M
  obtain ⟨h1, -, h3, h4, h5, -, h7⟩ := h0
  obtain ⟨-, ⟨s1, s2, s3⟩, -, -, -, ⟨j1, j2, j3⟩, -⟩ := h
  obtain ⟨wo', ⟨jn', jb', jr'⟩, e, k1, k2, k3, k4, k5, k6⟩ := key s1 s2 s3 j1
  rw [e]
  dsimp only at k1 k2 k3 k4 k5 k6 ⊢
  exact ⟨h1, ⟨s1, fun s => ⟨(k1 s).1, by have := (k1 s).2; omega⟩, k2⟩, h3, h4, h5, ⟨k3, by omega, by omega⟩, h7⟩
theorem IV.new : IV 0 M0 := by
  have z : (0 : Int64).toInt = 0 := rfl
  have z2 : (0 : Int32).toInt = 0 := rfl
  refine ⟨fun a A h => by simp at h, ⟨fun s => ⟨by rw [z2]; exact Int.le_refl _, by rw [z2]; decide⟩, fun s => ⟨by rw [z]; exact Int.le_refl _, by rw [z]; decide⟩, fun _ _ => rfl⟩, ⟨fun _ _ => ⟨rfl, rfl, rfl⟩, fun g hg => absurd rfl hg, fun g => ⟨Nat.zero_le _, Nat.zero_le _⟩, fun g => ⟨by rw [z2]; exact Int.le_refl _, by rw [z2]; exact Int.le_refl _⟩, fun g => ⟨by rw [z2]; exact Int.le_refl _, by rw [z2]; exact Int.le_refl _⟩⟩, ⟨fun s => ⟨by rw [z2]; exact Int.le_refl _, by rw [z2]; decide⟩, fun t ht => absurd ht (Nat.not_lt_zero _)⟩, ⟨fun s => ⟨by rw [z2]; exact Int.le_refl _, by rw [z2]; decide⟩, fun s => ⟨by rw [z2]; exact Int.le_refl _, by rw [z2]; decide⟩, fun s => ⟨by rw [z]; exact Int.le_refl _, by rw [z]; decide⟩, fun _ _ => rfl⟩, ⟨by rw [z]; exact Int.le_refl _, by rw [z]; decide, by decide⟩, by decide⟩
end BNDC

/-! BOTH HALVES TELL THE SAME -/
section RIV
variable {V V1 : vR} {k : Nat} {M : Mt} {Z : tk_Z} {ρ : Nat → Nat} {S : tk_S} {x : Nat} {gh : gH} {B : bS} {m : Nat}
def rTp (V : vR) (tn : Nat) (tg : Nat → Int32) (tp : Int32) : Prop := vI V 2 = nI tn ∧ vA V 1 = tg ∧ vI V 6 = tp
def rSt (V : vR) (n : Nat) (pr : Nat → Int32) (wo : Nat → Int64) : Prop := vI V 28 = nI n ∧ vA V 26 = pr ∧ vL V 27 = wo
def rGt (V : vR) (n : Nat) (os : Nat → Nat) (ps : Nat → Int32) (ls : Nat → Option Nat) (re su : Nat → Int32) (du le nb bf : Nat → Nat) (br bs : Nat → Int32) : Prop := vI V 31 = nI n ∧ vA V 30 = ps ∧ (∀ g, vA V 46 g = nI (nb g)) ∧ ∀ g, g < n → vA V 29 g = nI (os g) ∧ (∀ k, k < nb g → vA V 47 (10 * g + k) = nI (bf (10 * g + k)) ∧ vA V 48 (10 * g + k) = br (10 * g + k) ∧ vA V 49 (10 * g + k) = bs (10 * g + k)) ∧ (ls g = none → vA V 50 g = -1) ∧ ∀ f, ls g = some f → vA V 50 g = nI f ∧ vA V 51 g = re g ∧ vA V 52 g = su g ∧ vA V 53 g = nI (du g) ∧ vA V 54 g = nI (le g)
def rFa (V : vR) (n : Nat) (mo : Nat → Int64) : Prop := vI V 45 = nI n ∧ vL V 44 = mo
def rLn (V : vR) (n : Nat) (su ra rk : Nat → Int32) (du : Nat → Int64) : Prop := vI V 61 = nI n ∧ vA V 55 = su ∧ vA V 56 = ra ∧ vA V 57 = rk ∧ vL V 58 = du
def rJn (V : vR) (J : mJ) : Prop := vI V 42 = nI J.1 ∧ vJ V = J.2.1 ∧ ∀ j, j < J.1 → vA V 38 j = J.2.2.1 j ∧ vA V 39 j = J.2.2.2.1 j ∧ vA V 40 j = J.2.2.2.2.1 j ∧ (vA V 41 j).toInt64 = J.2.2.2.2.2.1 j
def rDy (V : vR) (td dry : Nat) (lc : Int32) : Prop := vI V 32 = nI td ∧ vI V 33 = nI (dry - td) ∧ vI V 37 = lc
def RI (V : vR) (k : Nat) : Mt → Prop
  | ((tn, tg, tp), acts, (nS, pr, wo), (nG, os, ps, ls, re, su, du, le, nb, bf, br, bs), (nV, kd, wh, be, bi, pa, pd, _), (nF, mo), (nL, lsu, lra, lrk, ldu), J, (td, dry, lc)) =>
    rTp V tn tg tp ∧ actsV V acts k ∧ rSt V nS pr wo ∧ rGt V nG os ps ls re su du le nb bf br bs ∧ tvV V nV kd wh be bi pa pd ∧ rFa V nF mo ∧ rLn V nL lsu lra lrk ldu ∧ rJn V J ∧ rDy V td dry lc
/-- bounds that the class's half keeps -/
def BD : Mt → Prop
  | ((tn, _, _), acts, (nS, _, _), (nG, os, _, ls, _, _, _, _, nb, bf, _, _), (nV, _), (nF, _), (nL, _), J, (td, _, _)) =>
    tn ≤ 2000 ∧ acts.length ≤ 12 ∧ (∀ (a : Nat) (A : pA), acts[a]? = some A → A.2.length ≤ 40 ∧ ∀ p ∈ A.2, cOK p ∧ p.2.2.2.2.length ≤ 700) ∧ nS ≤ 12 ∧ nG ≤ 8 ∧ (∀ g, g < nG → os g < nS ∧ nb g ≤ 10 ∧ (∀ k, k < nb g → bf (10 * g + k) < nF) ∧ ∀ f, ls g = some f → f < nF) ∧ nV ≤ 60 ∧ nF ≤ 8 ∧ nL ≤ 10 ∧ J.1 ≤ 12000 ∧ td ≤ 9999
theorem RI.t0 (h : RI V k M) (c : Int32) : RI (wI V 0 c) k M := by
  obtain ⟨⟨tn, tg, tp⟩, acts, ⟨nS, pr, wo⟩, ⟨nG, os, ps, ls, re, su, du, le, nb, bf, br, bs⟩, ⟨nV, kd, wh, be, bi, pa, pd, la⟩, ⟨nF, mo⟩, ⟨nL, lsu, lra, lrk, ldu⟩, ⟨jn, jb, jd, jk, jw, js, jh⟩, ⟨td, dry, lc⟩⟩ := M
  obtain ⟨h1, h2, h3, h4, h5, h6, h7, h8, h9⟩ := h
  exact ⟨h1, h2, h3, h4, h5, h6, h7, h8, h9⟩
theorem RI.tl (h : RI V k M) (f g : Nat → Int32) (c : Int32) : RI (tlV V f g c) k M := by
  obtain ⟨⟨tn, tg, tp⟩, acts, ⟨nS, pr, wo⟩, ⟨nG, os, ps, ls, re, su, du, le, nb, bf, br, bs⟩, ⟨nV, kd, wh, be, bi, pa, pd, la⟩, ⟨nF, mo⟩, ⟨nL, lsu, lra, lrk, ldu⟩, ⟨jn, jb, jd, jk, jw, js, jh⟩, ⟨td, dry, lc⟩⟩ := M
  obtain ⟨h1, h2, h3, h4, h5, h6, h7, h8, h9⟩ := h
  exact ⟨h1, h2, h3, h4, h5, h6, h7, h8, h9⟩
theorem RI.t35 (h : RI V k M) (c : Int32) : RI (wI V 35 c) k M := by
  obtain ⟨⟨tn, tg, tp⟩, acts, ⟨nS, pr, wo⟩, ⟨nG, os, ps, ls, re, su, du, le, nb, bf, br, bs⟩, ⟨nV, kd, wh, be, bi, pa, pd, la⟩, ⟨nF, mo⟩, ⟨nL, lsu, lra, lrk, ldu⟩, ⟨jn, jb, jd, jk, jw, js, jh⟩, ⟨td, dry, lc⟩⟩ := M
  obtain ⟨h1, h2, h3, h4, h5, h6, h7, h8, h9⟩ := h
  exact ⟨h1, h2, h3, h4, h5, h6, h7, h8, h9⟩
theorem CI.bd (h : CI Z ρ S x gh M) : BD M := by
  obtain ⟨fS, fG, fV, p, p2, fF, fL, bl⟩ := gh
  obtain ⟨⟨tn, tg, tp⟩, acts, ⟨nS, pr, wo⟩, ⟨nG, os, ps, ls, re, su, du, le, nb, bf, br, bs⟩, ⟨nV, kd, wh, be, bi, pa, pd, la⟩, ⟨nF, mo⟩, ⟨nL, lsu, lra, lrk, ldu⟩, ⟨jn, jb, jd, jk, jw, js, jh⟩, ⟨td, dry, lc⟩⟩ := M
  obtain ⟨⟨-, -, -, -, b1, -⟩, ⟨a, qt, qs, -, -, -, -, -, b2, -⟩, -, ⟨la1, ea, fa, -, -, b3, b4⟩, ⟨lS, eS, -, -, -, b5, -⟩, ⟨lG, eG, -, -, -, -, b6, b7⟩, ⟨lV, eV, -, -, -, -, -, b8, -⟩, ⟨lF, eF, -, -, -, b9, -⟩, ⟨lL, eL, -, -, -, b10, -⟩, b11⟩ := h
  refine ⟨b2, b3, fun a A hA => ?_, b5, b6, fun g hg => ?_, b8, b9, b10, ?_, b1⟩
  · obtain ⟨l, e, f, st, -, -, -, c1, c2⟩ := b4 a A hA
    refine ⟨c1, fun p hp => ?_⟩
    obtain ⟨i, hi⟩ := List.getElem?_of_mem hp
    exact (c2 i p hi).2.2
  · obtain ⟨c1, c2⟩ := b7 g hg
    obtain ⟨e, fB, -, c3, c4⟩ := c2
    refine ⟨c1.2.1.2, c3, fun k hk => (c4 k hk).2.1, fun f hf => ?_⟩
    rcases c1.2.2.2.2 with ⟨z, -⟩ | ⟨f', z, z2, -⟩
    · rw [z] at hf; cases hf
    · rw [z] at hf; cases hf; exact z2
  · obtain ⟨bx, r2, r3, r4, r5, r6, -, -, -, q, -⟩ := b11
    exact q
/-- what a call of the reference leaves: where both tell the same, with c for what is thrown -/
def okR (B : bS) (m hw k : Nat) (QR : tk_R) (o : Option Value) (c : Int32) (M' : Mt) : Prop := ∀ V', RI V' k M' → vI V' 0 = c → okV B m (rLk (cp 400 hw) (cp 600 M'.2.2.2.2.2.2.2.1.1)) QR o V'
end RIV

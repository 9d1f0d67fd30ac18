/-! THE MODEL'S BOUNDS: rents, days -/
section BNDG
/-- where the rents stand: over the first n gates -/
def psi (td : Nat) (ls : Nat → Option Nat) (du : Nat → Nat) : Nat → Nat
  | 0 => 0
  | n + 1 => psi td ls du n + (if ls n = none then td + 91 else du n)
theorem psi_ext {td : Nat} {ls ls' : Nat → Option Nat} {du du' : Nat → Nat} : ∀ n, (∀ j, j < n → ls' j = ls j ∧ du' j = du j) → psi td ls' du' n = psi td ls du n := by
  intro n
  induction n with
  | zero => intro _; rfl
  | succ n ih =>
    intro h
    rw [psi, psi, ih (fun j hj => h j (by omega)), (h n (by omega)).1, (h n (by omega)).2]
theorem psi_upd {td i : Nat} {ls ls' : Nat → Option Nat} {du du' : Nat → Nat} (h : ∀ j, j ≠ i → ls' j = ls j ∧ du' j = du j) : ∀ n, i < n → psi td ls' du' n + (if ls i = none then td + 91 else du i) = psi td ls du n + (if ls' i = none then td + 91 else du' i) := by
  intro n
  induction n with
  | zero => intro hi; omega
  | succ n ih =>
    intro hi
    rw [psi, psi]
    by_cases e : i = n
    · subst e
      rw [psi_ext i (fun j hj => h j (by omega))]
      omega
    · have := ih (by omega)
      rw [(h n (fun z => e z.symm)).1, (h n (fun z => e z.symm)).2]
      omega
theorem psi_mono {td td' : Nat} {ls : Nat → Option Nat} {du : Nat → Nat} (h : td ≤ td') : ∀ n, psi td ls du n ≤ psi td' ls du n := by
  intro n
  induction n with
  | zero => exact Nat.le_refl _
  | succ n ih =>
    rw [psi, psi]
    split <;> omega
theorem psi_le {td : Nat} {ls : Nat → Option Nat} {du : Nat → Nat} (h : ∀ g, du g ≤ td + 91) : ∀ n, psi td ls du n ≤ n * (td + 91) := by
  intro n
  induction n with
  | zero => exact Nat.zero_le _
  | succ n ih =>
    rw [psi, Nat.succ_mul]
    have := h n
    split <;> omega
/-- the gates on the day td, those ahead of i gone through -/
def mKok (td i : Nat) (k : mK) : Prop := (∀ g, k.2.1 g ≠ none → (g < i → td < k.2.2.1 g) ∧ td ≤ k.2.2.1 g) ∧ (∀ g, k.2.2.1 g ≤ td + 91 ∧ k.2.2.2.1 g ≤ 40) ∧ 0 ≤ k.2.2.2.2.2.1.toInt ∧ k.2.2.2.2.2.1.toInt ≤ 2147483648 * (k.2.2.2.2.1 : Int)
theorem lineM_ok {J : mJ} {a b c : Int32} {v : Int64} (h0 : 0 ≤ J.2.1.toInt) (h1 : J.2.1.toInt ≤ 2147483648 * (J.1 : Int)) (h2 : 0 ≤ v.toInt) (h3 : v.toInt ≤ 2147483648) (hj : J.1 ≤ 20000) : 0 ≤ (lineM J a b c v).2.1.toInt ∧ (lineM J a b c v).2.1.toInt ≤ 2147483648 * ((lineM J a b c v).1 : Int) := by
  have e : (lineM J a b c v).2.1.toInt = J.2.1.toInt + v.toInt := Jvm.Kit.i64_add (by omega) (by omega)
  have e2 : (lineM J a b c v).1 = J.1 + 1 := rfl
  rw [e, e2]
  omega
theorem toI64_pos {x : Int32} (h : 0 ≤ x.toInt) : 0 ≤ x.toInt64.toInt ∧ x.toInt64.toInt ≤ 2147483648 := by
  have := Int32.toInt_lt x
  rw [Int32.toInt_toInt64]
  omega
theorem keepM_ok {td i f : Nat} {re su : Nat → Int32} {k : mK} (hre : ∀ g, 0 ≤ (re g).toInt) (hsu : ∀ g, 0 ≤ (su g).toInt) (hi8 : i < 8) (h : mKok td i k) (hl : k.2.1 i = some f) (hd : k.2.2.1 i = td) (hj : k.2.2.2.2.1 ≤ 20000) : mKok td (i + 1) (keepM td re su i f k) ∧ 91 * (keepM td re su i f k).2.2.2.2.1 + psi td k.2.1 k.2.2.1 8 ≤ 91 * k.2.2.2.2.1 + psi td (keepM td re su i f k).2.1 (keepM td re su i f k).2.2.1 8 := by
  obtain ⟨h1, h2, h3, h4⟩ := h
  have hn0 : ¬ k.2.1 i = none := by rw [hl]; exact fun z => by cases z
  have un : ∀ j, j ≠ i → va_up k.2.1 i none j = k.2.1 j ∧ k.2.2.1 j = k.2.2.1 j := fun j hj => ⟨if_neg hj, rfl⟩
  have ui : va_up k.2.1 i none i = none := if_pos rfl
  have P1 := psi_upd (td := td) un 8 hi8
  rw [if_neg hn0, if_pos ui, hd] at P1
  have ud : ∀ j, j ≠ i → k.2.1 j = k.2.1 j ∧ va_up k.2.2.1 i (k.2.2.1 i + 91) j = k.2.2.1 j := fun j hj => ⟨rfl, if_neg hj⟩
  have udi : va_up k.2.2.1 i (k.2.2.1 i + 91) i = td + 91 := by rw [← hd]; exact if_pos rfl
  have P2 := psi_upd (td := td) ud 8 hi8
  rw [if_neg hn0, if_neg hn0, udi] at P2
  have gone : ∀ g, va_up k.2.1 i none g ≠ none → (g < i + 1 → td < k.2.2.1 g) ∧ td ≤ k.2.2.1 g := fun g hg => by
    by_cases e : g = i
    · subst e; exact absurd ui hg
    · rw [(un g e).1] at hg
      exact ⟨fun z => (h1 g hg).1 (by omega), (h1 g hg).2⟩
  unfold keepM
  by_cases c1 : k.2.2.2.1 i = 0
  · rw [if_pos c1]
    exact ⟨⟨gone, h2, h3, h4⟩, by dsimp only; omega⟩
  · rw [if_neg c1]
    by_cases c2 : k.1 f < (re i).toInt64
    · rw [if_pos c2]
      have L := lineM_ok (J := k.2.2.2.2) (a := nI td) (b := 2) (c := nI i) h3 h4 (toI64_pos (hsu i)).1 (toI64_pos (hsu i)).2 hj
      refine ⟨⟨gone, h2, L.1, L.2⟩, ?_⟩
      show 91 * (k.2.2.2.2.1 + 1) + _ ≤ _
      dsimp only
      omega
    · rw [if_neg c2]
      have L := lineM_ok (J := k.2.2.2.2) (a := nI td) (b := 1) (c := nI i) h3 h4 (toI64_pos (hre i)).1 (toI64_pos (hre i)).2 hj
      refine ⟨⟨fun g hg => ?_, fun g => ⟨?_, ?_⟩, L.1, L.2⟩, ?_⟩
      · by_cases e : g = i
        · subst e
          dsimp only
          rw [udi]
          exact ⟨fun _ => by omega, by omega⟩
        · dsimp only
          rw [(ud g e).2]
          exact ⟨fun z => (h1 g hg).1 (by omega), (h1 g hg).2⟩
      · dsimp only
        by_cases e : g = i
        · subst e; rw [udi]; exact Nat.le_refl _
        · rw [(ud g e).2]; exact (h2 g).1
      · dsimp only
        by_cases e : g = i
        · subst e
          have e3 : va_up k.2.2.2.1 g (k.2.2.2.1 g - 1) g = k.2.2.2.1 g - 1 := if_pos rfl
          have := (h2 g).2
          rw [e3]
          omega
        · have e3 : va_up k.2.2.2.1 i (k.2.2.2.1 i - 1) g = k.2.2.2.1 g := if_neg e
          rw [e3]
          exact (h2 g).2
      · show 91 * (k.2.2.2.2.1 + 1) + _ ≤ _
        dsimp only
        omega
theorem gateM_ok {td i : Nat} {re su : Nat → Int32} {k : mK} (hre : ∀ g, 0 ≤ (re g).toInt) (hsu : ∀ g, 0 ≤ (su g).toInt) (hi8 : i < 8) (h : mKok td i k) (hj : k.2.2.2.2.1 ≤ 20000) : mKok td (i + 1) (gateM td re su i k) ∧ 91 * (gateM td re su i k).2.2.2.2.1 + psi td k.2.1 k.2.2.1 8 ≤ 91 * k.2.2.2.2.1 + psi td (gateM td re su i k).2.1 (gateM td re su i k).2.2.1 8 ∧ ∀ g f, (gateM td re su i k).2.1 g = some f → k.2.1 g = some f := by
  unfold gateM
  rcases hl : k.2.1 i with _ | f
  · refine ⟨⟨fun g hg => ⟨fun z => ?_, (h.1 g hg).2⟩, h.2⟩, Nat.le_refl _, fun g f hg => hg⟩
    by_cases e : g = i
    · subst e; exact absurd hl hg
    · exact (h.1 g hg).1 (by omega)
  · dsimp only
    by_cases c : k.2.2.1 i = td
    · rw [if_pos c]
      have K := keepM_ok hre hsu hi8 h hl c hj
      exact ⟨K.1, K.2, fun g f' hg => keepM_ls hg⟩
    · rw [if_neg c]
      refine ⟨⟨fun g hg => ⟨fun z => ?_, (h.1 g hg).2⟩, h.2⟩, Nat.le_refl _, fun g f hg => hg⟩
      by_cases e : g = i
      · subst e
        have := (h.1 g hg).2
        omega
      · exact (h.1 g hg).1 (by omega)
theorem gatesM_ok {td n : Nat} {re su : Nat → Int32} (hre : ∀ g, 0 ≤ (re g).toInt) (hsu : ∀ g, 0 ≤ (su g).toInt) (hn : n ≤ 8) : ∀ m i (k : mK), m + i = n → mKok td i k → k.2.2.2.2.1 + m ≤ 20000 → mKok td n (gatesM td re su m i k) ∧ 91 * (gatesM td re su m i k).2.2.2.2.1 + psi td k.2.1 k.2.2.1 8 ≤ 91 * k.2.2.2.2.1 + psi td (gatesM td re su m i k).2.1 (gatesM td re su m i k).2.2.1 8 ∧ ∀ g f, (gatesM td re su m i k).2.1 g = some f → k.2.1 g = some f := by
  intro m
  induction m with
  | zero =>
    intro i k hi h hj
    have e : i = n := by omega
    subst e
    exact ⟨h, Nat.le_refl _, fun g f hg => hg⟩
  | succ m ih =>
    intro i k hi h hj
    obtain ⟨a1, a2, a3⟩ := gateM_ok hre hsu (i := i) (by omega) h (by omega)
    have a4 := (gateM_ge td re su i k).2
    obtain ⟨b1, b2, b3⟩ := ih (i + 1) (gateM td re su i k) (by omega) a1 (by omega)
    rw [gatesM]
    exact ⟨b1, by omega, fun g f hg => a3 g f (b3 g f hg)⟩
end BNDG
/-! THE MODEL'S BOUNDS, all of them: behind c calls -/
section BNDI
variable {M : Mt} {c : Nat}
def iA (acts : List pA) : Prop := ∀ (a : Nat) (A : pA), acts[a]? = some A → -1 ≤ A.1
def iS (c nS : Nat) (pr : Nat → Int32) (wo : Nat → Int64) : Prop := (∀ s, 0 ≤ (pr s).toInt ∧ (pr s).toInt ≤ 10000) ∧ (∀ s, 0 ≤ (wo s).toInt ∧ (wo s).toInt ≤ 20000 * (c : Int)) ∧ ∀ s, nS ≤ s → wo s = 0
def iG (td nG : Nat) (ps : Nat → Int32) (ls : Nat → Option Nat) (re su : Nat → Int32) (du le nb : Nat → Nat) (br bs : Nat → Int32) : Prop := (∀ g, nG ≤ g → ps g = 0 ∧ nb g = 0 ∧ ls g = none) ∧ (∀ g, ls g ≠ none → td < du g) ∧ (∀ g, du g ≤ td + 91 ∧ le g ≤ 40) ∧ (∀ g, 0 ≤ (re g).toInt ∧ 0 ≤ (su g).toInt) ∧ ∀ j, 0 ≤ (br j).toInt ∧ 0 ≤ (bs j).toInt
def iT (td nG nV : Nat) (be pd la : Nat → Int32) : Prop := (∀ t, 0 ≤ (be t).toInt ∧ (be t).toInt ≤ 10000) ∧ ∀ t, t < nV → (la t = -1 ∨ ∃ j : Nat, j ≤ td ∧ la t = nI j) ∧ (∀ g, g < 8 → pd (8 * t + g) = -1 ∨ (g < nG ∧ ∃ j : Nat, j ≤ td ∧ pd (8 * t + g) = nI j)) ∧ (la t = nI td ↔ ∃ g, g < 8 ∧ pd (8 * t + g) = nI td)
def iL (td nL : Nat) (lsu lra : Nat → Int32) (ldu : Nat → Int64) : Prop := (∀ i, 0 ≤ (lsu i).toInt ∧ (lsu i).toInt ≤ 10000000) ∧ (∀ i, 0 ≤ (lra i).toInt ∧ (lra i).toInt ≤ 500) ∧ (∀ i, 0 ≤ (ldu i).toInt ∧ (ldu i).toInt ≤ 5000000 * ((td / 365 : Nat) : Int)) ∧ ∀ i, nL ≤ i → ldu i = 0
def iJ (c td : Nat) (ls : Nat → Option Nat) (du : Nat → Nat) (jn : Nat) (jb : Int64) : Prop := 0 ≤ jb.toInt ∧ jb.toInt ≤ 2147483648 * (jn : Int) ∧ 91 * jn ≤ 1820 * c + 910 * (td / 365) + psi td ls du 8
def IV (c : Nat) : Mt → Prop
  | (_, acts, (nS, pr, wo), (nG, _, ps, ls, re, su, du, le, nb, _, br, bs), (nV, _, _, be, _, _, pd, la), _, (nL, lsu, lra, _, ldu), (jn, jb, _), (td, dry, _)) =>
    iA acts ∧ iS c nS pr wo ∧ iG td nG ps ls re su du le nb br bs ∧ iT td nG nV be pd la ∧ iL td nL lsu lra ldu ∧ iJ c td ls du jn jb ∧ dry ≤ 20000
theorem IV.mono {c' : Nat} (h : IV c M) (hc : c ≤ c') : IV c' M := by
  obtain ⟨⟨tn, tg, tp⟩, acts, ⟨nS, pr, wo⟩, ⟨nG, os, ps, ls, re, su, du, le, nb, bf, br, bs⟩, ⟨nV, kd, wh, be, bi, pa, pd, la⟩, ⟨nF, mo⟩, ⟨nL, lsu, lra, lrk, ldu⟩, ⟨jn, jb, jd, jk, jw, js, jh⟩, ⟨td, dry, lc⟩⟩ := M
  obtain ⟨h1, ⟨s1, s2, s3⟩, h3, h4, h5, ⟨j1, j2, j3⟩, h7⟩ := h
  exact ⟨h1, ⟨s1, fun s => ⟨(s2 s).1, by have := (s2 s).2; omega⟩, s3⟩, h3, h4, h5, ⟨j1, j2, by omega⟩, h7⟩
/-- how many lines there may be -/
theorem IV.lines (h : IV c M) (hB : BD M) (hc : c ≤ 512) : M.2.2.2.2.2.2.2.1.1 ≤ 11400 ∧ (c ≤ 511 → M.2.2.2.2.2.2.2.1.1 + 20 < 12000) := by
  obtain ⟨⟨tn, tg, tp⟩, acts, ⟨nS, pr, wo⟩, ⟨nG, os, ps, ls, re, su, du, le, nb, bf, br, bs⟩, ⟨nV, kd, wh, be, bi, pa, pd, la⟩, ⟨nF, mo⟩, ⟨nL, lsu, lra, lrk, ldu⟩, ⟨jn, jb, jd, jk, jw, js, jh⟩, ⟨td, dry, lc⟩⟩ := M
  obtain ⟨h1, h2, ⟨-, -, g3, -⟩, h4, h5, ⟨j1, j2, j3⟩, h7⟩ := h
  obtain ⟨-, -, -, -, -, -, -, -, -, -, b11⟩ := hB
  have p := psi_le (ls := ls) (fun g => (g3 g).1) 8
  dsimp only
  omega
theorem IV.la (h : IV c M) (hB : BD M) : LA M := by
  obtain ⟨⟨tn, tg, tp⟩, acts, ⟨nS, pr, wo⟩, ⟨nG, os, ps, ls, re, su, du, le, nb, bf, br, bs⟩, ⟨nV, kd, wh, be, bi, pa, pd, la⟩, ⟨nF, mo⟩, ⟨nL, lsu, lra, lrk, ldu⟩, ⟨jn, jb, jd, jk, jw, js, jh⟩, ⟨td, dry, lc⟩⟩ := M
  obtain ⟨h1, h2, h3, ⟨t1, t2⟩, h5, h6, h7⟩ := h
  obtain ⟨-, -, -, -, b8, -, -, -, -, -, b11⟩ := hB
  intro t ht
  obtain ⟨a1, a2, a3⟩ := t2 t ht
  dsimp only
  have any : ∀ n, anyD pd (nI td) (8 * t) n = true ↔ ∃ g, g < n ∧ pd (8 * t + g) = nI td := by
    intro n
    induction n with
    | zero => exact ⟨fun z => by (rw [anyD] at z; cases z), fun ⟨g, z, _⟩ => absurd z (Nat.not_lt_zero _)⟩
    | succ n ih =>
      rw [anyD, Bool.or_eq_true, decide_eq_true_iff, ih]
      constructor
      · rintro (⟨g, g1, g2⟩ | g2)
        · exact ⟨g, by omega, g2⟩
        · exact ⟨n, by omega, g2⟩
      · rintro ⟨g, g1, g2⟩
        by_cases e : g = n
        · subst e; exact Or.inr g2
        · exact Or.inl ⟨g, by omega, g2⟩
  have key : la t = nI td ↔ anyD pd (nI td) (8 * t) nG = true := by
    rw [any, a3]
    constructor
    · rintro ⟨g, g1, g2⟩
      rcases a2 g g1 with z | ⟨z, -⟩
      · exfalso
        rw [g2] at z
        have := nI_pos (n := td) (by omega)
        rw [z] at this
        exact this (by decide)
      · exact ⟨g, z, g2⟩
    · rintro ⟨g, g1, g2⟩
      exact ⟨g, by omega, g2⟩
  by_cases w : anyD pd (nI td) (8 * t) nG = true
  · rw [w, decide_eq_true_iff]
    exact key.mpr w
  · have w2 : anyD pd (nI td) (8 * t) nG = false := by simpa using w
    rw [w2, decide_eq_false_iff_not]
    exact fun z => w (key.mp z)
set_option maxHeartbeats 2000000 in
theorem IV.day (h : IV c M) (hB : BD M) (hc : c ≤ 511) (ht : M.2.2.2.2.2.2.2.2.1 + 1 ≤ 9999) : IV c (dayM M) ∧ BD (dayM M) ∧ dayOK M ∧ rdOK M := by
  have hln := h.lines hB (by omega)
  have hge := dayM_ge M
  obtain ⟨⟨tn, tg, tp⟩, acts, ⟨nS, pr, wo⟩, ⟨nG, os, ps, ls, re, su, du, le, nb, bf, br, bs⟩, ⟨nV, kd, wh, be, bi, pa, pd, la⟩, ⟨nF, mo⟩, ⟨nL, lsu, lra, lrk, ldu⟩, ⟨jn, jb, jd, jk, jw, js, jh⟩, ⟨td, dry, lc⟩⟩ := M
  obtain ⟨h1, h2, ⟨g1, g2, g3, g4, g5⟩, ⟨t1, t2⟩, ⟨l1, l2, l3, l4⟩, ⟨j1, j2, j3⟩, h7⟩ := h
  obtain ⟨b1, b2, b3, b4, b5, b6, b7, b8, b9, b10, b11⟩ := hB
  dsimp only at ht hln
  have hy : td / 365 ≤ 27 := by omega
  have hre : ∀ g, 0 ≤ (re g).toInt := fun g => (g4 g).1
  have hsu : ∀ g, 0 ≤ (su g).toInt := fun g => (g4 g).2
  have hgr := fun t => growM_ok (n := nL) (y := td / 365) hy l1 l2 l3 t
  generalize hD : growM lsu lra nL ldu = D at hgr
  have hDb : ∀ i, 0 ≤ (D i).toInt ∧ (D i).toInt ≤ 200000000 := fun i => ⟨(hgr i).1, by have := (hgr i).2.1; omega⟩
  obtain ⟨R1, R2⟩ := ranksM_ok (td := td + 1) (n := nL) (rk := lrk) (j0 := jn) (D := D) (B := jb.toInt) (w := (D, (jn, jb, jd, jk, jw, js, jh))) b9 hDb (by omega) ⟨fun t => ⟨(hgr t).1, Int.le_refl _⟩, j1, Int.le_refl _, Nat.le_refl _⟩
  have R4 := cR_four (rk := lrk) nL
  obtain ⟨r0, r1, r2, r3, r4⟩ := R1
  have hI : ∃ ldu' jn' jb' jr', ((td + 1) % 365 = 0 → interM (td + 1) nL lsu lra lrk (ldu, (jn, jb, jd, jk, jw, js, jh)) = (ldu', (jn', jb', jr'))) ∧ (¬ (td + 1) % 365 = 0 → (ldu, (jn, jb, jd, jk, jw, js, jh)) = (ldu', ((jn', jb', jr') : mJ))) ∧ (∀ i, 0 ≤ (ldu' i).toInt ∧ (ldu' i).toInt ≤ 5000000 * (((td + 1) / 365 : Nat) : Int)) ∧ (∀ i, nL ≤ i → ldu' i = 0) ∧ 0 ≤ jb'.toInt ∧ jb'.toInt ≤ 2147483648 * (jn' : Int) ∧ 91 * jn' ≤ 1820 * c + 910 * ((td + 1) / 365) + psi td ls du 8 ∧ jn' ≤ jn + 10 ∧ jn ≤ jn' := by
    by_cases w : (td + 1) % 365 = 0
    · have e : interM (td + 1) nL lsu lra lrk (ldu, (jn, jb, jd, jk, jw, js, jh)) = ranksM (td + 1) nL lrk 4 (D, (jn, jb, jd, jk, jw, js, jh)) := by rw [← hD]; rfl
      have r4ge := ranksM_ge (td + 1) nL lrk (D, (jn, jb, jd, jk, jw, js, jh)) 0 4
      have e0 : (ranksM (td + 1) nL lrk 0 (D, (jn, jb, jd, jk, jw, js, jh))).2.1 = jn := rfl
      rw [e0, Nat.zero_add] at r4ge
      generalize hQ : ranksM (td + 1) nL lrk 4 (D, (jn, jb, jd, jk, jw, js, jh)) = Q at e r4 r4ge
      obtain ⟨ldu', jn', jb', jr'⟩ := Q
      obtain ⟨q1, q2, q3, q4⟩ := r4
      dsimp only at q1 q2 q3 q4 r4ge
      have ey : (td + 1) / 365 = td / 365 + 1 := by omega
      refine ⟨ldu', jn', jb', jr', fun _ => e, fun z => absurd w z, fun i => ?_, fun i hi => ?_, q2, by omega, by omega, by omega, r4ge⟩
      · have a := q1 i
        have b := (hgr i).2.1
        rw [ey]
        omega
      · have a := q1 i
        have b := (hgr i).2.2 hi
        rw [l4 i hi] at b
        rw [b, Int64.toInt_zero] at a
        apply Int64.toInt_inj.mp
        rw [Int64.toInt_zero]
        omega
    · have ey : (td + 1) / 365 = td / 365 := by omega
      exact ⟨ldu, jn, jb, _, fun z => absurd z w, fun _ => rfl, by rw [ey]; exact l3, l4, j1, j2, by rw [ey]; exact j3, by omega, Nat.le_refl _⟩
  obtain ⟨ldu', jn', jb', jr', e1, e2, i1, i2, i3, i4, i5, i6, i7⟩ := hI
  have hN : movN ((tn, tg, tp), acts, (nS, pr, wo), (nG, os, ps, ls, re, su, du, le, nb, bf, br, bs), (nV, kd, wh, be, bi, pa, pd, la), (nF, mo), (nL, lsu, lra, lrk, ldu), (jn, jb, jd, jk, jw, js, jh), (td, dry, lc)) = (ldu', gatesM (td + 1) re su nG 0 (mo, ls, du, le, (jn', jb', jr'))) := by
    unfold movN moveM movW
    dsimp only
    by_cases w : (td + 1) % 365 = 0
    · rw [if_pos w, e1 w]
    · rw [if_neg w]
      have := e2 w
      rw [(Prod.mk.inj this).1, (Prod.mk.inj this).2]
  obtain ⟨G1, G2, G3⟩ := gatesM_ok (td := td + 1) (n := nG) hre hsu b5 nG 0 (mo, ls, du, le, (jn', jb', jr')) (by omega) ⟨fun g hg => ⟨fun z => absurd z (Nat.not_lt_zero _), g2 g hg⟩, fun g => ⟨by have := (g3 g).1; dsimp only; omega, (g3 g).2⟩, i3, i4⟩ (by dsimp only; omega)
  generalize hP : gatesM (td + 1) re su nG 0 (mo, ls, du, le, (jn', jb', jr')) = P at hN G1 G2 G3
  obtain ⟨mo', ls', du', le', jn2, jb2, jr2⟩ := P
  obtain ⟨k1, k2, k3, k4⟩ := G1
  dsimp only at G2 G3 k1 k2 k3 k4
  have pm : psi td ls du 8 ≤ psi (td + 1) ls du 8 := psi_mono (Nat.le_succ td) 8
  have pl := psi_le (ls := ls') (fun g => (k2 g).1) 8
  have hM' : dayM ((tn, tg, tp), acts, (nS, pr, wo), (nG, os, ps, ls, re, su, du, le, nb, bf, br, bs), (nV, kd, wh, be, bi, pa, pd, la), (nF, mo), (nL, lsu, lra, lrk, ldu), (jn, jb, jd, jk, jw, js, jh), (td, dry, lc)) = ((tn, tg, tp), acts, (nS, pr, wo), (nG, os, ps, ls', re, su, du', le', nb, bf, br, bs), (nV, kd, wh, be, bi, pa, pd, la), (nF, mo'), (nL, lsu, lra, lrk, ldu'), (jn2, jb2, jr2), (td + 1, dry, lc)) := by
    unfold dayM
    rw [hN]
  have hjn2 : jn2 ≤ 11400 := by omega
  have lsn : ∀ g, nG ≤ g → ls' g = none := fun g hg => by
    rcases hl : ls' g with _ | f
    · rfl
    · have := G3 g f hl
      rw [(g1 g hg).2.2] at this
      cases this
  rw [hM'] at hge ⊢
  dsimp only at hge
  refine ⟨⟨h1, h2, ⟨fun g hg => ⟨(g1 g hg).1, (g1 g hg).2.1, lsn g hg⟩, fun g hg => (k1 g hg).1 (Nat.lt_of_not_le (fun z => hg (lsn g z))), k2, g4, g5⟩, ⟨t1, fun t ht => ?_⟩, ⟨l1, l2, i1, i2⟩, ⟨k3, k4, by omega⟩, h7⟩, ⟨b1, b2, b3, b4, b5, fun g hg => ⟨(b6 g hg).1, (b6 g hg).2.1, (b6 g hg).2.2.1, fun f hf => (b6 g hg).2.2.2 f (G3 g f hf)⟩, b7, b8, b9, by dsimp only; omega, ht⟩, ⟨fun i => Nat.le_trans (g3 i).2 (by omega), fun i => by have := (g3 i).1; dsimp only; omega, ?_, ?_, ?_⟩, fun i => Nat.le_trans (g3 i).2 (by omega), fun i => by have := (g3 i).1; dsimp only; omega, ?_, ?_⟩
  · obtain ⟨a1, a2, a3⟩ := t2 t ht
    have no : ∀ v : Int32, (v = -1 ∨ ∃ j : Nat, j ≤ td ∧ v = nI j) → v ≠ nI (td + 1) := fun v hv z => by
      rcases hv with h | ⟨j, hj, h⟩
      · have := nI_pos (n := td + 1) (by omega)
        rw [← z, h] at this
        exact this (by decide)
      · rw [h] at z
        have := (nI_eq (by omega) (by omega)).mp z
        omega
    refine ⟨a1.imp id (fun ⟨j, hj, h⟩ => ⟨j, by omega, h⟩), fun g hg => (a2 g hg).imp id (fun ⟨hg2, j, hj, h⟩ => ⟨hg2, j, by omega, h⟩), fun z => absurd z (no _ a1), fun ⟨g, hg, z⟩ => absurd z (no _ ((a2 g hg).imp id (fun ⟨_, h⟩ => h)))⟩
  · rw [hM']; dsimp only; omega
  · rw [hM']; exact hge
  · intro w m hm
    dsimp only
    rw [hD]
    have hm4 : m = 0 ∨ m = 1 ∨ m = 2 ∨ m = 3 := by omega
    rcases hm4 with rfl | rfl | rfl | rfl
    · exact toI_pos.mpr r0.2.1
    · exact toI_pos.mpr r1.2.1
    · exact toI_pos.mpr r2.2.1
    · exact toI_pos.mpr r3.2.1
  · rw [hM']; dsimp only; omega
  · intro w r hr
    dsimp only
    rw [hD]
    exact R2 r hr
theorem IV.days (h : IV c M) (hB : BD M) (hc : c ≤ 511) : ∀ n, M.2.2.2.2.2.2.2.2.1 + n ≤ 9999 → IV c (daysM n M) ∧ BD (daysM n M) ∧ ∀ k, k < n → dayOK (daysM k M) ∧ BD (daysM k M) ∧ rdOK (daysM k M) := by
  intro n
  induction n with
  | zero => intro _; exact ⟨h, hB, fun k hk => absurd hk (Nat.not_lt_zero _)⟩
  | succ n ih =>
    intro hn
    obtain ⟨a1, a2, a3⟩ := ih (by omega)
    have e := daysM_td n M
    obtain ⟨b1, b2, b3, b4⟩ := a1.day a2 hc (by omega)
    refine ⟨b1, b2, fun k hk => ?_⟩
    by_cases e : k = n
    · subst e; exact ⟨b3, a2, b4⟩
    · exact a3 k (by omega)
end BNDI

/-! THE CLASS'S HALF OF THE POOL, part by part -/
section PARTS
/-- the cells of the roles R are as they were -/
def sm (ρ : Nat → Nat) (S S' : tk_S) (R : List Nat) : Prop := ∀ b, b ∈ q_L S → ρ b ∈ R → sameAt S S' b
theorem fr.sm {ρ : Nat → Nat} {S S' : tk_S} {L R : List Nat} (h : fr S S' L) (hL : ∀ b, b ∈ L → b ∈ q_L S → ρ b ∉ R) : sm ρ S S' R := fun b hb hr => h b hb (fun z => hL b z hb hr)
theorem sm.mono {ρ : Nat → Nat} {S S' : tk_S} {R R' : List Nat} (h : sm ρ S S' R) (hR : ∀ r, r ∈ R' → r ∈ R) : sm ρ S S' R' := fun b hb hr => h b hb (hR _ hr)
/-- the roles of old cells stay -/
def rx (ρ ρ' : Nat → Nat) (S : tk_S) : Prop := ∀ b, b ∈ q_L S → ρ' b = ρ b
/-- the trust's own references stay -/
def xr (S S' : tk_S) (x : Nat) : Prop := x ∈ q_L S' ∧ q_K S' x = q_K S x ∧ ∀ k, q_R S' 12 k x = q_R S 12 k x
/-- a list with its role and its row's -/
def isLr (Z : tk_Z) (ρ : Nat → Nat) (k : Nat) (S : tk_S) (l n : Nat) (f : Nat → Nat) (e rl re rf : Nat) : Prop := isL Z k S l n f e ∧ ρ l = rl ∧ (n = 0 ∧ e = Z.2.2.2.2.2.1 ∨ e ∈ q_L S ∧ q_K S e = 18 ∧ ρ e = re) ∧ ∀ i, i < n → ρ (f i) = rf
theorem isLr.same {Z : tk_Z} {ρ ρ' : Nat → Nat} {S S' : tk_S} {k l n e rl re rf : Nat} {f : Nat → Nat} {R : List Nat} (h : isLr Z ρ k S l n f e rl re rf) (hZ : Z.2.2.2.2.2.1 ∉ q_L S) (hs : sm ρ S S' R) (hρ : rx ρ ρ' S) (h1 : rl ∈ R) (h2 : re ∈ R) (h3 : rf ∈ R) : isLr Z ρ' k S' l n f e rl re rf := by
  obtain ⟨hl, hr, he, hf⟩ := h
  have hel : e ∈ q_L S → sameAt S S' e := fun z => by
    rcases he with ⟨-, y⟩ | ⟨-, -, y⟩
    · exact absurd (y ▸ z) hZ
    · exact hs e z (by rw [y]; exact h2)
  refine ⟨hl.same (hs l hl.1 (by rw [hr]; exact h1)) (fun z _ => hel z) (fun i hi => hs (f i) (hl.2.2.2.2.2.2.1 i hi).1 (by rw [hf i hi]; exact h3)), by rw [hρ l hl.1]; exact hr, ?_, fun i hi => by rw [hρ _ (hl.2.2.2.2.2.2.1 i hi).1]; exact hf i hi⟩
  rcases he with he | ⟨y1, y2, y3⟩
  · exact Or.inl he
  · have := hel y1
    exact Or.inr ⟨this.1, this.2.1.trans y2, by rw [hρ e y1]; exact y3⟩
def inj (f : Nat → Nat) (n : Nat) : Prop := ∀ i j, i < n → j < n → f i = f j → i = j
/-- roads -/
def cS (Z : tk_Z) (ρ : Nat → Nat) (S : tk_S) (x : Nat) (fS : Nat → Nat) (n : Nat) (pr : Nat → Int32) (wo : Nat → Int64) : Prop := ∃ l e, q_R S 12 4 x = some l ∧ isLr Z ρ 10 S l n fS e 6 12 40 ∧ inj fS n ∧ n ≤ 12 ∧ ∀ i, i < n → q_I S 10 0 (fS i) = nI i ∧ q_I S 10 1 (fS i) = pr i ∧ q_J S 10 2 (fS i) = wo i
theorem cS.same {Z : tk_Z} {ρ ρ' : Nat → Nat} {S S' : tk_S} {x n : Nat} {fS : Nat → Nat} {pr : Nat → Int32} {wo : Nat → Int64} (h : cS Z ρ S x fS n pr wo) (hZ : Z.2.2.2.2.2.1 ∉ q_L S) (hx : xr S S' x) (hs : sm ρ S S' [6, 12, 40]) (hρ : rx ρ ρ' S) : cS Z ρ' S' x fS n pr wo := by
  obtain ⟨l, e, h1, h2, h3, h4, h5⟩ := h
  refine ⟨l, e, (hx.2.2 4).trans h1, h2.same hZ hs hρ (by simp) (by simp) (by simp), h3, h4, fun i hi => ?_⟩
  obtain ⟨a1, a2, a3, a4, a5, a6, a7, a8, a9⟩ := hs (fS i) (h2.1.2.2.2.2.2.2.1 i hi).1 (by rw [h2.2.2.2 i hi]; simp)
  obtain ⟨b1, b2, b3⟩ := h5 i hi
  exact ⟨(a3 _ _).trans b1, (a3 _ _).trans b2, (a4 _ _).trans b3⟩
/-- farmers -/
def cF (Z : tk_Z) (ρ : Nat → Nat) (S : tk_S) (x : Nat) (fF : Nat → Nat) (n : Nat) (mo : Nat → Int64) : Prop := ∃ l e, q_R S 12 7 x = some l ∧ isLr Z ρ 5 S l n fF e 9 15 48 ∧ inj fF n ∧ n ≤ 8 ∧ ∀ i, i < n → q_I S 5 0 (fF i) = nI i ∧ q_J S 5 1 (fF i) = mo i
theorem cF.same {Z : tk_Z} {ρ ρ' : Nat → Nat} {S S' : tk_S} {x n : Nat} {fF : Nat → Nat} {mo : Nat → Int64} (h : cF Z ρ S x fF n mo) (hZ : Z.2.2.2.2.2.1 ∉ q_L S) (hx : xr S S' x) (hs : sm ρ S S' [9, 15, 48]) (hρ : rx ρ ρ' S) : cF Z ρ' S' x fF n mo := by
  obtain ⟨l, e, h1, h2, h3, h4, h5⟩ := h
  refine ⟨l, e, (hx.2.2 7).trans h1, h2.same hZ hs hρ (by simp) (by simp) (by simp), h3, h4, fun i hi => ?_⟩
  obtain ⟨a1, a2, a3, a4, a5, a6, a7, a8, a9⟩ := hs (fF i) (h2.1.2.2.2.2.2.2.1 i hi).1 (by rw [h2.2.2.2 i hi]; simp)
  obtain ⟨b1, b2⟩ := h5 i hi
  exact ⟨(a3 _ _).trans b1, (a4 _ _).trans b2⟩
/-- loans -/
def cL (Z : tk_Z) (ρ : Nat → Nat) (S : tk_S) (x : Nat) (fL : Nat → Nat) (n : Nat) (su ra rk : Nat → Int32) (du : Nat → Int64) : Prop := ∃ l e, q_R S 12 8 x = some l ∧ isLr Z ρ 7 S l n fL e 10 16 49 ∧ inj fL n ∧ n ≤ 10 ∧ ∀ i, i < n → q_I S 7 2 (fL i) = su i ∧ q_I S 7 0 (fL i) = ra i ∧ q_I S 7 1 (fL i) = rk i ∧ q_J S 7 3 (fL i) = du i
theorem cL.same {Z : tk_Z} {ρ ρ' : Nat → Nat} {S S' : tk_S} {x n : Nat} {fL : Nat → Nat} {su ra rk : Nat → Int32} {du : Nat → Int64} (h : cL Z ρ S x fL n su ra rk du) (hZ : Z.2.2.2.2.2.1 ∉ q_L S) (hx : xr S S' x) (hs : sm ρ S S' [10, 16, 49]) (hρ : rx ρ ρ' S) : cL Z ρ' S' x fL n su ra rk du := by
  obtain ⟨l, e, h1, h2, h3, h4, h5⟩ := h
  refine ⟨l, e, (hx.2.2 8).trans h1, h2.same hZ hs hρ (by simp) (by simp) (by simp), h3, h4, fun i hi => ?_⟩
  obtain ⟨a1, a2, a3, a4, a5, a6, a7, a8, a9⟩ := hs (fL i) (h2.1.2.2.2.2.2.2.1 i hi).1 (by rw [h2.2.2.2 i hi]; simp)
  obtain ⟨b1, b2, b3, b4⟩ := h5 i hi
  exact ⟨(a3 _ _).trans b1, (a3 _ _).trans b2, (a3 _ _).trans b3, (a4 _ _).trans b4⟩
/-- travellers: p, p2 their rows; la the latest day on which each paid -/
def cV (Z : tk_Z) (ρ : Nat → Nat) (S : tk_S) (x : Nat) (fV p p2 : Nat → Nat) (n : Nat) (kd wh be bi : Nat → Int32) (pa pd : Nat → Int32) (la : Nat → Int32) : Prop := ∃ l e, q_R S 12 6 x = some l ∧ isLr Z ρ 11 S l n fV e 8 14 45 ∧ inj fV n ∧ inj p n ∧ inj p2 n ∧ n ≤ 60 ∧ ∀ i, i < n → isTv S (fV i) (p i) (p2 i) (kd i) (wh i) (be i) (bi i) ∧ ρ (p i) = 46 ∧ ρ (p2 i) = 47 ∧ q_I S 11 4 (fV i) = la i ∧ ∀ g, g < 8 → q_aI S (p i) g = pa (8 * i + g) ∧ q_aI S (p2 i) g = pd (8 * i + g)
theorem isTv.same {S S' : tk_S} {b p p2 : Nat} {kd wh be bi : Int32} (h : isTv S b p p2 kd wh be bi) (hb : sameAt S S' b) (hp : sameAt S S' p) (hp2 : sameAt S S' p2) : isTv S' b p p2 kd wh be bi := by
  obtain ⟨h1, h2, ⟨h3, h4, h5, h6⟩, ⟨h7, h8, h9, h10⟩, h11, h12, h13, h14⟩ := h
  obtain ⟨a1, a2, a3, a4, a5, a6, a7, a8, a9⟩ := hb
  obtain ⟨b1, b2, b3, b4, b5, b6, b7, b8, b9⟩ := hp
  obtain ⟨c1, c2, c3, c4, c5, c6, c7, c8, c9⟩ := hp2
  exact ⟨a1, a2.trans h2, ⟨(a5 _ _).trans h3, b1, b2.trans h5, b6.trans h6⟩, ⟨(a5 _ _).trans h7, c1, c2.trans h9, c6.trans h10⟩, (a3 _ _).trans h11, (a3 _ _).trans h12, (a3 _ _).trans h13, (a3 _ _).trans h14⟩
theorem cV.same {Z : tk_Z} {ρ ρ' : Nat → Nat} {S S' : tk_S} {x n : Nat} {fV p p2 : Nat → Nat} {kd wh be bi pa pd la : Nat → Int32} (h : cV Z ρ S x fV p p2 n kd wh be bi pa pd la) (hZ : Z.2.2.2.2.2.1 ∉ q_L S) (hx : xr S S' x) (hs : sm ρ S S' [8, 14, 45, 46, 47]) (hρ : rx ρ ρ' S) : cV Z ρ' S' x fV p p2 n kd wh be bi pa pd la := by
  obtain ⟨l, e, h1, h2, h3, h31, h32, h4, h5⟩ := h
  refine ⟨l, e, (hx.2.2 6).trans h1, h2.same hZ hs hρ (by simp) (by simp) (by simp), h3, h31, h32, h4, fun i hi => ?_⟩
  obtain ⟨b1, b2, b3, b4, b5⟩ := h5 i hi
  have s1 := hs (fV i) b1.1 (by rw [h2.2.2.2 i hi]; simp)
  have s2 := hs (p i) b1.2.2.1.2.1 (by rw [b2]; simp)
  have s3 := hs (p2 i) b1.2.2.2.1.2.1 (by rw [b3]; simp)
  refine ⟨b1.same s1 s2 s3, by rw [hρ _ b1.2.2.1.2.1]; exact b2, by rw [hρ _ b1.2.2.2.1.2.1]; exact b3, (s1.2.2.1 _ _).trans b4, fun g hg => ?_⟩
  rw [s2.2.2.2.2.2.2.1, s3.2.2.2.2.2.2.1]
  exact b5 g hg
/-- a gate's bids -/
def cB (Z : tk_Z) (ρ : Nat → Nat) (S : tk_S) (fF : Nat → Nat) (nF g b : Nat) (n : Nat) (bf : Nat → Nat) (br bs : Nat → Int32) : Prop := ∃ e fB, isLr Z ρ 2 S b n fB e (50 + g) (60 + g) 44 ∧ n ≤ 10 ∧ ∀ k, k < n → q_R S 2 0 (fB k) = some (fF (bf (10 * g + k))) ∧ bf (10 * g + k) < nF ∧ q_I S 2 1 (fB k) = br (10 * g + k) ∧ q_I S 2 2 (fB k) = bs (10 * g + k)
theorem cB.same {Z : tk_Z} {ρ ρ' : Nat → Nat} {S S' : tk_S} {fF : Nat → Nat} {nF g b n : Nat} {bf : Nat → Nat} {br bs : Nat → Int32} {R : List Nat} (h : cB Z ρ S fF nF g b n bf br bs) (hZ : Z.2.2.2.2.2.1 ∉ q_L S) (hs : sm ρ S S' R) (hρ : rx ρ ρ' S) (h1 : 50 + g ∈ R) (h2 : 60 + g ∈ R) (h3 : 44 ∈ R) : cB Z ρ' S' fF nF g b n bf br bs := by
  obtain ⟨e, fB, g1, g2, g3⟩ := h
  refine ⟨e, fB, g1.same hZ hs hρ h1 h2 h3, g2, fun k hk => ?_⟩
  obtain ⟨a1, a2, a3, a4, a5, a6, a7, a8, a9⟩ := hs (fB k) (g1.1.2.2.2.2.2.2.1 k hk).1 (by rw [g1.2.2.2 k hk]; exact h3)
  obtain ⟨b1, b2, b3, b4⟩ := g3 k hk
  exact ⟨(a5 _ _).trans b1, b2, (a3 _ _).trans b3, (a3 _ _).trans b4⟩
/-- a gate: os: on which road; ls: let to whom; b: the list of its bids -/
def cG1 (S : tk_S) (fS fF : Nat → Nat) (nS nF a b i : Nat) (os : Nat → Nat) (ps : Nat → Int32) (ls : Nat → Option Nat) (re su : Nat → Int32) (du le : Nat → Nat) : Prop := q_I S 6 0 a = nI i ∧ (q_R S 6 1 a = some (fS (os i)) ∧ os i < nS) ∧ q_R S 6 2 a = some b ∧ q_I S 6 3 a = ps i ∧ (ls i = none ∧ q_R S 6 4 a = none ∧ q_I S 6 5 a = 0 ∧ q_I S 6 6 a = 0 ∧ q_I S 6 7 a = 0 ∨ ∃ f, ls i = some f ∧ f < nF ∧ q_R S 6 4 a = some (fF f) ∧ q_I S 6 5 a = re i ∧ q_I S 6 6 a = su i ∧ q_I S 6 7 a = nI (du i) ∧ q_I S 6 8 a = nI (le i))
def cG (Z : tk_Z) (ρ : Nat → Nat) (S : tk_S) (x : Nat) (fG fS fF bl : Nat → Nat) (nS nF n : Nat) (os : Nat → Nat) (ps : Nat → Int32) (ls : Nat → Option Nat) (re su : Nat → Int32) (du le nb bf : Nat → Nat) (br bs : Nat → Int32) : Prop := ∃ l e, q_R S 12 5 x = some l ∧ isLr Z ρ 6 S l n fG e 7 13 41 ∧ inj fG n ∧ inj bl n ∧ n ≤ 8 ∧ ∀ i, i < n → cG1 S fS fF nS nF (fG i) (bl i) i os ps ls re su du le ∧ cB Z ρ S fF nF i (bl i) (nb i) bf br bs
theorem cG1.same {S S' : tk_S} {fS fF : Nat → Nat} {nS nF a b i : Nat} {os du le : Nat → Nat} {ps re su : Nat → Int32} {ls : Nat → Option Nat} (h : cG1 S fS fF nS nF a b i os ps ls re su du le) (hs : sameAt S S' a) : cG1 S' fS fF nS nF a b i os ps ls re su du le := by
  obtain ⟨h1, ⟨h2, h3⟩, h4, h5, h6⟩ := h
  obtain ⟨a1, a2, a3, a4, a5, a6, a7, a8, a9⟩ := hs
  refine ⟨(a3 _ _).trans h1, ⟨(a5 _ _).trans h2, h3⟩, (a5 _ _).trans h4, (a3 _ _).trans h5, ?_⟩
  rcases h6 with ⟨k1, k2, k3, k4, k5⟩ | ⟨f, k1, k2, k3, k4, k5, k6, k7⟩
  · exact Or.inl ⟨k1, (a5 _ _).trans k2, (a3 _ _).trans k3, (a3 _ _).trans k4, (a3 _ _).trans k5⟩
  · exact Or.inr ⟨f, k1, k2, (a5 _ _).trans k3, (a3 _ _).trans k4, (a3 _ _).trans k5, (a3 _ _).trans k6, (a3 _ _).trans k7⟩
theorem cG.same {Z : tk_Z} {ρ ρ' : Nat → Nat} {S S' : tk_S} {x nS nF n : Nat} {fG fS fF bl os du le nb bf : Nat → Nat} {ps re su br bs : Nat → Int32} {ls : Nat → Option Nat} (h : cG Z ρ S x fG fS fF bl nS nF n os ps ls re su du le nb bf br bs) (hZ : Z.2.2.2.2.2.1 ∉ q_L S) (hx : xr S S' x) (hs : sm ρ S S' [7, 13, 41, 44, 50, 51, 52, 53, 54, 55, 56, 57, 60, 61, 62, 63, 64, 65, 66, 67]) (hρ : rx ρ ρ' S) : cG Z ρ' S' x fG fS fF bl nS nF n os ps ls re su du le nb bf br bs := by
  obtain ⟨l, e, h1, h2, h3, h31, h4, h5⟩ := h
  refine ⟨l, e, (hx.2.2 5).trans h1, h2.same hZ hs hρ (by simp) (by simp) (by simp), h3, h31, h4, fun i hi => ?_⟩
  obtain ⟨b1, b2⟩ := h5 i hi
  exact ⟨b1.same (hs (fG i) (h2.1.2.2.2.2.2.2.1 i hi).1 (by rw [h2.2.2.2 i hi]; simp)), b2.same hZ hs hρ (by simp; omega) (by simp; omega) (by simp)⟩
/-- acts: from their days on, their clauses -/
abbrev pA : Type := Int32 × List pC
def cA1 (Z : tk_Z) (ρ : Nat → Nat) (S : tk_S) (a : Nat) (A : pA) : Prop := ∃ (l e : Nat) (f st : Nat → Nat), q_I S 1 0 a = A.1 ∧ q_R S 1 1 a = some l ∧ isLr Z ρ 4 S l A.2.length f e 31 32 33 ∧ A.2.length ≤ 40 ∧ ∀ i p, A.2[i]? = some p → isCl S (f i) (st i) p ∧ ρ (st i) = 34 ∧ cOK p ∧ p.2.2.2.2.length ≤ 700
def cA (Z : tk_Z) (ρ : Nat → Nat) (S : tk_S) (x : Nat) (acts : List pA) : Prop := ∃ l e f, q_R S 12 3 x = some l ∧ isLr Z ρ 1 S l acts.length f e 5 11 30 ∧ acts.length ≤ 12 ∧ ∀ i A, acts[i]? = some A → cA1 Z ρ S (f i) A
theorem cA1.same {Z : tk_Z} {ρ ρ' : Nat → Nat} {S S' : tk_S} {a : Nat} {A : pA} (h : cA1 Z ρ S a A) (hZ : Z.2.2.2.2.2.1 ∉ q_L S) (ha : sameAt S S' a) (hs : sm ρ S S' [31, 32, 33, 34]) (hρ : rx ρ ρ' S) : cA1 Z ρ' S' a A := by
  obtain ⟨l, e, f, st, h1, h2, h3, h4, h5⟩ := h
  refine ⟨l, e, f, st, (ha.2.2.1 _ _).trans h1, (ha.2.2.2.2.1 _ _).trans h2, h3.same hZ hs hρ (by simp) (by simp) (by simp), h4, fun i p hi => ?_⟩
  obtain ⟨b1, b2, b3⟩ := h5 i p hi
  have hil := (List.getElem?_eq_some_iff.mp hi).1
  exact ⟨b1.same (hs (f i) b1.1 (by rw [h3.2.2.2 i hil]; simp)) (hs (st i) b1.2.2.2.2.1 (by rw [b2]; simp)), by rw [hρ _ b1.2.2.2.2.1]; exact b2, b3⟩
theorem cA.same {Z : tk_Z} {ρ ρ' : Nat → Nat} {S S' : tk_S} {x : Nat} {acts : List pA} (h : cA Z ρ S x acts) (hZ : Z.2.2.2.2.2.1 ∉ q_L S) (hx : xr S S' x) (hs : sm ρ S S' [5, 11, 30, 31, 32, 33, 34]) (hρ : rx ρ ρ' S) : cA Z ρ' S' x acts := by
  obtain ⟨l, e, f, h1, h2, h3, h4⟩ := h
  refine ⟨l, e, f, (hx.2.2 3).trans h1, h2.same hZ hs hρ (by simp) (by simp) (by simp), h3, fun i A hi => ?_⟩
  have hil := (List.getElem?_eq_some_iff.mp hi).1
  exact (h4 i A hi).same hZ (hs (f i) (h2.1.2.2.2.2.2.2.1 i hil).1 (by rw [h2.2.2.2 i hil]; simp)) (hs.mono (by simp)) hρ
/-- the reader: its tape's bytes, the latest fault's place -/
def cT (ρ : Nat → Nat) (S : tk_S) (x : Nat) (n : Nat) (g : Nat → Int32) (pl : Int32) : Prop := ∃ a qt qs, q_R S 12 0 x = some a ∧ (a ∈ q_L S ∧ q_K S a = 8 ∧ ρ a = 2) ∧ (q_R S 8 0 a = some qt ∧ qt ∈ q_L S ∧ q_K S qt = 14 ∧ q_n S qt = 2000 ∧ ρ qt = 17) ∧ (q_R S 8 9 a = some qs ∧ qs ∈ q_L S ∧ q_K S qs = 15 ∧ q_n S qs = 2000 ∧ ρ qs = 18) ∧ q_I S 8 1 a = nI n ∧ n ≤ 2000 ∧ q_I S 8 3 a = pl ∧ q_aI S qt = g
theorem cT.same {ρ ρ' : Nat → Nat} {S S' : tk_S} {x n : Nat} {g : Nat → Int32} {pl : Int32} (h : cT ρ S x n g pl) (hx : xr S S' x) (hs : sm ρ S S' [2, 17, 18]) (hρ : rx ρ ρ' S) : cT ρ' S' x n g pl := by
  obtain ⟨a, qt, qs, h1, ⟨h2, h3, h4⟩, ⟨h5, h6, h7, h8, h9⟩, ⟨k1, k2, k3, k4, k5⟩, k6, k7, k8, k9⟩ := h
  obtain ⟨a1, a2, a3, a4, a5, a6, a7, a8, a9⟩ := hs a h2 (by rw [h4]; simp)
  obtain ⟨b1, b2, b3, b4, b5, b6, b7, b8, b9⟩ := hs qt h6 (by rw [h9]; simp)
  obtain ⟨c1, c2, c3, c4, c5, c6, c7, c8, c9⟩ := hs qs k2 (by rw [k5]; simp)
  exact ⟨a, qt, qs, (hx.2.2 0).trans h1, ⟨a1, a2.trans h3, by rw [hρ _ h2]; exact h4⟩, ⟨(a5 _ _).trans h5, b1, b2.trans h7, b6.trans h8, by rw [hρ _ h6]; exact h9⟩, ⟨(a5 _ _).trans k1, c1, c2.trans k3, c6.trans k4, by rw [hρ _ k2]; exact k5⟩, (a3 _ _).trans k6, k7, (a3 _ _).trans k8, b7.trans k9⟩
/-- the reckoner -/
def cK (ρ : Nat → Nat) (S : tk_S) (x : Nat) : Prop := ∃ a q q2, q_R S 12 1 x = some a ∧ isRk S a q q2 ∧ ρ a = 3 ∧ ρ q = 19 ∧ ρ q2 = 20
theorem cK.same {ρ ρ' : Nat → Nat} {S S' : tk_S} {x : Nat} (h : cK ρ S x) (hx : xr S S' x) (hs : sm ρ S S' [3, 19, 20]) (hρ : rx ρ ρ' S) : cK ρ' S' x := by
  obtain ⟨a, q, q2, h1, ⟨h2, h3, ⟨h4, h5, h6, h7⟩, ⟨h8, h9, h10, h11⟩, h12⟩, r1, r2, r3⟩ := h
  obtain ⟨a1, a2, a3, a4, a5, a6, a7, a8, a9⟩ := hs a h2 (by rw [r1]; simp)
  obtain ⟨b1, b2, b3, b4, b5, b6, b7, b8, b9⟩ := hs q h5 (by rw [r2]; simp)
  obtain ⟨c1, c2, c3, c4, c5, c6, c7, c8, c9⟩ := hs q2 h9 (by rw [r3]; simp)
  exact ⟨a, q, q2, (hx.2.2 1).trans h1, ⟨a1, a2.trans h3, ⟨(a5 _ _).trans h4, b1, b2.trans h6, b6.trans h7⟩, ⟨(a5 _ _).trans h8, c1, c2.trans h10, c6.trans h11⟩, h12⟩, by rw [hρ _ h2]; exact r1, by rw [hρ _ h5]; exact r2, by rw [hρ _ h9]; exact r3⟩
/-- how large the box's rows are for n lines, how often they have grown -/
def capC (n : Nat) : Nat := if n ≤ 64 then 64 else if n ≤ 128 then 128 else if n ≤ 256 then 256 else if n ≤ 512 then 512 else if n ≤ 1024 then 1024 else if n ≤ 2048 then 2048 else if n ≤ 4096 then 4096 else if n ≤ 8192 then 8192 else 12000
def lvl (n : Nat) : Nat := if n ≤ 64 then 0 else if n ≤ 128 then 1 else if n ≤ 256 then 2 else if n ≤ 512 then 3 else if n ≤ 1024 then 4 else if n ≤ 2048 then 5 else if n ≤ 4096 then 6 else if n ≤ 8192 then 7 else 8
theorem lvl_lo {n k : Nat} (h : k ≤ 8) (hn : n ≤ 64 * 2 ^ k) : lvl n ≤ k := by
  have hk : k = 0 ∨ k = 1 ∨ k = 2 ∨ k = 3 ∨ k = 4 ∨ k = 5 ∨ k = 6 ∨ k = 7 ∨ k = 8 := by omega
  unfold lvl
  rcases hk with rfl | rfl | rfl | rfl | rfl | rfl | rfl | rfl | rfl <;> simp at hn <;> (repeat' split) <;> omega
theorem lvl_hi {n k : Nat} (h : k < 8) (hn : 64 * 2 ^ k < n) : k + 1 ≤ lvl n := by
  have hk : k = 0 ∨ k = 1 ∨ k = 2 ∨ k = 3 ∨ k = 4 ∨ k = 5 ∨ k = 6 ∨ k = 7 := by omega
  unfold lvl
  rcases hk with rfl | rfl | rfl | rfl | rfl | rfl | rfl | rfl <;> simp at hn <;> (repeat' split) <;> omega
theorem lvl_mono {a b : Nat} (h : a ≤ b) : lvl a ≤ lvl b := by
  rcases Nat.lt_or_ge (lvl b) 8 with h8 | h8
  · refine lvl_lo (by omega) ?_
    apply Classical.byContradiction
    intro z
    have := lvl_hi (n := b) (k := lvl b) h8 (by omega)
    omega
  · have : lvl a ≤ 8 := by
      unfold lvl
      repeat' split
      all_goals omega
    omega
theorem lvl_le (n : Nat) : lvl n ≤ 8 := by
  unfold lvl
  repeat' split
  all_goals omega
theorem capC_ge {n : Nat} (h : n ≤ 12000) : n ≤ capC n ∧ 64 ≤ capC n ∧ capC n ≤ 12000 := by
  unfold capC
  repeat' split
  all_goals omega
theorem capC_in {n : Nat} (h : n < capC n) : capC (n + 1) = capC n ∧ lvl (n + 1) = lvl n := by
  have hc : n < 64 ∨ (64 < n ∧ n < 128) ∨ (128 < n ∧ n < 256) ∨ (256 < n ∧ n < 512) ∨ (512 < n ∧ n < 1024) ∨ (1024 < n ∧ n < 2048) ∨ (2048 < n ∧ n < 4096) ∨ (4096 < n ∧ n < 8192) ∨ 8192 < n := by
    unfold capC at h
    repeat' split at h
    all_goals omega
  clear h
  unfold capC lvl
  rcases hc with h | h | h | h | h | h | h | h | h
  all_goals
    constructor
    all_goals
      repeat (first | rw [if_pos (by omega)] | rw [if_neg (by omega)])
theorem capC_full {n : Nat} (h : n = capC n) (hn : n < 12000) : capC (n + 1) = min (2 * n) 12000 ∧ lvl (n + 1) = lvl n + 1 := by
  have : n = 64 ∨ n = 128 ∨ n = 256 ∨ n = 512 ∨ n = 1024 ∨ n = 2048 ∨ n = 4096 ∨ n = 8192 := by
    unfold capC at h
    repeat' split at h
    all_goals omega
  rcases this with rfl | rfl | rfl | rfl | rfl | rfl | rfl | rfl <;> decide
/-- the box: n lines: days, kinds, whos, sums; what it held behind each -/
def cJ (ρ : Nat → Nat) (S : tk_S) (x : Nat) (n : Nat) (m : Int64) (v2 v3 v4 : Nat → Int32) (v5 v6 : Nat → Int64) : Prop := ∃ bx r2 r3 r4 r5 r6, q_R S 12 2 x = some bx ∧ ρ bx = 4 ∧ isBox S bx n m v2 v3 v4 v5 v6 (capC n) r2 r3 r4 r5 r6 ∧ n ≤ 12000 ∧ ρ r2 = 21 ∧ ρ r3 = 21 ∧ ρ r4 = 21 ∧ ρ r5 = 21 ∧ ρ r6 = 21
theorem cJ.same {ρ ρ' : Nat → Nat} {S S' : tk_S} {x n : Nat} {m : Int64} {v2 v3 v4 : Nat → Int32} {v5 v6 : Nat → Int64} (h : cJ ρ S x n m v2 v3 v4 v5 v6) (hx : xr S S' x) (hs : sm ρ S S' [4, 21]) (hρ : rx ρ ρ' S) : cJ ρ' S' x n m v2 v3 v4 v5 v6 := by
  obtain ⟨bx, r2, r3, r4, r5, r6, h1, h2, ⟨⟨i1, i2, ⟨j1, j2, j3, j4⟩, ⟨k1, k2, k3, k4⟩, ⟨l1, l2, l3, l4⟩, ⟨m1, m2, m3, m4⟩, ⟨n1, n2, n3, n4⟩, i8⟩, o1, o2, o3, o4⟩, h4, t2, t3, t4, t5, t6⟩ := h
  obtain ⟨a1, a2, a3, a4, a5, a6, a7, a8, a9⟩ := hs bx i1 (by rw [h2]; simp)
  have g2 := hs r2 j2 (by rw [t2]; simp)
  have g3 := hs r3 k2 (by rw [t3]; simp)
  have g4 := hs r4 l2 (by rw [t4]; simp)
  have g5 := hs r5 m2 (by rw [t5]; simp)
  have g6 := hs r6 n2 (by rw [t6]; simp)
  refine ⟨bx, r2, r3, r4, r5, r6, (hx.2.2 2).trans h1, by rw [hρ _ i1]; exact h2, ⟨⟨a1, a2.trans i2, ⟨(a5 _ _).trans j1, g2.1, g2.2.1.trans j3, g2.2.2.2.2.2.1.trans j4⟩, ⟨(a5 _ _).trans k1, g3.1, g3.2.1.trans k3, g3.2.2.2.2.2.1.trans k4⟩, ⟨(a5 _ _).trans l1, g4.1, g4.2.1.trans l3, g4.2.2.2.2.2.1.trans l4⟩, ⟨(a5 _ _).trans m1, g5.1, g5.2.1.trans m3, g5.2.2.2.2.2.1.trans m4⟩, ⟨(a5 _ _).trans n1, g6.1, g6.2.1.trans n3, g6.2.2.2.2.2.1.trans n4⟩, i8⟩, (a3 _ _).trans o1, (a4 _ _).trans o2, o3, fun i hi => ?_⟩, h4, by rw [hρ _ j2]; exact t2, by rw [hρ _ k2]; exact t3, by rw [hρ _ l2]; exact t4, by rw [hρ _ m2]; exact t5, by rw [hρ _ n2]; exact t6⟩
  rw [g2.2.2.2.2.2.2.1, g3.2.2.2.2.2.2.1, g4.2.2.2.2.2.2.1, g5.2.2.2.2.2.2.2.1, g6.2.2.2.2.2.2.2.1]
  exact o4 i hi
/-- the trust's own: the day, the first dry day, the latest clause -/
def cD (ρ : Nat → Nat) (S : tk_S) (x : Nat) (td : Nat) (dry lc : Int32) : Prop := x ∈ q_L S ∧ q_K S x = 12 ∧ ρ x = 1 ∧ q_I S 12 9 x = nI td ∧ td ≤ 9999 ∧ q_I S 12 10 x = dry ∧ q_I S 12 11 x = lc
end PARTS

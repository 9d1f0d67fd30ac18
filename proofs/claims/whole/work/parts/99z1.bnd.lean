/-! THE MODEL'S BOUNDS: interest, rank by rank -/
section BNDR
variable {rk : Nat → Int32} {r : Int32}
/-- the sum over the first n of those of rank r -/
def sR (rk : Nat → Int32) (r : Int32) (g : Nat → Int64) : Nat → Int
  | 0 => 0
  | n + 1 => sR rk r g n + if rk n = r then (g n).toInt else 0
/-- how many of the first n are of rank r -/
def cR (rk : Nat → Int32) (r : Int32) : Nat → Nat
  | 0 => 0
  | n + 1 => cR rk r n + if rk n = r then 1 else 0
theorem sR_bnd {g : Nat → Int64} : ∀ n, (∀ i, i < n → rk i = r → 0 ≤ (g i).toInt ∧ (g i).toInt ≤ 200000000) → 0 ≤ sR rk r g n ∧ sR rk r g n ≤ 200000000 * (n : Int) := by
  intro n
  induction n with
  | zero => intro _; simp [sR]
  | succ n ih =>
    intro h
    obtain ⟨a, b⟩ := ih (fun i hi => h i (by omega))
    rw [sR]
    by_cases w : rk n = r
    · obtain ⟨c, d⟩ := h n (by omega) w
      rw [if_pos w]
      omega
    · rw [if_neg w]
      omega
theorem sR_zero {g : Nat → Int64} : ∀ n, (∀ i, i < n → rk i = r → 0 ≤ (g i).toInt) → 0 ≤ sR rk r g n ∧ (sR rk r g n = 0 → ∀ i, i < n → rk i = r → (g i).toInt = 0) := by
  intro n
  induction n with
  | zero => intro _; exact ⟨Int.le_refl _, fun _ i hi => absurd hi (Nat.not_lt_zero _)⟩
  | succ n ih =>
    intro h
    obtain ⟨a, b⟩ := ih (fun i hi => h i (by omega))
    rw [sR]
    by_cases w : rk n = r
    · have c := h n (by omega) w
      rw [if_pos w]
      refine ⟨by omega, fun z i hi hr => ?_⟩
      by_cases e : i = n
      · subst e; omega
      · exact b (by omega) i (by omega) hr
    · rw [if_neg w]
      refine ⟨by omega, fun z i hi hr => ?_⟩
      by_cases e : i = n
      · subst e; exact absurd hr w
      · exact b (by omega) i (by omega) hr
theorem sR_off {g : Nat → Int64} {j : Nat} {v : Int64} : ∀ n, n ≤ j → sR rk r (vp_updL g j v) n = sR rk r g n := by
  intro n
  induction n with
  | zero => intro _; rfl
  | succ n ih =>
    intro h
    rw [sR, sR, ih (by omega)]
    have e : vp_updL g j v n = g n := if_neg (by omega)
    rw [e]
theorem sR_upd {g : Nat → Int64} {j : Nat} {v : Int64} (hj : rk j = r) : ∀ n, j < n → sR rk r (vp_updL g j v) n = sR rk r g n - (g j).toInt + v.toInt := by
  intro n
  induction n with
  | zero => intro h; omega
  | succ n ih =>
    intro h
    rw [sR, sR]
    by_cases e : n = j
    · subst e
      have e1 : vp_updL g n v n = v := if_pos rfl
      rw [sR_off n (Nat.le_refl _), e1, if_pos hj, if_pos hj]
      omega
    · have e1 : vp_updL g j v n = g n := if_neg e
      rw [ih (by omega), e1]
      omega
theorem dueM_eq {du : Nat → Int64} (h : ∀ i, 0 ≤ (du i).toInt ∧ (du i).toInt ≤ 200000000) : ∀ m i a, i + m ≤ 10 → a.toInt = sR rk r du i → (dueM rk du r m i a).toInt = sR rk r du (i + m) := by
  intro m
  induction m with
  | zero => intro i a _ ha; exact ha
  | succ m ih =>
    intro i a hi ha
    rw [dueM, show i + (m + 1) = i + 1 + m by omega]
    refine ih (i + 1) _ (by omega) ?_
    have b := sR_bnd (rk := rk) (r := r) (g := du) i (fun j _ _ => h j)
    have c := h i
    rw [sR]
    by_cases w : rk i = r
    · rw [if_pos w, if_pos w, Jvm.Kit.i64_add (by omega) (by omega), ha]
    · rw [if_neg w, if_neg w, Int64.add_zero, ha]
      omega
theorem leftM_eq {g : Nat → Int64} {n : Nat} {L : Int} (hL : 0 ≤ L ∧ L ≤ 1000000000000) (h : ∀ i, i < n → rk i = r → 0 ≤ (g i).toInt ∧ (g i).toInt ≤ 200000000) : ∀ m i a, i + m ≤ n → n ≤ 10 → a.toInt = L - sR rk r g i → (leftM rk r g m i a).toInt = L - sR rk r g (i + m) := by
  intro m
  induction m with
  | zero => intro i a _ _ ha; exact ha
  | succ m ih =>
    intro i a hi hn ha
    rw [leftM, show i + (m + 1) = i + 1 + m by omega]
    refine ih (i + 1) _ (by omega) hn ?_
    have b := sR_bnd (rk := rk) (r := r) (g := g) i (fun j hj => h j (by omega))
    rw [sR]
    by_cases w : rk i = r
    · have c := h i (by omega) w
      rw [if_pos w, if_pos w, Jvm.Kit.i64_sub (by omega) (by omega), ha]
      omega
    · rw [if_neg w, if_neg w, ha]
      omega
theorem greedyM_ok {n : Nat} {du : Nat → Int64} {bx : Int} (hdu : ∀ i, 0 ≤ (du i).toInt ∧ (du i).toInt ≤ 200000000) : ∀ m (g rs : Nat → Int64) (l : Int64), (∀ i, i < n → rk i = r → 0 ≤ (g i).toInt ∧ (g i).toInt ≤ (du i).toInt ∧ (0 < rs i → (g i).toInt + 1 ≤ (du i).toInt)) → 0 ≤ l.toInt → sR rk r g n + l.toInt = bx →
    (∀ i, i < n → rk i = r → 0 ≤ (greedyM rk r n m g rs l i).toInt ∧ (greedyM rk r n m g rs l i).toInt ≤ (du i).toInt) ∧ sR rk r (greedyM rk r n m g rs l) n ≤ bx := by
  intro m
  induction m with
  | zero =>
    intro g rs l h hl hs
    exact ⟨fun i hi hr => ⟨(h i hi hr).1, (h i hi hr).2.1⟩, by rw [greedyM]; omega⟩
  | succ m ih =>
    intro g rs l h hl hs
    have stay : (∀ i, i < n → rk i = r → 0 ≤ (g i).toInt ∧ (g i).toInt ≤ (du i).toInt) ∧ sR rk r g n ≤ bx := ⟨fun i hi hr => ⟨(h i hi hr).1, (h i hi hr).2.1⟩, by omega⟩
    unfold greedyM
    by_cases hl0 : 0 < l
    · rw [if_pos hl0]
      have hl1 := Int64.lt_iff_toInt_lt.mp hl0
      rw [Int64.toInt_zero] at hl1
      have one : (1 : Int64).toInt = 1 := rfl
      rcases hm : mostM rk rs r n 0 none with _ | j
      · exact stay
      · obtain ⟨hj, hr, hp⟩ := mostM_ok (n := n) n 0 none (by omega) (fun j hj => by cases hj) j hm
        obtain ⟨c1, c2, c3⟩ := h j hj hr
        have c4 := c3 hp
        have c5 := hdu j
        have e1 : (g j + 1).toInt = (g j).toInt + 1 := by rw [Jvm.Kit.i64_add (by rw [one]; omega) (by rw [one]; omega), one]
        have lb := Int64.toInt_lt l
        have e2 : (l - 1).toInt = l.toInt - 1 := by rw [Jvm.Kit.i64_sub (by rw [one]; omega) (by rw [one]; omega), one]
        refine ih _ _ _ (fun i hi hri => ?_) (by omega) ?_
        · by_cases e : i = j
          · subst e
            have e3 : vp_updL g i (g i + 1) i = g i + 1 := if_pos rfl
            have e4 : vp_updL rs i 0 i = 0 := if_pos rfl
            rw [e3, e4, e1]
            exact ⟨by omega, by omega, fun z => (Int64.lt_irrefl z).elim⟩
          · have e3 : vp_updL g j (g j + 1) i = g i := if_neg e
            have e4 : vp_updL rs j 0 i = rs i := if_neg e
            rw [e3, e4]
            exact h i hi hri
        · rw [sR_upd hr n hj, e1, e2]
          omega
    · rw [if_neg hl0]
      exact stay
/-- the parts of a rank: none below 0, none above what is due, all together no more than there is -/
theorem partsM_ok {du : Nat → Int64} {n : Nat} {bx al : Int64} (hn : n ≤ 10) (hdu : ∀ i, 0 ≤ (du i).toInt ∧ (du i).toInt ≤ 200000000) (hal : al.toInt = sR rk r du n) (hb : 0 ≤ bx.toInt) (hlt : bx.toInt < al.toInt) :
    (∀ i, i < n → rk i = r → 0 ≤ (partsM rk du r n bx al i).toInt ∧ (partsM rk du r n bx al i).toInt ≤ (du i).toInt) ∧ sR rk r (partsM rk du r n bx al) n ≤ bx.toInt := by
  have hs := sR_bnd (rk := rk) (r := r) (g := du) n (fun i _ _ => hdu i)
  have hal1 : al.toInt ≤ 2000000000 := by omega
  have hal0 : 0 < al.toInt := by omega
  have em : ∀ i, (du i * bx).toInt = (du i).toInt * bx.toInt ∧ 0 ≤ (du i).toInt * bx.toInt ∧ (du i).toInt * bx.toInt ≤ 400000000000000000 ∧ (du i).toInt * bx.toInt ≤ (du i).toInt * al.toInt := fun i => by
    obtain ⟨c1, c2⟩ := hdu i
    have p0 : 0 ≤ (du i).toInt * bx.toInt := Int.mul_nonneg c1 hb
    have p1 : (du i).toInt * bx.toInt ≤ 200000000 * 2000000000 := Int.mul_le_mul c2 (by omega) hb (by omega)
    exact ⟨Jvm.Kit.i64_mul (by omega) (by omega), p0, by omega, Int.mul_le_mul_of_nonneg_left (by omega) c1⟩
  have ed : ∀ i, (du i * bx / al).toInt = ((du i).toInt * bx.toInt) / al.toInt := fun i => by
    obtain ⟨c1, c2, c3, c4⟩ := em i
    rw [Jvm.Kit.i64_div (by omega), c1, Int.tdiv_eq_ediv_of_nonneg c2]
  have eq1 : ∀ i, al.toInt * (((du i).toInt * bx.toInt) / al.toInt) ≤ (du i).toInt * bx.toInt := fun i => Int.mul_ediv_self_le (by omega)
  have ef : ∀ i, 0 ≤ (du i * bx / al).toInt ∧ (du i * bx / al).toInt ≤ (du i).toInt := fun i => by
    obtain ⟨c1, c2, c3, c4⟩ := em i
    rw [ed]
    refine ⟨Int.ediv_nonneg c2 (by omega), ?_⟩
    refine Int.le_trans (Int.ediv_le_ediv hal0 c4) ?_
    rw [Int.mul_ediv_cancel _ (by omega)]
    exact Int.le_refl _
  have er : ∀ i, (du i * bx - du i * bx / al * al).toInt = ((du i).toInt * bx.toInt) % al.toInt := fun i => by
    rw [Jvm.Kit.i64_rem_nonneg (by rw [(em i).1]; exact (em i).2.1), (em i).1]
  have sums : ∀ k, al.toInt * sR rk r (fun i => du i * bx / al) k ≤ sR rk r du k * bx.toInt := by
    intro k
    induction k with
    | zero => simp [sR]
    | succ k ih =>
      rw [sR, sR, Int.mul_add, Int.add_mul]
      by_cases w : rk k = r
      · rw [if_pos w, if_pos w, ed]
        have := eq1 k
        omega
      · rw [if_neg w, if_neg w]
        simpa using ih
  have hf : sR rk r (fun i => du i * bx / al) n ≤ bx.toInt := by
    have h1 := sums n
    rw [← hal] at h1
    exact Int.le_of_mul_le_mul_left h1 hal0
  have hfb : ∀ i, i < n → rk i = r → 0 ≤ (du i * bx / al).toInt ∧ (du i * bx / al).toInt ≤ 200000000 := fun i _ _ => ⟨(ef i).1, Int.le_trans (ef i).2 (hdu i).2⟩
  have hl := leftM_eq (rk := rk) (r := r) (g := fun i => du i * bx / al) (n := n) (L := bx.toInt) ⟨hb, by omega⟩ hfb n 0 bx (by omega) hn (by rw [sR]; omega)
  rw [Nat.zero_add] at hl
  refine greedyM_ok hdu n _ _ _ (fun i hi hr => ⟨(ef i).1, (ef i).2, fun hp => ?_⟩) (by rw [hl]; omega) (by rw [hl]; omega)
  have hp1 := Int64.lt_iff_toInt_lt.mp hp
  rw [er, Int64.toInt_zero] at hp1
  have e2 := (ef i).2
  rw [ed] at e2 ⊢
  have e3 := Int.mul_ediv_add_emod ((du i).toInt * bx.toInt) al.toInt
  have e4 := (em i).2.2.2
  apply Classical.byContradiction
  intro z
  have e5 : (du i).toInt * bx.toInt / al.toInt = (du i).toInt := by omega
  rw [e5, Int.mul_comm al.toInt] at e3
  omega
theorem payM_nop {td : Nat} {g : Nat → Int64} {n : Nat} (h : ∀ i, i < n → rk i = r → ¬ 0 < g i) : ∀ m i (k : mI), m + i = n → payM td rk r g m i k = k := by
  intro m
  induction m with
  | zero => intro i k _; rfl
  | succ m ih =>
    intro i k hi
    rw [payM, if_neg (fun z => h i (by omega) z.1 z.2)]
    exact ih (i + 1) k (by omega)
theorem payM_ok {td : Nat} {g du : Nat → Int64} {n j0 : Nat} {bx : Int} (hbx : bx < 1000000000000000) (hdu : ∀ i, 0 ≤ (du i).toInt ∧ (du i).toInt ≤ 200000000) (hg : ∀ i, i < n → rk i = r → 0 ≤ (g i).toInt ∧ (g i).toInt ≤ (du i).toInt) (hs : sR rk r g n ≤ bx) : ∀ m i (k : mI), m + i = n →
    (∀ t, 0 ≤ (k.1 t).toInt ∧ (k.1 t).toInt ≤ (du t).toInt) → (∀ t, i ≤ t → k.1 t = du t) → k.2.2.1.toInt + sR rk r g i = bx → k.2.1 ≤ j0 + cR rk r i →
    (∀ t, 0 ≤ ((payM td rk r g m i k).1 t).toInt ∧ ((payM td rk r g m i k).1 t).toInt ≤ (du t).toInt) ∧ (payM td rk r g m i k).2.2.1.toInt + sR rk r g n = bx ∧ (payM td rk r g m i k).2.1 ≤ j0 + cR rk r n := by
  intro m
  induction m with
  | zero =>
    intro i k hi h1 h2 h3 h4
    have e : i = n := by omega
    subst e
    exact ⟨h1, h3, h4⟩
  | succ m ih =>
    intro i k hi h1 h2 h3 h4
    rw [payM]
    have hb : ∀ q, q ≤ n → 0 ≤ sR rk r g q := fun q hq => (sR_zero q (fun j hj hr => (hg j (by omega) hr).1)).1
    by_cases w : rk i = r ∧ 0 < g i
    · rw [if_pos w]
      obtain ⟨g1, g2⟩ := hg i (by omega) w.1
      have d1 := hdu i
      have e0 : k.1 i = du i := h2 i (Nat.le_refl _)
      have k1 := h1 i
      have s0 := hb i (by omega)
      have s1 := hb (i + 1) (by omega)
      have es : sR rk r g (i + 1) = sR rk r g i + (g i).toInt := by rw [sR, if_pos w.1]
      have mono : ∀ q, i + 1 + q ≤ n → sR rk r g (i + 1) ≤ sR rk r g (i + 1 + q) := by
        intro q
        induction q with
        | zero => intro _; exact Int.le_refl _
        | succ q ihq =>
          intro hq
          refine Int.le_trans (ihq (by omega)) ?_
          rw [show i + 1 + (q + 1) = i + 1 + q + 1 by omega, sR]
          by_cases w2 : rk (i + 1 + q) = r
          · have := (hg (i + 1 + q) (by omega) w2).1
            rw [if_pos w2]
            omega
          · rw [if_neg w2]
            omega
      have mn := mono (n - (i + 1)) (by omega)
      rw [show i + 1 + (n - (i + 1)) = n by omega] at mn
      have ng : (-(g i)).toInt = -(g i).toInt := Jvm.Kit.i64_neg (by omega)
      refine ih (i + 1) _ (by omega) (fun t => ?_) (fun t ht => ?_) ?_ ?_
      · dsimp only
        by_cases e : t = i
        · subst e
          have e1 : vp_updL k.1 t (k.1 t - g t) t = k.1 t - g t := if_pos rfl
          rw [e1, Jvm.Kit.i64_sub (by omega) (by omega), e0]
          omega
        · have e1 : vp_updL k.1 i (k.1 i - g i) t = k.1 t := if_neg e
          rw [e1]
          exact h1 t
      · dsimp only
        have e1 : vp_updL k.1 i (k.1 i - g i) t = k.1 t := if_neg (by omega)
        rw [e1]
        exact h2 t (by omega)
      · show (k.2.2.1 + -(g i)).toInt + _ = _
        rw [Jvm.Kit.i64_add (by omega) (by omega), ng]
        omega
      · show k.2.1 + 1 ≤ _
        rw [cR, if_pos w.1]
        omega
    · rw [if_neg w]
      refine ih (i + 1) k (by omega) h1 (fun t ht => h2 t (by omega)) ?_ ?_
      · rw [sR]
        by_cases w2 : rk i = r
        · have g1 := (hg i (by omega) w2).1
          have g2 : ¬ 0 < g i := fun z => w ⟨w2, z⟩
          rw [Int64.lt_iff_toInt_lt, Int64.toInt_zero] at g2
          rw [if_pos w2]
          omega
        · rw [if_neg w2]
          omega
      · rw [cR]
        split <;> omega
/-- the numbers of a rank's turn -/
def mIok (j0 : Nat) (D : Nat → Int64) (B : Int) (w : mI) : Prop := (∀ t, 0 ≤ (w.1 t).toInt ∧ (w.1 t).toInt ≤ (D t).toInt) ∧ 0 ≤ w.2.2.1.toInt ∧ w.2.2.1.toInt ≤ B ∧ w.2.1 ≤ j0
theorem rankM_ok {td n j0 : Nat} {D : Nat → Int64} {B : Int} {w : mI} (hn : n ≤ 10) (hD : ∀ i, 0 ≤ (D i).toInt ∧ (D i).toInt ≤ 200000000) (hB : B < 1000000000000000) (h : mIok j0 D B w) : mIok (j0 + cR rk r n) D B (rankM td n rk r w) ∧ rkOK td n rk r w := by
  obtain ⟨h1, h2, h3, h4⟩ := h
  have hw : ∀ i, 0 ≤ (w.1 i).toInt ∧ (w.1 i).toInt ≤ 200000000 := fun i => ⟨(h1 i).1, Int.le_trans (h1 i).2 (hD i).2⟩
  have hal := dueM_eq (rk := rk) (r := r) hw n 0 0 (by omega) rfl
  rw [Nat.zero_add] at hal
  have G : ∀ g, g = (if dueM rk w.1 r n 0 0 ≤ w.2.2.1 then w.1 else partsM rk w.1 r n w.2.2.1 (dueM rk w.1 r n 0 0)) → (∀ i, i < n → rk i = r → 0 ≤ (g i).toInt ∧ (g i).toInt ≤ (w.1 i).toInt) ∧ sR rk r g n ≤ w.2.2.1.toInt := by
    intro g hg
    by_cases c : dueM rk w.1 r n 0 0 ≤ w.2.2.1
    · rw [if_pos c] at hg
      subst hg
      have c1 := Int64.le_iff_toInt_le.mp c
      exact ⟨fun i _ _ => ⟨(h1 i).1, Int.le_refl _⟩, by rw [← hal]; exact c1⟩
    · rw [if_neg c] at hg
      subst hg
      have c1 := Int64.lt_iff_toInt_lt.mp (Int64.not_le.mp c)
      exact partsM_ok hn hw hal h2 c1
  obtain ⟨G1, G2⟩ := G _ rfl
  have P := payM_ok (td := td) (n := n) (j0 := j0) (bx := w.2.2.1.toInt) (by omega) hw G1 G2 n 0 w (by omega) (fun t => ⟨(h1 t).1, Int.le_refl _⟩) (fun _ _ => rfl) (by rw [sR]; omega) (by rw [cR]; omega)
  have s0 := (sR_zero n (fun i hi hr => (G1 i hi hr).1)).1
  obtain ⟨P1, P2, P3⟩ := P
  refine ⟨⟨fun t => ⟨(P1 t).1, Int.le_trans (P1 t).2 (h1 t).2⟩, ?_, ?_, P3⟩, fun z => ?_, fun i hi hr => ?_⟩
  · show 0 ≤ (rankM td n rk r w).2.2.1.toInt
    unfold rankM
    omega
  · show (rankM td n rk r w).2.2.1.toInt ≤ _
    unfold rankM
    omega
  · have z2 : sR rk r w.1 n = 0 := by rw [← hal, z]; rfl
    have z3 := (sR_zero n (fun i _ _ => (h1 i).1)).2 z2
    have c : dueM rk w.1 r n 0 0 ≤ w.2.2.1 := Int64.le_iff_toInt_le.mpr (by rw [z]; exact h2)
    unfold rankM
    rw [if_pos c]
    refine payM_nop (n := n) (fun i hi hr q => ?_) n 0 w (by omega)
    have := Int64.lt_iff_toInt_lt.mp q
    rw [z3 i hi hr] at this
    exact absurd this (by decide)
  · obtain ⟨g1, g2⟩ := G1 i hi hr
    have g3 := (hw i).2
    refine ⟨Int64.le_iff_toInt_le.mpr g1, ?_⟩
    generalize (if dueM rk w.1 r n 0 0 ≤ w.2.2.1 then w.1 else partsM rk w.1 r n w.2.2.1 (dueM rk w.1 r n 0 0)) i = v at g1 g2
    have ng : (-v).toInt = -v.toInt := Jvm.Kit.i64_neg (by omega)
    apply Int64.toInt_inj.mp
    rw [Int32.toInt_toInt64, Int64.toInt_toInt32, ng]
    exact Int.bmod_eq_of_le (by omega) (by omega)
theorem ranksM_ok {td n j0 : Nat} {D : Nat → Int64} {B : Int} {w : mI} (hn : n ≤ 10) (hD : ∀ i, 0 ≤ (D i).toInt ∧ (D i).toInt ≤ 200000000) (hB : B < 1000000000000000) (h : mIok j0 D B w) : (mIok j0 D B (ranksM td n rk 0 w) ∧ mIok (j0 + cR rk (nI 0) n) D B (ranksM td n rk 1 w) ∧ mIok (j0 + cR rk (nI 0) n + cR rk (nI 1) n) D B (ranksM td n rk 2 w) ∧ mIok (j0 + cR rk (nI 0) n + cR rk (nI 1) n + cR rk (nI 2) n) D B (ranksM td n rk 3 w) ∧ mIok (j0 + cR rk (nI 0) n + cR rk (nI 1) n + cR rk (nI 2) n + cR rk (nI 3) n) D B (ranksM td n rk 4 w)) ∧ ∀ q, q < 4 → rkOK td n rk (nI q) (ranksM td n rk q w) := by
  have a0 : mIok j0 D B (ranksM td n rk 0 w) := h
  obtain ⟨a1, b0⟩ := rankM_ok (td := td) (rk := rk) (r := nI 0) hn hD hB a0
  have a1 : mIok (j0 + cR rk (nI 0) n) D B (ranksM td n rk 1 w) := a1
  obtain ⟨a2, b1⟩ := rankM_ok (td := td) (rk := rk) (r := nI 1) hn hD hB a1
  have a2 : mIok (j0 + cR rk (nI 0) n + cR rk (nI 1) n) D B (ranksM td n rk 2 w) := a2
  obtain ⟨a3, b2⟩ := rankM_ok (td := td) (rk := rk) (r := nI 2) hn hD hB a2
  have a3 : mIok (j0 + cR rk (nI 0) n + cR rk (nI 1) n + cR rk (nI 2) n) D B (ranksM td n rk 3 w) := a3
  obtain ⟨a4, b3⟩ := rankM_ok (td := td) (rk := rk) (r := nI 3) hn hD hB a3
  refine ⟨⟨a0, a1, a2, a3, a4⟩, fun q hq => ?_⟩
  have : q = 0 ∨ q = 1 ∨ q = 2 ∨ q = 3 := by omega
  rcases this with rfl | rfl | rfl | rfl
  · exact b0
  · exact b1
  · exact b2
  · exact b3
theorem cR_four : ∀ n, cR rk (nI 0) n + cR rk (nI 1) n + cR rk (nI 2) n + cR rk (nI 3) n ≤ n := by
  intro n
  induction n with
  | zero => exact Nat.le_refl _
  | succ n ih =>
    rw [cR, cR, cR, cR]
    have h01 : ¬ (nI 0 : Int32) = nI 1 := by decide
    have h02 : ¬ (nI 0 : Int32) = nI 2 := by decide
    have h03 : ¬ (nI 0 : Int32) = nI 3 := by decide
    have h12 : ¬ (nI 1 : Int32) = nI 2 := by decide
    have h13 : ¬ (nI 1 : Int32) = nI 3 := by decide
    have h23 : ¬ (nI 2 : Int32) = nI 3 := by decide
    by_cases e0 : rk n = nI 0
    · rw [if_pos e0, if_neg (fun z => h01 (e0.symm.trans z)), if_neg (fun z => h02 (e0.symm.trans z)), if_neg (fun z => h03 (e0.symm.trans z))]
      omega
    · rw [if_neg e0]
      by_cases e1 : rk n = nI 1
      · rw [if_pos e1, if_neg (fun z => h12 (e1.symm.trans z)), if_neg (fun z => h13 (e1.symm.trans z))]
        omega
      · rw [if_neg e1]
        by_cases e2 : rk n = nI 2
        · rw [if_pos e2, if_neg (fun z => h23 (e2.symm.trans z))]
          omega
        · rw [if_neg e2]
          split <;> omega
theorem growM_at {su ra : Nat → Int32} {du : Nat → Int64} : ∀ n t, growM su ra n du t = if t < n then du t + (su t).toInt64 * (ra t).toInt64 / 1000 else du t := by
  intro n
  induction n with
  | zero => intro t; rw [growM, if_neg (by omega)]
  | succ n ih =>
    intro t
    rw [growM]
    by_cases e : t = n
    · subst e
      have e1 : vp_updL (growM su ra t du) t (growM su ra t du t + (su t).toInt64 * (ra t).toInt64 / 1000) t = growM su ra t du t + (su t).toInt64 * (ra t).toInt64 / 1000 := if_pos rfl
      rw [e1, ih t, if_neg (by omega), if_pos (by omega)]
    · have e1 : vp_updL (growM su ra n du) n (growM su ra n du n + (su n).toInt64 * (ra n).toInt64 / 1000) t = growM su ra n du t := if_neg e
      rw [e1, ih t]
      by_cases h : t < n
      · rw [if_pos h, if_pos (by omega)]
      · rw [if_neg h, if_neg (by omega)]
theorem growM_ok {su ra : Nat → Int32} {du : Nat → Int64} {n y : Nat} (hy : y ≤ 27) (hsu : ∀ i, 0 ≤ (su i).toInt ∧ (su i).toInt ≤ 10000000) (hra : ∀ i, 0 ≤ (ra i).toInt ∧ (ra i).toInt ≤ 500) (hdu : ∀ i, 0 ≤ (du i).toInt ∧ (du i).toInt ≤ 5000000 * (y : Int)) (t : Nat) : 0 ≤ (growM su ra n du t).toInt ∧ (growM su ra n du t).toInt ≤ 5000000 * ((y + 1 : Nat) : Int) ∧ (n ≤ t → growM su ra n du t = du t) := by
  have h1 := hsu t
  have h2 := hra t
  have h3 := hdu t
  rw [growM_at]
  by_cases h : t < n
  · rw [if_pos h]
    have p0 : 0 ≤ (su t).toInt * (ra t).toInt := Int.mul_nonneg h1.1 h2.1
    have p1 : (su t).toInt * (ra t).toInt ≤ 10000000 * 500 := Int.mul_le_mul h1.2 h2.2 h2.1 (by omega)
    have em : ((su t).toInt64 * (ra t).toInt64).toInt = (su t).toInt * (ra t).toInt := by
      rw [Jvm.Kit.i64_mul (by rw [Int32.toInt_toInt64, Int32.toInt_toInt64]; omega) (by rw [Int32.toInt_toInt64, Int32.toInt_toInt64]; omega), Int32.toInt_toInt64, Int32.toInt_toInt64]
    have th : (1000 : Int64).toInt = 1000 := rfl
    have ed : ((su t).toInt64 * (ra t).toInt64 / 1000).toInt = (su t).toInt * (ra t).toInt / 1000 := by
      rw [Jvm.Kit.i64_div (by rw [th]; omega), em, th, Int.tdiv_eq_ediv_of_nonneg p0]
    rw [Jvm.Kit.i64_add (by rw [ed]; omega) (by rw [ed]; omega), ed]
    exact ⟨by omega, by omega, fun z => by omega⟩
  · rw [if_neg h]
    exact ⟨h3.1, by omega, fun _ => rfl⟩
end BNDR

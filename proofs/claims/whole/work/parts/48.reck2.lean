/-! THE RECKONER: what a pass pays -/
section RECKON
variable {Z : tk_Z} {d mc ms : Nat} {S : tk_S} {QR : tk_R}
/-- whom and how much: charge's two answers -/
def chg (x y num v : Int32) : Int32 × Int32 := if x = -1 then (if y = -1 then (v, num) else (0, if x < y then y else x)) else if y = -1 then (0, if x < y then y else x) else (0, if y < x then y else x)
/-- the toll and the clause, from clause i on: kn: the kept times, t of them; o, al: the kept once, once all -/
def goM (H : Nat → Bool) (W MN FR SC : Nat → Int32) (beasts : Int32) (ph pa : Bool) : Nat → Nat → (Nat → Nat) → Nat → Int32 → Int32 → Int32 × Int32
  | 0, _, _, _, _, _ => (0, -1)
  | m + 1, i, kn, t, o, al => if H i = true then (if W i = 256 then (0, nI i) else if W i = 257 then chg (if ph = true then o else -1) (if pa = true then al else -1) (nI i) (timesIn FR SC kn (aheadOf (MN i) (FR i) beasts) t).toInt32 else if W i = 258 then goM H W MN FR SC beasts ph pa m (i + 1) (va_up kn t i) (t + 1) o al else if MN i = 263 then goM H W MN FR SC beasts ph pa m (i + 1) kn t o (if al = -1 then nI i else al) else goM H W MN FR SC beasts ph pa m (i + 1) kn t (if o = -1 then nI i else o) al) else goM H W MN FR SC beasts ph pa m (i + 1) kn t o al
abbrev pC0 : pC := (0, 0, 0, 0, [])
/-- by an act's clauses, of facts F -/
def tollM (ps : List pC) (F : Nat → Int32) (beasts : Int32) (ph pa : Bool) : Int32 × Int32 := goM (fun i => holdsM F (ps.getD i pC0).2.2.2.2) (fun i => (ps.getD i pC0).1) (fun i => (ps.getD i pC0).2.1) (fun i => (ps.getD i pC0).2.2.1) (fun i => (ps.getD i pC0).2.2.2.1) beasts ph pa ps.length 0 (fun _ => 0) 0 (-1) (-1)
/-- nothing but the reckoner's ints and rows has changed -/
def rkF (S S' : tk_S) (a q q2 : Nat) : Prop := (q_L S' = q_L S ∧ q_K S' = q_K S ∧ q_J S' = q_J S ∧ q_R S' = q_R S ∧ q_n S' = q_n S ∧ q_aJ S' = q_aJ S ∧ q_aR S' = q_aR S) ∧ (∀ b, b ≠ q → b ≠ q2 → q_aI S' b = q_aI S b) ∧ (∀ c k b, ¬ (c = 9 ∧ b = a) → q_I S' c k b = q_I S c k b)
theorem rkF.rfl' {a q q2 : Nat} : rkF S S a q q2 := ⟨⟨rfl, rfl, rfl, rfl, rfl, rfl, rfl⟩, fun _ _ _ => rfl, fun _ _ _ _ => rfl⟩
theorem rkF.trans {S1 S2 : tk_S} {a q q2 : Nat} (h : rkF S S1 a q q2) (f : rkF S1 S2 a q q2) : rkF S S2 a q q2 := by
  obtain ⟨⟨h1, h2, h3, h4, h5, h6, h7⟩, h8, h9⟩ := h
  obtain ⟨⟨g1, g2, g3, g4, g5, g6, g7⟩, g8, g9⟩ := f
  exact ⟨⟨g1.trans h1, g2.trans h2, g3.trans h3, g4.trans h4, g5.trans h5, g6.trans h6, g7.trans h7⟩, fun b x y => (g8 b x y).trans (h8 b x y), fun c k b x => (g9 c k b x).trans (h9 c k b x)⟩
theorem rkF.put {a q q2 k : Nat} {v : Int32} : rkF S (s_I S 9 k a v) a q q2 := ⟨⟨rfl, rfl, rfl, rfl, rfl, rfl, rfl⟩, fun _ _ _ => rfl, fun c j b x => by
  simp -implicitDefEqProofs only [z_q_L_s_I, z_q_K_s_I, z_q_I_s_I, z_q_J_s_I, z_q_R_s_I, z_q_n_s_I, z_q_aI_s_I, z_q_aJ_s_I, z_q_aR_s_I, z_q_L_s_J, z_q_K_s_J, z_q_I_s_J, z_q_J_s_J, z_q_R_s_J, z_q_n_s_J, z_q_aI_s_J, z_q_aJ_s_J, z_q_aR_s_J, z_q_L_s_R, z_q_K_s_R, z_q_I_s_R, z_q_J_s_R, z_q_R_s_R, z_q_n_s_R, z_q_aI_s_R, z_q_aJ_s_R, z_q_aR_s_R, z_q_L_s_aI, z_q_K_s_aI, z_q_I_s_aI, z_q_J_s_aI, z_q_R_s_aI, z_q_n_s_aI, z_q_aI_s_aI, z_q_aJ_s_aI, z_q_aR_s_aI, z_q_L_s_aJ, z_q_K_s_aJ, z_q_I_s_aJ, z_q_J_s_aJ, z_q_R_s_aJ, z_q_n_s_aJ, z_q_aI_s_aJ, z_q_aJ_s_aJ, z_q_aR_s_aJ, z_q_L_s_aR, z_q_K_s_aR, z_q_I_s_aR, z_q_J_s_aR, z_q_R_s_aR, z_q_n_s_aR, z_q_aI_s_aR, z_q_aJ_s_aR, z_q_aR_s_aR, z_q_L_s_new, z_q_K_s_new, z_q_I_s_new, z_q_J_s_new, z_q_R_s_new, z_q_n_s_new, z_q_aI_s_new, z_q_aJ_s_new, z_q_aR_s_new, z_q_L_s_arr, z_q_K_s_arr, z_q_I_s_arr, z_q_J_s_arr, z_q_R_s_arr, z_q_n_s_arr, z_q_aI_s_arr, z_q_aJ_s_arr, z_q_aR_s_arr]
  rw [if_neg (fun w => x ⟨w.1, w.2.2⟩)]⟩
theorem rkF.row {a q q2 : Nat} {f : Nat → Int32} : rkF S (s_aI S q f) a q q2 := ⟨⟨rfl, rfl, rfl, rfl, rfl, rfl, rfl⟩, fun b x _ => by simp -implicitDefEqProofs [z_q_L_s_I, z_q_K_s_I, z_q_I_s_I, z_q_J_s_I, z_q_R_s_I, z_q_n_s_I, z_q_aI_s_I, z_q_aJ_s_I, z_q_aR_s_I, z_q_L_s_J, z_q_K_s_J, z_q_I_s_J, z_q_J_s_J, z_q_R_s_J, z_q_n_s_J, z_q_aI_s_J, z_q_aJ_s_J, z_q_aR_s_J, z_q_L_s_R, z_q_K_s_R, z_q_I_s_R, z_q_J_s_R, z_q_R_s_R, z_q_n_s_R, z_q_aI_s_R, z_q_aJ_s_R, z_q_aR_s_R, z_q_L_s_aI, z_q_K_s_aI, z_q_I_s_aI, z_q_J_s_aI, z_q_R_s_aI, z_q_n_s_aI, z_q_aI_s_aI, z_q_aJ_s_aI, z_q_aR_s_aI, z_q_L_s_aJ, z_q_K_s_aJ, z_q_I_s_aJ, z_q_J_s_aJ, z_q_R_s_aJ, z_q_n_s_aJ, z_q_aI_s_aJ, z_q_aJ_s_aJ, z_q_aR_s_aJ, z_q_L_s_aR, z_q_K_s_aR, z_q_I_s_aR, z_q_J_s_aR, z_q_R_s_aR, z_q_n_s_aR, z_q_aI_s_aR, z_q_aJ_s_aR, z_q_aR_s_aR, z_q_L_s_new, z_q_K_s_new, z_q_I_s_new, z_q_J_s_new, z_q_R_s_new, z_q_n_s_new, z_q_aI_s_new, z_q_aJ_s_new, z_q_aR_s_new, z_q_L_s_arr, z_q_K_s_arr, z_q_I_s_arr, z_q_J_s_arr, z_q_R_s_arr, z_q_n_s_arr, z_q_aI_s_arr, z_q_aJ_s_arr, z_q_aR_s_arr, x], fun c j b x => rfl⟩
theorem rkF.row2 {a q q2 : Nat} {f : Nat → Int32} : rkF S (s_aI S q2 f) a q q2 := ⟨⟨rfl, rfl, rfl, rfl, rfl, rfl, rfl⟩, fun b _ x => by simp -implicitDefEqProofs [z_q_L_s_I, z_q_K_s_I, z_q_I_s_I, z_q_J_s_I, z_q_R_s_I, z_q_n_s_I, z_q_aI_s_I, z_q_aJ_s_I, z_q_aR_s_I, z_q_L_s_J, z_q_K_s_J, z_q_I_s_J, z_q_J_s_J, z_q_R_s_J, z_q_n_s_J, z_q_aI_s_J, z_q_aJ_s_J, z_q_aR_s_J, z_q_L_s_R, z_q_K_s_R, z_q_I_s_R, z_q_J_s_R, z_q_R_s_R, z_q_n_s_R, z_q_aI_s_R, z_q_aJ_s_R, z_q_aR_s_R, z_q_L_s_aI, z_q_K_s_aI, z_q_I_s_aI, z_q_J_s_aI, z_q_R_s_aI, z_q_n_s_aI, z_q_aI_s_aI, z_q_aJ_s_aI, z_q_aR_s_aI, z_q_L_s_aJ, z_q_K_s_aJ, z_q_I_s_aJ, z_q_J_s_aJ, z_q_R_s_aJ, z_q_n_s_aJ, z_q_aI_s_aJ, z_q_aJ_s_aJ, z_q_aR_s_aJ, z_q_L_s_aR, z_q_K_s_aR, z_q_I_s_aR, z_q_J_s_aR, z_q_R_s_aR, z_q_n_s_aR, z_q_aI_s_aR, z_q_aJ_s_aR, z_q_aR_s_aR, z_q_L_s_new, z_q_K_s_new, z_q_I_s_new, z_q_J_s_new, z_q_R_s_new, z_q_n_s_new, z_q_aI_s_new, z_q_aJ_s_new, z_q_aR_s_new, z_q_L_s_arr, z_q_K_s_arr, z_q_I_s_arr, z_q_J_s_arr, z_q_R_s_arr, z_q_n_s_arr, z_q_aI_s_arr, z_q_aJ_s_arr, z_q_aR_s_arr, x], fun c j b x => rfl⟩
theorem rkF.fr {S' : tk_S} {a q q2 : Nat} (h : rkF S S' a q q2) : fr S S' [a, q, q2] := by
  intro b hb hn
  obtain ⟨⟨f1, f2, f3, f4, f5, f6, f7⟩, f8, f9⟩ := h
  have h1 : b ≠ a := fun z => hn (by simp [z])
  have h2 : b ≠ q := fun z => hn (by simp [z])
  have h3 : b ≠ q2 := fun z => hn (by simp [z])
  exact ⟨by rw [f1]; exact hb, by rw [f2], fun c k => f9 c k b (fun z => h1 z.2), fun c k => by rw [f3], fun c k => by rw [f4], by rw [f5], f8 b h2 h3, by rw [f6], by rw [f7]⟩
theorem rkF.gr {S' : tk_S} {a q q2 : Nat} (h : rkF S S' a q q2) : gr S S' := fun b hb => by rw [h.1.1]; exact hb
/-- the reckoner and its rows -/
def isRk (S : tk_S) (a q q2 : Nat) : Prop := a ∈ q_L S ∧ q_K S a = 9 ∧ (q_R S 9 2 a = some q ∧ q ∈ q_L S ∧ q_K S q = 15 ∧ q_n S q = 10) ∧ (q_R S 9 3 a = some q2 ∧ q2 ∈ q_L S ∧ q_K S q2 = 15 ∧ q_n S q2 = 40) ∧ q ≠ q2
theorem isRk.mv {S' : tk_S} {a q q2 : Nat} (h : isRk S a q q2) (f : rkF S S' a q q2) : isRk S' a q q2 := by
  obtain ⟨h1, h2, ⟨h3, h4, h5, h6⟩, ⟨h7, h8, h9, h10⟩, h11⟩ := h
  obtain ⟨⟨f1, f2, f3, f4, f5, f6, f7⟩, -, -⟩ := f
  exact ⟨by rw [f1]; exact h1, by rw [f2]; exact h2, ⟨by rw [f4]; exact h3, by rw [f1]; exact h4, by rw [f2]; exact h5, by rw [f5]; exact h6⟩, ⟨by rw [f4]; exact h7, by rw [f1]; exact h8, by rw [f2]; exact h9, by rw [f5]; exact h10⟩, h11⟩
/-- the traveller b and its rows -/
def isTv (S : tk_S) (b p p2 : Nat) (kind wheels beasts bits : Int32) : Prop := b ∈ q_L S ∧ q_K S b = 11 ∧ (q_R S 11 5 b = some p ∧ p ∈ q_L S ∧ q_K S p = 15 ∧ q_n S p = 8) ∧ (q_R S 11 6 b = some p2 ∧ p2 ∈ q_L S ∧ q_K S p2 = 15 ∧ q_n S p2 = 8) ∧ q_I S 11 0 b = kind ∧ q_I S 11 1 b = wheels ∧ q_I S 11 2 b = beasts ∧ q_I S 11 3 b = bits
theorem isTv.mv {S' : tk_S} {a q q2 b p p2 : Nat} {kd wh be bi : Int32} (h : isTv S b p p2 kd wh be bi) (f : rkF S S' a q q2) : isTv S' b p p2 kd wh be bi := by
  obtain ⟨h1, h2, ⟨h3, h4, h5, h6⟩, ⟨h7, h8, h9, h10⟩, h11, h12, h13, h14⟩ := h
  obtain ⟨⟨f1, f2, f3, f4, f5, f6, f7⟩, -, f9⟩ := f
  exact ⟨by rw [f1]; exact h1, by rw [f2]; exact h2, ⟨by rw [f4]; exact h3, by rw [f1]; exact h4, by rw [f2]; exact h5, by rw [f5]; exact h6⟩, ⟨by rw [f4]; exact h7, by rw [f1]; exact h8, by rw [f2]; exact h9, by rw [f5]; exact h10⟩, by rw [f9 _ _ _ (fun z => absurd z.1 (by decide))]; exact h11, by rw [f9 _ _ _ (fun z => absurd z.1 (by decide))]; exact h12, by rw [f9 _ _ _ (fun z => absurd z.1 (by decide))]; exact h13, by rw [f9 _ _ _ (fun z => absurd z.1 (by decide))]; exact h14⟩
/-- the facts of a pass -/
def factM (bits wheels beasts kind gate day last : Int32) (k : Nat) : Int32 := if k = 0 then bits &&& 1 else if k = 1 then bits >>> 1 &&& 1 else if k = 2 then bits >>> 2 &&& 1 else if k = 3 then bits >>> 3 &&& 1 else if k = 4 then (if last = day then 1 else 0) else if k = 5 then wheels else if k = 6 then beasts else if k = 7 then gate else if k = 8 then day - day / 365 * 365 else kind
theorem factsOf_M {b k : Nat} {g : Nat → Int32} {gate day last : Int32} (hk : k < 10) : factsOf S b g gate day last k = factM (q_I S 11 3 b) (q_I S 11 1 b) (q_I S 11 2 b) (q_I S 11 0 b) gate day last k := by
  have h0 : k = 0 ∨ k = 1 ∨ k = 2 ∨ k = 3 ∨ k = 4 ∨ k = 5 ∨ k = 6 ∨ k = 7 ∨ k = 8 ∨ k = 9 := by omega
  unfold factsOf factM upd
  rcases h0 with rfl | rfl | rfl | rfl | rfl | rfl | rfl | rfl | rfl | rfl <;> simp
theorem sOK_k {x : pS} (h : sOK x) : x.1 = 264 ∨ x.1 = 265 ∨ x.1 = 266 ∨ (x.1 = nI (267 + kOf x.1) ∧ kOf x.1 < 10) := by
  rcases h with rfl | rfl | rfl | ⟨k, hk, rfl⟩ | ⟨k, r, v, hk, -, rfl⟩ | ⟨v, rfl⟩
  · exact Or.inr (Or.inl rfl)
  · exact Or.inl rfl
  · exact Or.inr (Or.inr (Or.inl rfl))
  · right; right; right
    show nI (267 + k) = nI (267 + kOf (nI (267 + k))) ∧ kOf (nI (267 + k)) < 10
    rw [kOf_n (by omega)]
    exact ⟨rfl, by omega⟩
  · right; right; right
    show nI (272 + k) = nI (267 + kOf (nI (272 + k))) ∧ kOf (nI (272 + k)) < 10
    rw [show 272 + k = 267 + (5 + k) by omega, kOf_n (by omega)]
    exact ⟨rfl, by omega⟩
  · right; right; right
    show (276 : Int32) = nI (267 + kOf 276) ∧ kOf 276 < 10
    rw [show (276 : Int32) = nI (267 + 9) from rfl, kOf_n (by omega)]
    exact ⟨rfl, by omega⟩
theorem factI_ext {F G : Nat → Int32} (h : ∀ k, k < 10 → F k = G k) {x : pS} (hx : sOK x) (st : List Bool) : estep F st x = estep G st x := by
  unfold estep fI
  rcases sOK_k hx with h1 | h1 | h1 | ⟨h1, h2⟩
  · have n1 : x.1 ≠ 266 := by rw [h1]; decide
    simp only [if_neg n1, if_pos h1]
  · have n1 : x.1 ≠ 266 := by rw [h1]; decide
    have n2 : x.1 ≠ 264 := by rw [h1]; decide
    simp only [if_neg n1, if_neg n2, if_pos h1]
  · rw [if_pos h1, if_pos h1]
  · rw [h _ h2]
theorem fold_ext {F G : Nat → Int32} (h : ∀ k, k < 10 → F k = G k) : ∀ (c : List pS) (st : List Bool), (∀ x ∈ c, sOK x) → c.foldl (estep F) st = c.foldl (estep G) st := by
  intro c
  induction c with
  | nil => intro st _; rw [List.foldl_nil, List.foldl_nil]
  | cons x xs ih =>
    intro st hx
    have e := factI_ext h (hx x List.mem_cons_self) st
    have e2 := ih (estep G st x) (fun y hy => hx y (List.mem_cons_of_mem _ hy))
    rw [List.foldl_cons, List.foldl_cons, e]
    exact e2
theorem holdsM_ext {F G : Nat → Int32} (h : ∀ k, k < 10 → F k = G k) (c : List pS) (hc : ∀ x ∈ c, sOK x) : holdsM F c = holdsM G c := congrArg (fun l : List Bool => c.isEmpty || l.headD true) (fold_ext h c [] hc)
theorem holdsM_nil {F : Nat → Int32} : holdsM F [] = true := rfl
/-- a clause that stands in the pool holds as the model says -/
theorem m_holdsC {x st qf : Nat} {p : pC} (hd : 2 ≤ d) (hc : isCl S x st p) (hok : cOK p) (hn : p.2.2.2.2.length ≤ 700) (hf : qf ∈ q_L S) (hfk : q_K S qf = 15) (hfn : q_n S qf = 10)
    (h : QR (some (.int (if holdsM (q_aI S qf) p.2.2.2.2 = true then 1 else 0))) S) : tk_M Z mX3_holdsOf d mc ms [.ref x, .ref qf] S QR tk_noX := by
  obtain ⟨c1, c2, -, c4, c5, c6, c7, c8⟩ := hc
  refine m_holdsOf (kf := fun k => kOf (p.2.2.2.2.getD k (0, 0, 0)).1) (m := p.2.2.2.2.length) (w := fun k => (p.2.2.2.2.getD k (0, 0, 0)).1) (rel := fun k => (p.2.2.2.2.getD k (0, 0, 0)).2.1) (ag := fun k => (p.2.2.2.2.getD k (0, 0, 0)).2.2) hd c1 c2 c4 c5 c6 c7 hn hf hfk hfn (fun k hk => ?_) ?_
  · have e : p.2.2.2.2[k]? = some (p.2.2.2.2.getD k (0, 0, 0)) := by simp [List.getD, hk]
    obtain ⟨y1, y2, y3⟩ := c8 k _ e
    exact ⟨y1, y2, y3, sOK_k (hok.2.2.1 _ (List.mem_of_getElem? e))⟩
  · by_cases hm : p.2.2.2.2.length = 0
    · rw [if_pos hm]
      have hnil : p.2.2.2.2 = [] := List.length_eq_zero_iff.mp hm
      rw [hnil, holdsM_nil, if_pos rfl] at h
      exact h
    · rw [if_neg hm, bitsIn_fold (F := q_aI S qf) p.2.2.2.2 _ (Nat.le_refl _), List.take_length]
      have hne : p.2.2.2.2 ≠ [] := fun z => hm (by rw [z]; rfl)
      have hb := bits_hold (F := q_aI S qf) hne (hok.2.2.2.resolve_left hne)
      by_cases hh : holdsM (q_aI S qf) p.2.2.2.2 = true
      · rw [if_pos (hb.mpr hh)]
        rw [if_pos hh] at h
        exact h
      · rw [if_neg (fun z => hh (hb.mp z))]
        rw [if_neg hh] at h
        exact h
theorem charged_chg {a : Nat} {x y num v : Int32} (h : q_I S 9 0 a = 0) : q_I (charged S a x y num v) 9 0 a = (chg x y num v).1 ∧ q_I (charged S a x y num v) 9 1 a = (chg x y num v).2 := by
  unfold charged chg
  by_cases h1 : x = -1
  · rw [if_pos h1, if_pos h1]
    by_cases h2 : y = -1
    · rw [if_pos h2, if_pos h2]
      exact ⟨by simp -implicitDefEqProofs [z_q_L_s_I, z_q_K_s_I, z_q_I_s_I, z_q_J_s_I, z_q_R_s_I, z_q_n_s_I, z_q_aI_s_I, z_q_aJ_s_I, z_q_aR_s_I, z_q_L_s_J, z_q_K_s_J, z_q_I_s_J, z_q_J_s_J, z_q_R_s_J, z_q_n_s_J, z_q_aI_s_J, z_q_aJ_s_J, z_q_aR_s_J, z_q_L_s_R, z_q_K_s_R, z_q_I_s_R, z_q_J_s_R, z_q_R_s_R, z_q_n_s_R, z_q_aI_s_R, z_q_aJ_s_R, z_q_aR_s_R, z_q_L_s_aI, z_q_K_s_aI, z_q_I_s_aI, z_q_J_s_aI, z_q_R_s_aI, z_q_n_s_aI, z_q_aI_s_aI, z_q_aJ_s_aI, z_q_aR_s_aI, z_q_L_s_aJ, z_q_K_s_aJ, z_q_I_s_aJ, z_q_J_s_aJ, z_q_R_s_aJ, z_q_n_s_aJ, z_q_aI_s_aJ, z_q_aJ_s_aJ, z_q_aR_s_aJ, z_q_L_s_aR, z_q_K_s_aR, z_q_I_s_aR, z_q_J_s_aR, z_q_R_s_aR, z_q_n_s_aR, z_q_aI_s_aR, z_q_aJ_s_aR, z_q_aR_s_aR, z_q_L_s_new, z_q_K_s_new, z_q_I_s_new, z_q_J_s_new, z_q_R_s_new, z_q_n_s_new, z_q_aI_s_new, z_q_aJ_s_new, z_q_aR_s_new, z_q_L_s_arr, z_q_K_s_arr, z_q_I_s_arr, z_q_J_s_arr, z_q_R_s_arr, z_q_n_s_arr, z_q_aI_s_arr, z_q_aJ_s_arr, z_q_aR_s_arr], by simp -implicitDefEqProofs [z_q_L_s_I, z_q_K_s_I, z_q_I_s_I, z_q_J_s_I, z_q_R_s_I, z_q_n_s_I, z_q_aI_s_I, z_q_aJ_s_I, z_q_aR_s_I, z_q_L_s_J, z_q_K_s_J, z_q_I_s_J, z_q_J_s_J, z_q_R_s_J, z_q_n_s_J, z_q_aI_s_J, z_q_aJ_s_J, z_q_aR_s_J, z_q_L_s_R, z_q_K_s_R, z_q_I_s_R, z_q_J_s_R, z_q_R_s_R, z_q_n_s_R, z_q_aI_s_R, z_q_aJ_s_R, z_q_aR_s_R, z_q_L_s_aI, z_q_K_s_aI, z_q_I_s_aI, z_q_J_s_aI, z_q_R_s_aI, z_q_n_s_aI, z_q_aI_s_aI, z_q_aJ_s_aI, z_q_aR_s_aI, z_q_L_s_aJ, z_q_K_s_aJ, z_q_I_s_aJ, z_q_J_s_aJ, z_q_R_s_aJ, z_q_n_s_aJ, z_q_aI_s_aJ, z_q_aJ_s_aJ, z_q_aR_s_aJ, z_q_L_s_aR, z_q_K_s_aR, z_q_I_s_aR, z_q_J_s_aR, z_q_R_s_aR, z_q_n_s_aR, z_q_aI_s_aR, z_q_aJ_s_aR, z_q_aR_s_aR, z_q_L_s_new, z_q_K_s_new, z_q_I_s_new, z_q_J_s_new, z_q_R_s_new, z_q_n_s_new, z_q_aI_s_new, z_q_aJ_s_new, z_q_aR_s_new, z_q_L_s_arr, z_q_K_s_arr, z_q_I_s_arr, z_q_J_s_arr, z_q_R_s_arr, z_q_n_s_arr, z_q_aI_s_arr, z_q_aJ_s_arr, z_q_aR_s_arr]⟩
    · rw [if_neg h2, if_neg h2]
      exact ⟨by simp -implicitDefEqProofs [z_q_L_s_I, z_q_K_s_I, z_q_I_s_I, z_q_J_s_I, z_q_R_s_I, z_q_n_s_I, z_q_aI_s_I, z_q_aJ_s_I, z_q_aR_s_I, z_q_L_s_J, z_q_K_s_J, z_q_I_s_J, z_q_J_s_J, z_q_R_s_J, z_q_n_s_J, z_q_aI_s_J, z_q_aJ_s_J, z_q_aR_s_J, z_q_L_s_R, z_q_K_s_R, z_q_I_s_R, z_q_J_s_R, z_q_R_s_R, z_q_n_s_R, z_q_aI_s_R, z_q_aJ_s_R, z_q_aR_s_R, z_q_L_s_aI, z_q_K_s_aI, z_q_I_s_aI, z_q_J_s_aI, z_q_R_s_aI, z_q_n_s_aI, z_q_aI_s_aI, z_q_aJ_s_aI, z_q_aR_s_aI, z_q_L_s_aJ, z_q_K_s_aJ, z_q_I_s_aJ, z_q_J_s_aJ, z_q_R_s_aJ, z_q_n_s_aJ, z_q_aI_s_aJ, z_q_aJ_s_aJ, z_q_aR_s_aJ, z_q_L_s_aR, z_q_K_s_aR, z_q_I_s_aR, z_q_J_s_aR, z_q_R_s_aR, z_q_n_s_aR, z_q_aI_s_aR, z_q_aJ_s_aR, z_q_aR_s_aR, z_q_L_s_new, z_q_K_s_new, z_q_I_s_new, z_q_J_s_new, z_q_R_s_new, z_q_n_s_new, z_q_aI_s_new, z_q_aJ_s_new, z_q_aR_s_new, z_q_L_s_arr, z_q_K_s_arr, z_q_I_s_arr, z_q_J_s_arr, z_q_R_s_arr, z_q_n_s_arr, z_q_aI_s_arr, z_q_aJ_s_arr, z_q_aR_s_arr, h], by simp -implicitDefEqProofs [z_q_L_s_I, z_q_K_s_I, z_q_I_s_I, z_q_J_s_I, z_q_R_s_I, z_q_n_s_I, z_q_aI_s_I, z_q_aJ_s_I, z_q_aR_s_I, z_q_L_s_J, z_q_K_s_J, z_q_I_s_J, z_q_J_s_J, z_q_R_s_J, z_q_n_s_J, z_q_aI_s_J, z_q_aJ_s_J, z_q_aR_s_J, z_q_L_s_R, z_q_K_s_R, z_q_I_s_R, z_q_J_s_R, z_q_R_s_R, z_q_n_s_R, z_q_aI_s_R, z_q_aJ_s_R, z_q_aR_s_R, z_q_L_s_aI, z_q_K_s_aI, z_q_I_s_aI, z_q_J_s_aI, z_q_R_s_aI, z_q_n_s_aI, z_q_aI_s_aI, z_q_aJ_s_aI, z_q_aR_s_aI, z_q_L_s_aJ, z_q_K_s_aJ, z_q_I_s_aJ, z_q_J_s_aJ, z_q_R_s_aJ, z_q_n_s_aJ, z_q_aI_s_aJ, z_q_aJ_s_aJ, z_q_aR_s_aJ, z_q_L_s_aR, z_q_K_s_aR, z_q_I_s_aR, z_q_J_s_aR, z_q_R_s_aR, z_q_n_s_aR, z_q_aI_s_aR, z_q_aJ_s_aR, z_q_aR_s_aR, z_q_L_s_new, z_q_K_s_new, z_q_I_s_new, z_q_J_s_new, z_q_R_s_new, z_q_n_s_new, z_q_aI_s_new, z_q_aJ_s_new, z_q_aR_s_new, z_q_L_s_arr, z_q_K_s_arr, z_q_I_s_arr, z_q_J_s_arr, z_q_R_s_arr, z_q_n_s_arr, z_q_aI_s_arr, z_q_aJ_s_arr, z_q_aR_s_arr]⟩
  · rw [if_neg h1, if_neg h1]
    by_cases h2 : y = -1
    · rw [if_pos h2, if_pos h2]
      exact ⟨by simp -implicitDefEqProofs [z_q_L_s_I, z_q_K_s_I, z_q_I_s_I, z_q_J_s_I, z_q_R_s_I, z_q_n_s_I, z_q_aI_s_I, z_q_aJ_s_I, z_q_aR_s_I, z_q_L_s_J, z_q_K_s_J, z_q_I_s_J, z_q_J_s_J, z_q_R_s_J, z_q_n_s_J, z_q_aI_s_J, z_q_aJ_s_J, z_q_aR_s_J, z_q_L_s_R, z_q_K_s_R, z_q_I_s_R, z_q_J_s_R, z_q_R_s_R, z_q_n_s_R, z_q_aI_s_R, z_q_aJ_s_R, z_q_aR_s_R, z_q_L_s_aI, z_q_K_s_aI, z_q_I_s_aI, z_q_J_s_aI, z_q_R_s_aI, z_q_n_s_aI, z_q_aI_s_aI, z_q_aJ_s_aI, z_q_aR_s_aI, z_q_L_s_aJ, z_q_K_s_aJ, z_q_I_s_aJ, z_q_J_s_aJ, z_q_R_s_aJ, z_q_n_s_aJ, z_q_aI_s_aJ, z_q_aJ_s_aJ, z_q_aR_s_aJ, z_q_L_s_aR, z_q_K_s_aR, z_q_I_s_aR, z_q_J_s_aR, z_q_R_s_aR, z_q_n_s_aR, z_q_aI_s_aR, z_q_aJ_s_aR, z_q_aR_s_aR, z_q_L_s_new, z_q_K_s_new, z_q_I_s_new, z_q_J_s_new, z_q_R_s_new, z_q_n_s_new, z_q_aI_s_new, z_q_aJ_s_new, z_q_aR_s_new, z_q_L_s_arr, z_q_K_s_arr, z_q_I_s_arr, z_q_J_s_arr, z_q_R_s_arr, z_q_n_s_arr, z_q_aI_s_arr, z_q_aJ_s_arr, z_q_aR_s_arr, h], by simp -implicitDefEqProofs [z_q_L_s_I, z_q_K_s_I, z_q_I_s_I, z_q_J_s_I, z_q_R_s_I, z_q_n_s_I, z_q_aI_s_I, z_q_aJ_s_I, z_q_aR_s_I, z_q_L_s_J, z_q_K_s_J, z_q_I_s_J, z_q_J_s_J, z_q_R_s_J, z_q_n_s_J, z_q_aI_s_J, z_q_aJ_s_J, z_q_aR_s_J, z_q_L_s_R, z_q_K_s_R, z_q_I_s_R, z_q_J_s_R, z_q_R_s_R, z_q_n_s_R, z_q_aI_s_R, z_q_aJ_s_R, z_q_aR_s_R, z_q_L_s_aI, z_q_K_s_aI, z_q_I_s_aI, z_q_J_s_aI, z_q_R_s_aI, z_q_n_s_aI, z_q_aI_s_aI, z_q_aJ_s_aI, z_q_aR_s_aI, z_q_L_s_aJ, z_q_K_s_aJ, z_q_I_s_aJ, z_q_J_s_aJ, z_q_R_s_aJ, z_q_n_s_aJ, z_q_aI_s_aJ, z_q_aJ_s_aJ, z_q_aR_s_aJ, z_q_L_s_aR, z_q_K_s_aR, z_q_I_s_aR, z_q_J_s_aR, z_q_R_s_aR, z_q_n_s_aR, z_q_aI_s_aR, z_q_aJ_s_aR, z_q_aR_s_aR, z_q_L_s_new, z_q_K_s_new, z_q_I_s_new, z_q_J_s_new, z_q_R_s_new, z_q_n_s_new, z_q_aI_s_new, z_q_aJ_s_new, z_q_aR_s_new, z_q_L_s_arr, z_q_K_s_arr, z_q_I_s_arr, z_q_J_s_arr, z_q_R_s_arr, z_q_n_s_arr, z_q_aI_s_arr, z_q_aJ_s_arr, z_q_aR_s_arr]⟩
    · rw [if_neg h2, if_neg h2]
      exact ⟨by simp -implicitDefEqProofs [z_q_L_s_I, z_q_K_s_I, z_q_I_s_I, z_q_J_s_I, z_q_R_s_I, z_q_n_s_I, z_q_aI_s_I, z_q_aJ_s_I, z_q_aR_s_I, z_q_L_s_J, z_q_K_s_J, z_q_I_s_J, z_q_J_s_J, z_q_R_s_J, z_q_n_s_J, z_q_aI_s_J, z_q_aJ_s_J, z_q_aR_s_J, z_q_L_s_R, z_q_K_s_R, z_q_I_s_R, z_q_J_s_R, z_q_R_s_R, z_q_n_s_R, z_q_aI_s_R, z_q_aJ_s_R, z_q_aR_s_R, z_q_L_s_aI, z_q_K_s_aI, z_q_I_s_aI, z_q_J_s_aI, z_q_R_s_aI, z_q_n_s_aI, z_q_aI_s_aI, z_q_aJ_s_aI, z_q_aR_s_aI, z_q_L_s_aJ, z_q_K_s_aJ, z_q_I_s_aJ, z_q_J_s_aJ, z_q_R_s_aJ, z_q_n_s_aJ, z_q_aI_s_aJ, z_q_aJ_s_aJ, z_q_aR_s_aJ, z_q_L_s_aR, z_q_K_s_aR, z_q_I_s_aR, z_q_J_s_aR, z_q_R_s_aR, z_q_n_s_aR, z_q_aI_s_aR, z_q_aJ_s_aR, z_q_aR_s_aR, z_q_L_s_new, z_q_K_s_new, z_q_I_s_new, z_q_J_s_new, z_q_R_s_new, z_q_n_s_new, z_q_aI_s_new, z_q_aJ_s_new, z_q_aR_s_new, z_q_L_s_arr, z_q_K_s_arr, z_q_I_s_arr, z_q_J_s_arr, z_q_R_s_arr, z_q_n_s_arr, z_q_aI_s_arr, z_q_aJ_s_arr, z_q_aR_s_arr, h], by simp -implicitDefEqProofs [z_q_L_s_I, z_q_K_s_I, z_q_I_s_I, z_q_J_s_I, z_q_R_s_I, z_q_n_s_I, z_q_aI_s_I, z_q_aJ_s_I, z_q_aR_s_I, z_q_L_s_J, z_q_K_s_J, z_q_I_s_J, z_q_J_s_J, z_q_R_s_J, z_q_n_s_J, z_q_aI_s_J, z_q_aJ_s_J, z_q_aR_s_J, z_q_L_s_R, z_q_K_s_R, z_q_I_s_R, z_q_J_s_R, z_q_R_s_R, z_q_n_s_R, z_q_aI_s_R, z_q_aJ_s_R, z_q_aR_s_R, z_q_L_s_aI, z_q_K_s_aI, z_q_I_s_aI, z_q_J_s_aI, z_q_R_s_aI, z_q_n_s_aI, z_q_aI_s_aI, z_q_aJ_s_aI, z_q_aR_s_aI, z_q_L_s_aJ, z_q_K_s_aJ, z_q_I_s_aJ, z_q_J_s_aJ, z_q_R_s_aJ, z_q_n_s_aJ, z_q_aI_s_aJ, z_q_aJ_s_aJ, z_q_aR_s_aJ, z_q_L_s_aR, z_q_K_s_aR, z_q_I_s_aR, z_q_J_s_aR, z_q_R_s_aR, z_q_n_s_aR, z_q_aI_s_aR, z_q_aJ_s_aR, z_q_aR_s_aR, z_q_L_s_new, z_q_K_s_new, z_q_I_s_new, z_q_J_s_new, z_q_R_s_new, z_q_n_s_new, z_q_aI_s_new, z_q_aJ_s_new, z_q_aR_s_new, z_q_L_s_arr, z_q_K_s_arr, z_q_I_s_arr, z_q_J_s_arr, z_q_R_s_arr, z_q_n_s_arr, z_q_aI_s_arr, z_q_aJ_s_arr, z_q_aR_s_arr]⟩
theorem charged_F {a q q2 : Nat} {x y num v : Int32} : rkF S (charged S a x y num v) a q q2 := by
  unfold charged
  by_cases h1 : x = -1
  · rw [if_pos h1]
    by_cases h2 : y = -1
    · rw [if_pos h2]; exact rkF.put.trans rkF.put
    · rw [if_neg h2]; exact rkF.put
  · rw [if_neg h1]
    by_cases h2 : y = -1
    · rw [if_pos h2]; exact rkF.put
    · rw [if_neg h2]; exact rkF.put
end RECKON

/-! THE REFERENCE READS CONDITIONS: what its numbers are behind a reading -/
section RPAR
variable {Z : tk_Z} {d mc ms : Nat} {S : tk_S} {QR : tk_R} {ρ : Nat → Nat} {m len : Nat} {g : Nat → Int32} {B : bS} {R : Nat → Nat} {V V1 V2 : vR}
/-- how the reference tells a step -/
def cdS (x : pS) : Int32 × Int32 := if x.1 = 265 then (0, 0) else if x.1 = 264 then (1, 0) else if x.1 = 266 then (2, 0) else if x.1 = 267 then (3, 1) else if x.1 = 268 then (3, 2) else if x.1 = 269 then (3, 4) else if x.1 = 270 then (3, 8) else if x.1 = 271 then (8, 0) else if x.1 = 276 then (22, x.2.2) else ((if x.1 = 272 then 10 else if x.1 = 273 then 13 else if x.1 = 274 then 16 else 19) + (if x.2.1 = 61 then 0 else if x.2.1 = 60 then 1 else 2), x.2.2)
def cdIn (V : vR) (k : Nat) (c : List pS) : Prop := ∀ j x, c[j]? = some x → vA V 15 (k + j) = (cdS x).1 ∧ vA V 16 (k + j) = (cdS x).2
/-- what a reading leaves alone -/
def pF (V V' : vR) (k : Nat) : Prop := (∀ i, i ≠ 4 → i ≠ 5 → i ≠ 6 → i ≠ 7 → i ≠ 17 → vI V' i = vI V i) ∧ vJ V' = vJ V ∧ (∀ i, i ≠ 15 → i ≠ 16 → vA V' i = vA V i) ∧ vL V' = vL V ∧ ∀ j, j < k → vA V' 15 j = vA V 15 j ∧ vA V' 16 j = vA V 16 j
theorem pF.trans {k k' : Nat} (h : pF V V1 k) (h2 : pF V1 V2 k') (hk : k ≤ k') : pF V V2 k := ⟨fun i a b c d e => (h2.1 i a b c d e).trans (h.1 i a b c d e), h2.2.1.trans h.2.1, fun i a b => (h2.2.2.1 i a b).trans (h.2.2.1 i a b), h2.2.2.2.1.trans h.2.2.2.1, fun j hj => ⟨(h2.2.2.2.2 j (by omega)).1.trans (h.2.2.2.2 j hj).1, (h2.2.2.2.2 j (by omega)).2.trans (h.2.2.2.2 j hj).2⟩⟩
theorem pF.rfl' {k : Nat} : pF V V k := ⟨fun _ _ _ _ _ _ => rfl, rfl, fun _ _ _ => rfl, rfl, fun _ _ => ⟨rfl, rfl⟩⟩
theorem pF.ofI {k i : Nat} {v : Int32} (hi : i = 4 ∨ i = 5 ∨ i = 6 ∨ i = 7 ∨ i = 17) : pF V (wI V i v) k := ⟨fun j a b c d e => by
  rw [vI_wI, if_neg (by rcases hi with rfl | rfl | rfl | rfl | rfl <;> assumption)], rfl, fun _ _ _ => rfl, rfl, fun _ _ => ⟨rfl, rfl⟩⟩
theorem pF.em {k n : Nat} {c v : Int32} {f1 f2 : Nat → Int32} (hk : k ≤ n) (hf : ∀ j, j < n → f1 j = vA V 15 j ∧ f2 j = vA V 16 j) : pF V (emV V n c v f1 f2) k := by
  refine ⟨fun i a b c d e => ?_, rfl, fun i a b => ?_, rfl, fun j hj => ?_⟩
  · simp [emV, vI_wI, vI_wA, e]
  · simp [emV, vA_wI, vA_wA, a, b]
  · have z : j ≠ n := by omega
    simp [emV, vA_wI, vA_wA, upd, z]
    exact hf j (by omega)
/-- how many steps are told -/
def jn : pR → Nat
  | .inl (_, c) => c.length
  | .inr (_, _, j) => j
/-- what a reading leaves -/
def rdR (g : Nat → Int32) (len : Nat) (V V' : vR) (k : Nat) : pR → Prop
  | .inl (s', c) => pF V V' k ∧ vI V' 5 = 0 ∧ vI V' 6 = vI V 6 ∧ vI V' 7 = vI V 7 ∧ (∃ p, p ≤ len ∧ vI V' 4 = nI p ∧ tkStart g len p = s') ∧ vI V' 17 = nI (k + c.length) ∧ cdIn V' k c
  | .inr (kd, pl, j) => pF V V' k ∧ vI V' 5 = kd ∧ (kd = 1 ∨ kd = 2 ∨ kd = 3) ∧ vI V' 6 = nI pl ∧ vI V' 17 = nI (k + j) ∧ ∃ p, p ≤ len ∧ vI V' 4 = nI p
theorem cdIn.mono {k n : Nat} {c : List pS} (h : cdIn V k c) (h2 : ∀ j, j < n → vA V1 15 j = vA V 15 j ∧ vA V1 16 j = vA V 16 j) (hn : k + c.length ≤ n) : cdIn V1 k c := fun j x hx => by
  have hj := (List.getElem?_eq_some_iff.mp hx).1
  obtain ⟨a, b⟩ := h2 (k + j) (by omega)
  rw [a, b]
  exact h j x hx
theorem cdIn.app {k : Nat} {c c2 : List pS} (h : cdIn V k c) (h2 : cdIn V (k + c.length) c2) : cdIn V k (c ++ c2) := fun j x hx => by
  rcases Nat.lt_or_ge j c.length with q | q
  · rw [List.getElem?_append_left q] at hx
    exact h j x hx
  · rw [List.getElem?_append_right q] at hx
    have := h2 (j - c.length) x hx
    rw [show k + c.length + (j - c.length) = k + j by omega] at this
    exact this
theorem rdR.step {k p s1 s2 : Nat} {q : Int32} {c1 c2 : List pS} (h : rdR g len V V1 k (.inl (s1, c1))) (h2 : rdR g len (wI V1 4 q) V2 (k + c1.length) (.inl (s2, c2))) : rdR g len V V2 k (.inl (s2, c1 ++ c2)) := by
  obtain ⟨a1, a2, a3, a4, a5, a6, a7⟩ := h
  obtain ⟨b1, b2, b3, b4, b5, b6, b7⟩ := h2
  refine ⟨a1.trans ((pF.ofI (k := k + c1.length) (Or.inl rfl)).trans b1 (Nat.le_refl _)) (by omega), b2, b3.trans a3, b4.trans a4, b5, ?_, ?_⟩
  · rw [b6, List.length_append, Nat.add_assoc]
  · exact (a7.mono b1.2.2.2.2 (Nat.le_refl _)).app b7
theorem rdR.stepF {k pl j s1 : Nat} {q kd : Int32} {c1 : List pS} (h : rdR g len V V1 k (.inl (s1, c1))) (h2 : rdR g len (wI V1 4 q) V2 (k + c1.length) (.inr (kd, pl, j))) : rdR g len V V2 k (.inr (kd, pl, c1.length + j)) := by
  obtain ⟨a1, a2, a3, a4, a5, a6, a7⟩ := h
  obtain ⟨b1, b2, b3, b4, b5, b6⟩ := h2
  exact ⟨a1.trans ((pF.ofI (k := k + c1.length) (Or.inl rfl)).trans b1 (Nat.le_refl _)) (by omega), b2, b3, b4, by rw [b5, Nat.add_assoc], b6⟩
theorem rdR.emit {k n s1 : Nat} {c v : Int32} {x : pS} {c1 : List pS} {f1 f2 : Nat → Int32} (h : rdR g len V V1 k (.inl (s1, c1))) (hn : n = k + c1.length) (hf : ∀ j, j < n → f1 j = vA V1 15 j ∧ f2 j = vA V1 16 j) (hx : cdS x = (c, v)) : rdR g len V (emV V1 n c v f1 f2) k (.inl (s1, c1 ++ [x])) := by
  obtain ⟨a1, a2, a3, a4, a5, a6, a7⟩ := h
  have e := pF.em (V := V1) (k := n) (c := c) (v := v) (Nat.le_refl n) hf
  refine ⟨a1.trans e (by omega), ?_, ?_, ?_, ?_, ?_, ?_⟩
  · simpa [emV, vI_wI, vI_wA] using a2
  · simpa [emV, vI_wI, vI_wA] using a3
  · simpa [emV, vI_wI, vI_wA] using a4
  · simpa [emV, vI_wI, vI_wA] using a5
  · simp [emV, vI_wI, vI_wA, hn, Nat.add_assoc]
  · refine (a7.mono e.2.2.2.2 (by omega)).app (fun j y hy => ?_)
    rcases Nat.eq_zero_or_pos j with rfl | q
    · simp at hy
      subst hy
      simp [emV, vA_wI, vA_wA, upd, ← hn, hx]
    · rw [List.getElem?_eq_none (by simp; omega)] at hy
      cases hy
theorem rdR.emitF {k n pl j : Nat} {c v kd : Int32} {f1 f2 : Nat → Int32} (h : rdR g len V V1 k (.inr (kd, pl, j))) (hn : n = k + j) (hf : ∀ j, j < n → f1 j = vA V1 15 j ∧ f2 j = vA V1 16 j) : rdR g len V (emV V1 n c v f1 f2) k (.inr (kd, pl, j + 1)) := by
  obtain ⟨b1, b2, b3, b4, b5, b6⟩ := h
  have e := pF.em (V := V1) (k := n) (c := c) (v := v) (Nat.le_refl n) hf
  refine ⟨b1.trans e (by omega), ?_, b3, ?_, ?_, ?_⟩
  · simpa [emV, vI_wI, vI_wA] using b2
  · simpa [emV, vI_wI, vI_wA] using b4
  · simp [emV, vI_wI, vI_wA, hn, Nat.add_assoc]
  · simpa [emV, vI_wI, vI_wA] using b6
theorem rdR.nil {k p : Nat} (hp : p ≤ len) (hf : vI V 5 = 0) (hk : vI V 17 = nI k) : rdR g len V (wI V 4 (nI p)) k (.inl (tkStart g len p, [])) := ⟨pF.ofI (Or.inl rfl), by simpa [vI_wI] using hf, by simp [vI_wI], by simp [vI_wI], ⟨p, hp, by simp [vI_wI], rfl⟩, by simpa [vI_wI] using hk, fun j x hx => by simp at hx⟩
theorem rdR.flt {k p pl : Nat} {kd : Int32} (hp : p ≤ len) (hkd : kd = 1 ∨ kd = 2 ∨ kd = 3) (hk : vI V 17 = nI k) : rdR g len V (wI (wI (wI V 4 (nI p)) 5 kd) 6 (nI pl)) k (.inr (kd, pl, 0)) := ⟨(pF.ofI (k := k) (Or.inl rfl)).trans ((pF.ofI (k := k) (Or.inr (Or.inl rfl))).trans (pF.ofI (Or.inr (Or.inr (Or.inl rfl)))) (Nat.le_refl _)) (Nat.le_refl _), by simp [vI_wI], hkd, by simp [vI_wI], by simpa [vI_wI] using hk, p, hp, by simp [vI_wI]⟩
theorem skipB_stop (g : Nat → Int32) {m s : Nat} (h : m = 0 ∨ ¬ (g s &&& 255 = 32 ∨ g s &&& 255 = 10)) : skipB g len m s = s := by
  cases m with
  | zero => rfl
  | succ m =>
    rw [skipB, if_neg (h.resolve_left (by omega))]
/-- behind the blanks there are none -/
theorem tkStart_idem {p : Nat} (hp : p ≤ len) : tkStart g len (tkStart g len p) = tkStart g len p := by
  have h := skipB_spec g len (len - p) p
  have e : skipB g len (len - p) p = tkStart g len p := rfl
  rw [e] at h
  refine skipB_stop g ?_
  rcases Nat.lt_or_ge (tkStart g len p) len with q | q
  · exact Or.inr (h.2.2.2 (by omega))
  · exact Or.inl (by omega)
/-- what reading asks of the numbers -/
def rdV (V : vR) (len : Nat) (g : Nat → Int32) (p : Nat) : Prop := vA V 1 = g ∧ vI V 3 = nI len ∧ len ≤ 2000 ∧ vI V 4 = nI p ∧ p ≤ len ∧ vI V 5 = 0
theorem RS.rP {T : nT} (h : RS B m ρ S T R V) (ht : T 1 = some (14, 2000)) (h3 : vI V 3 = nI len) (hl : len ≤ 2000) (hg : vA V 1 = g) : rP S m (R 1) len g := by
  obtain ⟨a1, a2, a3, a4, -⟩ := h.1.2 1 _ _ ht
  exact ⟨h.1.1.1, h.1.1.2.1, ⟨a1, a2, a3, a4⟩, (h.2.1.1 3).trans h3, hl, (h.2.1.2.2.1 1 _ _ ht (by decide)).trans hg⟩
theorem pF.at1 {k : Nat} (h : pF V V1 k) : vA V1 1 = vA V 1 ∧ vI V1 3 = vI V 3 := ⟨h.2.2.1 1 (by decide) (by decide), h.1 3 (by decide) (by decide) (by decide) (by decide) (by decide)⟩
theorem rdR.next {k p s1 : Nat} {c1 : List pS} (h : rdR g len V V1 k (.inl (s1, c1))) (hv : rdV V len g p) : ∃ p', rdV V1 len g p' ∧ tkStart g len p' = s1 := by
  obtain ⟨a1, a2, a3, a4, ⟨p', a5, a6, a8⟩, a9, a7⟩ := h
  obtain ⟨b1, b2, b3, b4, b5, b6⟩ := hv
  obtain ⟨e1, e2⟩ := a1.at1
  exact ⟨p', ⟨e1.trans b1, e2.trans b2, b3, a6, a5, a2⟩, a8⟩
theorem rdV.at4 {p q : Nat} (hv : rdV V len g p) (hq : q ≤ len) : rdV (wI V 4 (nI q)) len g q := by
  obtain ⟨b1, b2, b3, b4, b5, b6⟩ := hv
  exact ⟨b1, by simpa [vI_wI] using b2, b3, by simp [vI_wI], hq, by simpa [vI_wI] using b6⟩
theorem rdV.at7 {p : Nat} {x : Int32} (hv : rdV V len g p) : rdV (wI V 7 x) len g p := by
  obtain ⟨b1, b2, b3, b4, b5, b6⟩ := hv
  exact ⟨b1, by simpa [vI_wI] using b2, b3, by simpa [vI_wI] using b4, b5, by simpa [vI_wI] using b6⟩
/-- how far the room for steps grows -/
def gS (hw n : Nat) : Nat := lv 400 (max hw n) - lv 400 hw
theorem gS_add {hw a b : Nat} (h : a ≤ b) : gS hw a + gS (max hw a) b = gS hw b ∧ max (max hw a) b = max hw b := by
  have e : max (max hw a) b = max hw b := by omega
  have h1 : lv 400 hw ≤ lv 400 (max hw a) := lv_mono (by omega)
  have h2 : lv 400 (max hw a) ≤ lv 400 (max hw b) := lv_mono (by omega)
  unfold gS
  rw [e]
  exact ⟨by omega, rfl⟩
end RPAR

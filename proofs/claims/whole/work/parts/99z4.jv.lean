/-! THE MODEL'S JOURNAL: its days, what the box held -/
section BNDJ
variable {M : Mt} {td : Nat} {J : mJ}
def sJ (js : Nat → Int64) : Nat → Int64
  | 0 => 0
  | n + 1 => sJ js n + js n
def jOK (td : Nat) (J : mJ) : Prop := (∀ t, t < J.1 → J.2.2.1 t ≤ nI td) ∧ (∀ s t, s ≤ t → t < J.1 → J.2.2.1 s ≤ J.2.2.1 t) ∧ (∀ t, t < J.1 → J.2.2.2.2.2.2 t = sJ J.2.2.2.2.2.1 (t + 1)) ∧ J.2.1 = sJ J.2.2.2.2.2.1 J.1
theorem sJ_ext {f g : Nat → Int64} : ∀ n, (∀ t, t < n → f t = g t) → sJ f n = sJ g n := by
  intro n
  induction n with
  | zero => intro _; rfl
  | succ n ih => intro h; rw [sJ, sJ, ih (fun t ht => h t (by omega)), h n (by omega)]
theorem jOK.mono {td' : Nat} (h : jOK td J) (h1 : td ≤ td') (h2 : td' < 2 ^ 31) : jOK td' J := ⟨fun t ht => Int32.le_trans (h.1 t ht) (nI_le h1 h2), h.2⟩
theorem jOK.line {b w : Int32} {v : Int64} (h : jOK td J) : jOK td (lineM J (nI td) b w v) := by
  obtain ⟨h1, h2, h3, h4⟩ := h
  have d0 : upd J.2.2.1 J.1 (nI td) J.1 = nI td := if_pos rfl
  have dn : ∀ t, t < J.1 → upd J.2.2.1 J.1 (nI td) t = J.2.2.1 t := fun t ht => if_neg (by omega)
  have s0 : vp_updL J.2.2.2.2.2.1 J.1 v J.1 = v := if_pos rfl
  have sn : ∀ t, t < J.1 → vp_updL J.2.2.2.2.2.1 J.1 v t = J.2.2.2.2.2.1 t := fun t ht => if_neg (by omega)
  have es : ∀ n, n ≤ J.1 → sJ (vp_updL J.2.2.2.2.2.1 J.1 v) n = sJ J.2.2.2.2.2.1 n := fun n hn => sJ_ext n (fun t ht => sn t (by omega))
  refine ⟨fun t ht => ?_, fun s t hst ht => ?_, fun t ht => ?_, ?_⟩
  · show upd J.2.2.1 J.1 (nI td) t ≤ nI td
    have ht : t < J.1 + 1 := ht
    by_cases e : t = J.1
    · rw [e, d0]; exact Int32.le_refl _
    · rw [dn t (by omega)]; exact h1 t (by omega)
  · show upd J.2.2.1 J.1 (nI td) s ≤ upd J.2.2.1 J.1 (nI td) t
    have ht : t < J.1 + 1 := ht
    by_cases e : t = J.1
    · rw [e, d0]
      by_cases e2 : s = J.1
      · rw [e2, d0]; exact Int32.le_refl _
      · rw [dn s (by omega)]; exact h1 s (by omega)
    · rw [dn t (by omega), dn s (by omega)]
      exact h2 s t hst (by omega)
  · show vp_updL J.2.2.2.2.2.2 J.1 (J.2.1 + v) t = sJ (vp_updL J.2.2.2.2.2.1 J.1 v) (t + 1)
    have ht : t < J.1 + 1 := ht
    by_cases e : t = J.1
    · have e1 : vp_updL J.2.2.2.2.2.2 J.1 (J.2.1 + v) t = J.2.1 + v := if_pos e
      rw [e1, sJ, e, s0, es J.1 (Nat.le_refl _), h4]
    · have e1 : vp_updL J.2.2.2.2.2.2 J.1 (J.2.1 + v) t = J.2.2.2.2.2.2 t := if_neg e
      rw [e1, es (t + 1) (by omega)]
      exact h3 t (by omega)
  · show J.2.1 + v = sJ (vp_updL J.2.2.2.2.2.1 J.1 v) (J.1 + 1)
    rw [sJ, s0, es J.1 (Nat.le_refl _), h4]
theorem held_eq {jd : Nat → Int32} {jh js : Nat → Int64} {i : Int32} : ∀ n, (∀ s t, s ≤ t → t < n → jd s ≤ jd t) → (∀ t, t < n → jh t = sJ js (t + 1)) → heldIn jd jh i n = bxM jd js i n := by
  have full : ∀ n, (∀ t, t < n → jd t ≤ i) → bxM jd js i n = sJ js n := by
    intro n
    induction n with
    | zero => intro _; rfl
    | succ n ih =>
      intro h
      rw [bxM, sJ, ih (fun t ht => h t (by omega)), if_neg (Int32.not_lt.mpr (h n (by omega)))]
  intro n
  induction n with
  | zero => intro _ _; rfl
  | succ n ih =>
    intro h1 h2
    rw [heldIn]
    by_cases w : i < jd n
    · rw [if_pos w, bxM, if_pos w, Int64.add_zero]
      exact ih (fun s t hst ht => h1 s t hst (by omega)) (fun t ht => h2 t (by omega))
    · rw [if_neg w, h2 n (by omega)]
      exact (full (n + 1) (fun t ht => Int32.le_trans (h1 t n (by omega) (by omega)) (Int32.not_lt.mp w))).symm
theorem box_eq {i : Int32} (h : jOK td J) : (if i < nI td then heldIn J.2.2.1 J.2.2.2.2.2.2 i J.1 else J.2.1) = bxM J.2.2.1 J.2.2.2.2.2.1 i J.1 := by
  obtain ⟨h1, h2, h3, h4⟩ := h
  have hh := held_eq (i := i) J.1 h2 h3
  by_cases w : i < nI td
  · rw [if_pos w, hh]
  · rw [if_neg w, h4]
    have w1 := Int32.not_lt.mp w
    have full : ∀ n, n ≤ J.1 → bxM J.2.2.1 J.2.2.2.2.2.1 i n = sJ J.2.2.2.2.2.1 n := by
      intro n
      induction n with
      | zero => intro _; rfl
      | succ n ih =>
        intro hn
        rw [bxM, sJ, ih (by omega), if_neg (Int32.not_lt.mpr (Int32.le_trans (h1 n (by omega)) w1))]
    exact (full J.1 (Nat.le_refl _)).symm
theorem payM_P {P : mJ → Prop} {rk : Nat → Int32} {r : Int32} {g : Nat → Int64} (hP : ∀ J b w v, P J → P (lineM J (nI td) b w v)) : ∀ m i (k : mI), P k.2 → P (payM td rk r g m i k).2 := by
  intro m
  induction m with
  | zero => intro i k h; exact h
  | succ m ih =>
    intro i k h
    rw [payM]
    refine ih (i + 1) _ ?_
    split
    · exact hP _ _ _ _ h
    · exact h
theorem ranksM_P {P : mJ → Prop} {rk : Nat → Int32} {n : Nat} (hP : ∀ J b w v, P J → P (lineM J (nI td) b w v)) (k : mI) (h : P k.2) : ∀ m, P (ranksM td n rk m k).2 := by
  intro m
  induction m with
  | zero => exact h
  | succ m ih => exact payM_P hP n 0 _ ih
theorem keepM_P {P : mJ → Prop} {re su : Nat → Int32} {i f : Nat} (hP : ∀ J b w v, P J → P (lineM J (nI td) b w v)) (k : mK) (h : P k.2.2.2.2) : P (keepM td re su i f k).2.2.2.2 := by
  unfold keepM
  split
  · exact h
  · split
    · exact hP _ _ _ _ h
    · exact hP _ _ _ _ h
theorem gatesM_P {P : mJ → Prop} {re su : Nat → Int32} (hP : ∀ J b w v, P J → P (lineM J (nI td) b w v)) : ∀ m i (k : mK), P k.2.2.2.2 → P (gatesM td re su m i k).2.2.2.2 := by
  intro m
  induction m with
  | zero => intro i k h; exact h
  | succ m ih =>
    intro i k h
    rw [gatesM]
    refine ih (i + 1) _ ?_
    unfold gateM
    split
    · exact h
    · split
      · exact keepM_P hP k h
      · exact h
def JV (M : Mt) : Prop := jOK M.2.2.2.2.2.2.2.2.1 M.2.2.2.2.2.2.2.1
theorem JV.day (h : JV M) (ht : M.2.2.2.2.2.2.2.2.1 + 1 ≤ 9999) : JV (dayM M) := by
  have h : jOK (M.2.2.2.2.2.2.2.2.1 + 1) M.2.2.2.2.2.2.2.1 := h.mono (Nat.le_succ _) (by omega)
  have hP : ∀ (J : mJ) (b w : Int32) (v : Int64), jOK (M.2.2.2.2.2.2.2.2.1 + 1) J → jOK (M.2.2.2.2.2.2.2.2.1 + 1) (lineM J (nI (M.2.2.2.2.2.2.2.2.1 + 1)) b w v) := fun J b w v h => h.line
  show jOK (M.2.2.2.2.2.2.2.2.1 + 1) (movN M).2.2.2.2.2
  unfold movN moveM movW
  dsimp only
  split
  · exact gatesM_P hP _ _ _ (ranksM_P hP _ h 4)
  · exact gatesM_P hP _ _ _ h
theorem JV.days (h : JV M) : ∀ n, M.2.2.2.2.2.2.2.2.1 + n ≤ 9999 → JV (daysM n M) := by
  intro n
  induction n with
  | zero => intro _; exact h
  | succ n ih =>
    intro hn
    have e := daysM_td n M
    exact (ih (by omega)).day (by omega)
theorem JV.mend (h : JV M) : ∀ n k, JV (mendM n k M).2 := by
  intro n
  induction n generalizing M with
  | zero => intro k; exact h
  | succ n ih =>
    intro k
    rw [mendM]
    split
    · exact h
    · split
      · exact h
      · rename_i b _ _
        refine ih (M := loadM M b) ?_ (k + 1)
        exact jOK.line (J := M.2.2.2.2.2.2.2.1) (td := M.2.2.2.2.2.2.2.2.1) h
theorem JV.let {j k n : Nat} (h : JV M) : JV (letM M j k n) := by
  have hP : ∀ (J : mJ) (b w : Int32) (v : Int64), jOK M.2.2.2.2.2.2.2.2.1 J → jOK M.2.2.2.2.2.2.2.2.1 (lineM J (nI M.2.2.2.2.2.2.2.2.1) b w v) := fun J b w v h => h.line
  show jOK M.2.2.2.2.2.2.2.2.1 (letM M j k n).2.2.2.2.2.2.2.1
  unfold letM
  dsimp only
  exact keepM_P hP _ h
theorem JV.pass {t g : Nat} (h : JV M) : JV (passM M t g) := by
  unfold passM
  dsimp only
  generalize passPay M t g = r
  show jOK M.2.2.2.2.2.2.2.2.1 (match M.2.2.2.1.2.2.2.1 g with
  | none => if 0 < r.1 then lineM M.2.2.2.2.2.2.2.1 (nI M.2.2.2.2.2.2.2.2.1) 0 (nI t) r.1.toInt64 else M.2.2.2.2.2.2.2.1
  | some _ => M.2.2.2.2.2.2.2.1)
  split
  · split
    · exact jOK.line h
    · exact h
  · exact h
theorem JV.new : JV M0 := ⟨fun t ht => absurd ht (Nat.not_lt_zero _), fun s t _ ht => absurd ht (Nat.not_lt_zero _), fun t ht => absurd ht (Nat.not_lt_zero _), rfl⟩
end BNDJ

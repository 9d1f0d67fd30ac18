/-! INSTRUCTIONS as predicate transformers over the pool (i_..), and a rule each over the kit's rows (s_..). A state: locals, operand stack, pool, cells and slots made so far. -/
abbrev tk_K : Type := List (Option Value) → List Value → tk_S → Nat → Nat → Prop
abbrev tk_E : Type := Nat → tk_K
abbrev tk_X : Type := Program × Launch × Env × Room × State × MethodId × Array Value × List Frame × Method × Code × va_G × (Nat → ClassId) × tk_V × (Nat → Prop) × (State → Prop)
def tk_HL (la : Array Slot) (nL : Nat) (ls : List (Option Value)) : Prop := la.size = nL ∧ lv_wf la ∧ ls.length = nL ∧ ∀ (i : Nat) (v : Value), ls[i]? = some (some v) → la[i]? = some (.val v)
def tk_W (X : tk_X) (nL : Nat) : tk_E := fun pc ls st S cs ss => match X with
  | (p, l, e, R, s, m, args, below, meth, c, D, Y, _, A, Q) => ∀ (H : Heap) (locs : List Loc) (la : Array Slot), va_P D vwCl (tk_pl Y S) H → va_D A (tk_pl Y S) → va_S A s.heap H locs → tk_HL la nL ls → W p l e R s m args below meth c H locs cs ss Q (F0 m pc la st)
def tk_C (X : tk_X) (cc : ByteArray) (nL : Nat) (own : String) (Ts : List Cond) : Prop := match X with
  | (p, _, _, _, s, m, args, _, meth, c, D, Y, V, A, _) => p.tables.exec = Jvm.exec ∧ c.code = cc ∧ c.maxLocals = nL ∧ s.vm.findClass own = some m.cls ∧ (∀ w ∈ Ts, w.before args s = true) ∧ va_K D vwCl (tk_tys Y) s ∧ (∀ q : Nat, s.heap.size ≤ q → A q) ∧ meth.locks = false ∧ tk_O V A s s.heap
/-- null or a cell -/
def tk_isR (v : Value) : Prop := v = .null ∨ ∃ a, v = .ref a
theorem tk_isR_rf (r : Option Nat) : tk_isR (va_rf r) := va_rf_or r
theorem tk_isR_ref (a : Nat) : tk_isR (.ref a) := Or.inr ⟨a, rfl⟩
theorem tk_isR_null : tk_isR .null := Or.inl rfl
/-- what the local before place i is: no long -/
def tk_c2 (ls : List (Option Value)) (i : Nat) : Bool := i == 0 || (match ls.getD (i - 1) none with | some v => v.category == 1 | none => true)
def tk_prs (ls : List (Option Value)) : List (Nat × Value) := (List.range ls.length).filterMap (fun i => match ls.getD i none with | some v => some (i, v) | none => none)
theorem tk_prs_mem {ls : List (Option Value)} {i : Nat} {v : Value} : (i, v) ∈ tk_prs ls ↔ ls[i]? = some (some v) := by
  unfold tk_prs
  rw [List.mem_filterMap]
  constructor
  · rintro ⟨j, hj, h⟩
    have hj := List.mem_range.mp hj
    have e : ls.getD j none = ls[j] := by simp [hj]
    rw [e] at h
    split at h
    · rename_i w hw
      cases h
      rw [List.getElem?_eq_getElem hj, hw]
    · cases h
  · intro h
    obtain ⟨hi, h⟩ := List.getElem?_eq_some_iff.mp h
    refine ⟨i, List.mem_range.mpr hi, ?_⟩
    have e : ls.getD i none = ls[i] := by simp [hi]
    rw [e, h]
theorem tk_HL.has {la : Array Slot} {nL : Nat} {ls : List (Option Value)} (h : tk_HL la nL ls) : lv_has la nL (tk_prs ls) := ⟨h.1, h.2.1, fun q hq => h.2.2.2 q.1 q.2 (tk_prs_mem.mp hq)⟩
theorem tk_HL.at {la : Array Slot} {nL : Nat} {ls : List (Option Value)} (h : tk_HL la nL ls) {i : Nat} {v : Value} (hv : ls.getD i none = some v) : la[i]? = some (.val v) := by
  apply h.2.2.2
  by_cases hi : i < ls.length
  · simpa [hi] using hv
  · simp [hi] at hv
theorem tk_HL.st1 {la la' : Array Slot} {nL : Nat} {ls : List (Option Value)} {i : Nat} {v : Value} (h : tk_HL la nL ls) (hc : tk_c2 ls i = true)
    (h' : lv_has la' nL ((i, v) :: (tk_prs ls).filter (fun q => !(q.1 == i) && !(q.1 + 1 == i && q.2.category == 2)))) : tk_HL la' nL (ls.set i (some v)) := by
  refine ⟨h'.1, h'.2.1, by rw [List.length_set]; exact h.2.2.1, fun j w hj => ?_⟩
  rw [List.getElem?_set] at hj
  by_cases hji : i = j
  · subst hji
    rw [if_pos rfl] at hj
    split at hj
    · cases hj
      exact h'.2.2 (i, v) List.mem_cons_self
    · cases hj
  · rw [if_neg hji] at hj
    refine h'.2.2 (j, w) (List.mem_cons_of_mem _ (List.mem_filter.mpr ⟨tk_prs_mem.mpr hj, ?_⟩))
    have h1 : (j == i) = false := by simpa using fun q => hji q.symm
    by_cases h2 : j + 1 = i
    · have e : ls.getD (i - 1) none = some w := by
        have : i - 1 = j := by omega
        rw [this]
        simp [List.getD, hj]
      have h3 : w.category = 1 := by
        unfold tk_c2 at hc
        rw [e] at hc
        have : ¬ i = 0 := by omega
        simpa [this] using hc
      simp [h1, h3]
    · simp [h1, h2]
theorem tk_HL.st2 {la la' : Array Slot} {nL : Nat} {ls : List (Option Value)} {i : Nat} {v : Value} (h : tk_HL la nL ls) (hc : tk_c2 ls i = true)
    (h' : lv_has la' nL ((i, v) :: (tk_prs ls).filter (fun q => !(q.1 == i) && (!(q.1 == i + 1) && !(q.1 + 1 == i && q.2.category == 2))))) : tk_HL la' nL ((ls.set i (some v)).set (i + 1) none) := by
  refine ⟨h'.1, h'.2.1, by rw [List.length_set, List.length_set]; exact h.2.2.1, fun j w hj => ?_⟩
  rw [List.getElem?_set] at hj
  by_cases hj2 : i + 1 = j
  · rw [if_pos hj2] at hj
    split at hj <;> cases hj
  rw [if_neg hj2, List.getElem?_set] at hj
  by_cases hji : i = j
  · subst hji
    rw [if_pos rfl] at hj
    split at hj
    · cases hj
      exact h'.2.2 (i, v) List.mem_cons_self
    · cases hj
  · rw [if_neg hji] at hj
    refine h'.2.2 (j, w) (List.mem_cons_of_mem _ (List.mem_filter.mpr ⟨tk_prs_mem.mpr hj, ?_⟩))
    have h1 : (j == i) = false := by simpa using fun q => hji q.symm
    have h4 : (j == i + 1) = false := by simpa using fun q => hj2 q.symm
    by_cases h2 : j + 1 = i
    · have e : ls.getD (i - 1) none = some w := by
        have : i - 1 = j := by omega
        rw [this]
        simp [List.getD, hj]
      have h3 : w.category = 1 := by
        unfold tk_c2 at hc
        rw [e] at hc
        have : ¬ i = 0 := by omega
        simpa [this] using hc
      simp [h1, h3, h4]
    · simp [h1, h2, h4]

def i_iadd : tk_K → tk_K := fun K ls st S cs ss => match st with
  | .int y :: .int x :: r => K ls (.int (x + y) :: r) S cs ss
  | _ => False
theorem s_iadd {X : tk_X} {cc : ByteArray} {nL : Nat} {own : String} {Ts : List Cond} {pc : Nat} {ls : List (Option Value)} {st : List Value} {S : tk_S} {cs ss : Nat} {K : tk_K}  (C : tk_C X cc nL own Ts) (hd : decode cc pc = .ok (.iadd, 1)) (h : i_iadd  K ls st S cs ss) (k : ∀ ls st S cs ss, K ls st S cs ss → tk_W X nL (pc + 1) ls st S cs ss) : tk_W X nL pc ls st S cs ss := by
  obtain ⟨p, l, e, R, s, m, args, below, meth, c, D, Y, V, A, Q⟩ := X
  obtain ⟨hx, hb, hml, hown, hts, hK, hA, hlk, hO⟩ := C
  intro H locs la hP hD hS hl
  unfold i_iadd at h
  split at h
  · exact lv_iadd hx hb hd (k _ _ _ _ _ h H locs la hP hD hS hl)
  · exact h.elim
def i_isub : tk_K → tk_K := fun K ls st S cs ss => match st with
  | .int y :: .int x :: r => K ls (.int (x - y) :: r) S cs ss
  | _ => False
theorem s_isub {X : tk_X} {cc : ByteArray} {nL : Nat} {own : String} {Ts : List Cond} {pc : Nat} {ls : List (Option Value)} {st : List Value} {S : tk_S} {cs ss : Nat} {K : tk_K}  (C : tk_C X cc nL own Ts) (hd : decode cc pc = .ok (.isub, 1)) (h : i_isub  K ls st S cs ss) (k : ∀ ls st S cs ss, K ls st S cs ss → tk_W X nL (pc + 1) ls st S cs ss) : tk_W X nL pc ls st S cs ss := by
  obtain ⟨p, l, e, R, s, m, args, below, meth, c, D, Y, V, A, Q⟩ := X
  obtain ⟨hx, hb, hml, hown, hts, hK, hA, hlk, hO⟩ := C
  intro H locs la hP hD hS hl
  unfold i_isub at h
  split at h
  · exact lv_isub hx hb hd (k _ _ _ _ _ h H locs la hP hD hS hl)
  · exact h.elim
def i_imul : tk_K → tk_K := fun K ls st S cs ss => match st with
  | .int y :: .int x :: r => K ls (.int (x * y) :: r) S cs ss
  | _ => False
theorem s_imul {X : tk_X} {cc : ByteArray} {nL : Nat} {own : String} {Ts : List Cond} {pc : Nat} {ls : List (Option Value)} {st : List Value} {S : tk_S} {cs ss : Nat} {K : tk_K}  (C : tk_C X cc nL own Ts) (hd : decode cc pc = .ok (.imul, 1)) (h : i_imul  K ls st S cs ss) (k : ∀ ls st S cs ss, K ls st S cs ss → tk_W X nL (pc + 1) ls st S cs ss) : tk_W X nL pc ls st S cs ss := by
  obtain ⟨p, l, e, R, s, m, args, below, meth, c, D, Y, V, A, Q⟩ := X
  obtain ⟨hx, hb, hml, hown, hts, hK, hA, hlk, hO⟩ := C
  intro H locs la hP hD hS hl
  unfold i_imul at h
  split at h
  · exact lv_imul hx hb hd (k _ _ _ _ _ h H locs la hP hD hS hl)
  · exact h.elim
def i_iand : tk_K → tk_K := fun K ls st S cs ss => match st with
  | .int y :: .int x :: r => K ls (.int (x &&& y) :: r) S cs ss
  | _ => False
theorem s_iand {X : tk_X} {cc : ByteArray} {nL : Nat} {own : String} {Ts : List Cond} {pc : Nat} {ls : List (Option Value)} {st : List Value} {S : tk_S} {cs ss : Nat} {K : tk_K}  (C : tk_C X cc nL own Ts) (hd : decode cc pc = .ok (.iand, 1)) (h : i_iand  K ls st S cs ss) (k : ∀ ls st S cs ss, K ls st S cs ss → tk_W X nL (pc + 1) ls st S cs ss) : tk_W X nL pc ls st S cs ss := by
  obtain ⟨p, l, e, R, s, m, args, below, meth, c, D, Y, V, A, Q⟩ := X
  obtain ⟨hx, hb, hml, hown, hts, hK, hA, hlk, hO⟩ := C
  intro H locs la hP hD hS hl
  unfold i_iand at h
  split at h
  · exact lv_iand hx hb hd (k _ _ _ _ _ h H locs la hP hD hS hl)
  · exact h.elim
def i_ior : tk_K → tk_K := fun K ls st S cs ss => match st with
  | .int y :: .int x :: r => K ls (.int (x ||| y) :: r) S cs ss
  | _ => False
theorem s_ior {X : tk_X} {cc : ByteArray} {nL : Nat} {own : String} {Ts : List Cond} {pc : Nat} {ls : List (Option Value)} {st : List Value} {S : tk_S} {cs ss : Nat} {K : tk_K}  (C : tk_C X cc nL own Ts) (hd : decode cc pc = .ok (.ior, 1)) (h : i_ior  K ls st S cs ss) (k : ∀ ls st S cs ss, K ls st S cs ss → tk_W X nL (pc + 1) ls st S cs ss) : tk_W X nL pc ls st S cs ss := by
  obtain ⟨p, l, e, R, s, m, args, below, meth, c, D, Y, V, A, Q⟩ := X
  obtain ⟨hx, hb, hml, hown, hts, hK, hA, hlk, hO⟩ := C
  intro H locs la hP hD hS hl
  unfold i_ior at h
  split at h
  · exact lv_ior hx hb hd (k _ _ _ _ _ h H locs la hP hD hS hl)
  · exact h.elim
def i_ixor : tk_K → tk_K := fun K ls st S cs ss => match st with
  | .int y :: .int x :: r => K ls (.int (x ^^^ y) :: r) S cs ss
  | _ => False
theorem s_ixor {X : tk_X} {cc : ByteArray} {nL : Nat} {own : String} {Ts : List Cond} {pc : Nat} {ls : List (Option Value)} {st : List Value} {S : tk_S} {cs ss : Nat} {K : tk_K}  (C : tk_C X cc nL own Ts) (hd : decode cc pc = .ok (.ixor, 1)) (h : i_ixor  K ls st S cs ss) (k : ∀ ls st S cs ss, K ls st S cs ss → tk_W X nL (pc + 1) ls st S cs ss) : tk_W X nL pc ls st S cs ss := by
  obtain ⟨p, l, e, R, s, m, args, below, meth, c, D, Y, V, A, Q⟩ := X
  obtain ⟨hx, hb, hml, hown, hts, hK, hA, hlk, hO⟩ := C
  intro H locs la hP hD hS hl
  unfold i_ixor at h
  split at h
  · exact lv_ixor hx hb hd (k _ _ _ _ _ h H locs la hP hD hS hl)
  · exact h.elim
def i_ishl : tk_K → tk_K := fun K ls st S cs ss => match st with
  | .int y :: .int x :: r => K ls (.int (x <<< (y &&& 31)) :: r) S cs ss
  | _ => False
theorem s_ishl {X : tk_X} {cc : ByteArray} {nL : Nat} {own : String} {Ts : List Cond} {pc : Nat} {ls : List (Option Value)} {st : List Value} {S : tk_S} {cs ss : Nat} {K : tk_K}  (C : tk_C X cc nL own Ts) (hd : decode cc pc = .ok (.ishl, 1)) (h : i_ishl  K ls st S cs ss) (k : ∀ ls st S cs ss, K ls st S cs ss → tk_W X nL (pc + 1) ls st S cs ss) : tk_W X nL pc ls st S cs ss := by
  obtain ⟨p, l, e, R, s, m, args, below, meth, c, D, Y, V, A, Q⟩ := X
  obtain ⟨hx, hb, hml, hown, hts, hK, hA, hlk, hO⟩ := C
  intro H locs la hP hD hS hl
  unfold i_ishl at h
  split at h
  · exact lv_ishl hx hb hd (k _ _ _ _ _ h H locs la hP hD hS hl)
  · exact h.elim
def i_ishr : tk_K → tk_K := fun K ls st S cs ss => match st with
  | .int y :: .int x :: r => K ls (.int (x >>> (y &&& 31)) :: r) S cs ss
  | _ => False
theorem s_ishr {X : tk_X} {cc : ByteArray} {nL : Nat} {own : String} {Ts : List Cond} {pc : Nat} {ls : List (Option Value)} {st : List Value} {S : tk_S} {cs ss : Nat} {K : tk_K}  (C : tk_C X cc nL own Ts) (hd : decode cc pc = .ok (.ishr, 1)) (h : i_ishr  K ls st S cs ss) (k : ∀ ls st S cs ss, K ls st S cs ss → tk_W X nL (pc + 1) ls st S cs ss) : tk_W X nL pc ls st S cs ss := by
  obtain ⟨p, l, e, R, s, m, args, below, meth, c, D, Y, V, A, Q⟩ := X
  obtain ⟨hx, hb, hml, hown, hts, hK, hA, hlk, hO⟩ := C
  intro H locs la hP hD hS hl
  unfold i_ishr at h
  split at h
  · exact lv_ishr hx hb hd (k _ _ _ _ _ h H locs la hP hD hS hl)
  · exact h.elim
def i_iushr : tk_K → tk_K := fun K ls st S cs ss => match st with
  | .int y :: .int x :: r => K ls (.int ((x.toUInt32 >>> (y.toUInt32 &&& Int32.toUInt32 31)).toInt32) :: r) S cs ss
  | _ => False
theorem s_iushr {X : tk_X} {cc : ByteArray} {nL : Nat} {own : String} {Ts : List Cond} {pc : Nat} {ls : List (Option Value)} {st : List Value} {S : tk_S} {cs ss : Nat} {K : tk_K}  (C : tk_C X cc nL own Ts) (hd : decode cc pc = .ok (.iushr, 1)) (h : i_iushr  K ls st S cs ss) (k : ∀ ls st S cs ss, K ls st S cs ss → tk_W X nL (pc + 1) ls st S cs ss) : tk_W X nL pc ls st S cs ss := by
  obtain ⟨p, l, e, R, s, m, args, below, meth, c, D, Y, V, A, Q⟩ := X
  obtain ⟨hx, hb, hml, hown, hts, hK, hA, hlk, hO⟩ := C
  intro H locs la hP hD hS hl
  unfold i_iushr at h
  split at h
  · exact lv_iushr hx hb hd rfl (k _ _ _ _ _ h H locs la hP hD hS hl)
  · exact h.elim
def i_idiv : tk_K → tk_K := fun K ls st S cs ss => match st with
  | .int y :: .int x :: r => ¬ y = 0 ∧ K ls (.int (x / y) :: r) S cs ss
  | _ => False
theorem s_idiv {X : tk_X} {cc : ByteArray} {nL : Nat} {own : String} {Ts : List Cond} {pc : Nat} {ls : List (Option Value)} {st : List Value} {S : tk_S} {cs ss : Nat} {K : tk_K}  (C : tk_C X cc nL own Ts) (hd : decode cc pc = .ok (.idiv, 1)) (h : i_idiv  K ls st S cs ss) (k : ∀ ls st S cs ss, K ls st S cs ss → tk_W X nL (pc + 1) ls st S cs ss) : tk_W X nL pc ls st S cs ss := by
  obtain ⟨p, l, e, R, s, m, args, below, meth, c, D, Y, V, A, Q⟩ := X
  obtain ⟨hx, hb, hml, hown, hts, hK, hA, hlk, hO⟩ := C
  intro H locs la hP hD hS hl
  unfold i_idiv at h
  split at h
  · exact lv_idiv hx hb hd h.1 (k _ _ _ _ _ h.2 H locs la hP hD hS hl)
  · exact h.elim
def i_irem : tk_K → tk_K := fun K ls st S cs ss => match st with
  | .int y :: .int x :: r => ¬ y = 0 ∧ K ls (.int (x - x / y * y) :: r) S cs ss
  | _ => False
theorem s_irem {X : tk_X} {cc : ByteArray} {nL : Nat} {own : String} {Ts : List Cond} {pc : Nat} {ls : List (Option Value)} {st : List Value} {S : tk_S} {cs ss : Nat} {K : tk_K}  (C : tk_C X cc nL own Ts) (hd : decode cc pc = .ok (.irem, 1)) (h : i_irem  K ls st S cs ss) (k : ∀ ls st S cs ss, K ls st S cs ss → tk_W X nL (pc + 1) ls st S cs ss) : tk_W X nL pc ls st S cs ss := by
  obtain ⟨p, l, e, R, s, m, args, below, meth, c, D, Y, V, A, Q⟩ := X
  obtain ⟨hx, hb, hml, hown, hts, hK, hA, hlk, hO⟩ := C
  intro H locs la hP hD hS hl
  unfold i_irem at h
  split at h
  · exact lv_irem hx hb hd h.1 (k _ _ _ _ _ h.2 H locs la hP hD hS hl)
  · exact h.elim
def i_ladd : tk_K → tk_K := fun K ls st S cs ss => match st with
  | .long y :: .long x :: r => K ls (.long (x + y) :: r) S cs ss
  | _ => False
theorem s_ladd {X : tk_X} {cc : ByteArray} {nL : Nat} {own : String} {Ts : List Cond} {pc : Nat} {ls : List (Option Value)} {st : List Value} {S : tk_S} {cs ss : Nat} {K : tk_K}  (C : tk_C X cc nL own Ts) (hd : decode cc pc = .ok (.ladd, 1)) (h : i_ladd  K ls st S cs ss) (k : ∀ ls st S cs ss, K ls st S cs ss → tk_W X nL (pc + 1) ls st S cs ss) : tk_W X nL pc ls st S cs ss := by
  obtain ⟨p, l, e, R, s, m, args, below, meth, c, D, Y, V, A, Q⟩ := X
  obtain ⟨hx, hb, hml, hown, hts, hK, hA, hlk, hO⟩ := C
  intro H locs la hP hD hS hl
  unfold i_ladd at h
  split at h
  · exact lv_ladd hx hb hd (k _ _ _ _ _ h H locs la hP hD hS hl)
  · exact h.elim
def i_lsub : tk_K → tk_K := fun K ls st S cs ss => match st with
  | .long y :: .long x :: r => K ls (.long (x - y) :: r) S cs ss
  | _ => False
theorem s_lsub {X : tk_X} {cc : ByteArray} {nL : Nat} {own : String} {Ts : List Cond} {pc : Nat} {ls : List (Option Value)} {st : List Value} {S : tk_S} {cs ss : Nat} {K : tk_K}  (C : tk_C X cc nL own Ts) (hd : decode cc pc = .ok (.lsub, 1)) (h : i_lsub  K ls st S cs ss) (k : ∀ ls st S cs ss, K ls st S cs ss → tk_W X nL (pc + 1) ls st S cs ss) : tk_W X nL pc ls st S cs ss := by
  obtain ⟨p, l, e, R, s, m, args, below, meth, c, D, Y, V, A, Q⟩ := X
  obtain ⟨hx, hb, hml, hown, hts, hK, hA, hlk, hO⟩ := C
  intro H locs la hP hD hS hl
  unfold i_lsub at h
  split at h
  · exact lv_lsub hx hb hd (k _ _ _ _ _ h H locs la hP hD hS hl)
  · exact h.elim
def i_lmul : tk_K → tk_K := fun K ls st S cs ss => match st with
  | .long y :: .long x :: r => K ls (.long (x * y) :: r) S cs ss
  | _ => False
theorem s_lmul {X : tk_X} {cc : ByteArray} {nL : Nat} {own : String} {Ts : List Cond} {pc : Nat} {ls : List (Option Value)} {st : List Value} {S : tk_S} {cs ss : Nat} {K : tk_K}  (C : tk_C X cc nL own Ts) (hd : decode cc pc = .ok (.lmul, 1)) (h : i_lmul  K ls st S cs ss) (k : ∀ ls st S cs ss, K ls st S cs ss → tk_W X nL (pc + 1) ls st S cs ss) : tk_W X nL pc ls st S cs ss := by
  obtain ⟨p, l, e, R, s, m, args, below, meth, c, D, Y, V, A, Q⟩ := X
  obtain ⟨hx, hb, hml, hown, hts, hK, hA, hlk, hO⟩ := C
  intro H locs la hP hD hS hl
  unfold i_lmul at h
  split at h
  · exact lv_lmul hx hb hd (k _ _ _ _ _ h H locs la hP hD hS hl)
  · exact h.elim
def i_land : tk_K → tk_K := fun K ls st S cs ss => match st with
  | .long y :: .long x :: r => K ls (.long (x &&& y) :: r) S cs ss
  | _ => False
theorem s_land {X : tk_X} {cc : ByteArray} {nL : Nat} {own : String} {Ts : List Cond} {pc : Nat} {ls : List (Option Value)} {st : List Value} {S : tk_S} {cs ss : Nat} {K : tk_K}  (C : tk_C X cc nL own Ts) (hd : decode cc pc = .ok (.land, 1)) (h : i_land  K ls st S cs ss) (k : ∀ ls st S cs ss, K ls st S cs ss → tk_W X nL (pc + 1) ls st S cs ss) : tk_W X nL pc ls st S cs ss := by
  obtain ⟨p, l, e, R, s, m, args, below, meth, c, D, Y, V, A, Q⟩ := X
  obtain ⟨hx, hb, hml, hown, hts, hK, hA, hlk, hO⟩ := C
  intro H locs la hP hD hS hl
  unfold i_land at h
  split at h
  · exact lv_land hx hb hd (k _ _ _ _ _ h H locs la hP hD hS hl)
  · exact h.elim
def i_lor : tk_K → tk_K := fun K ls st S cs ss => match st with
  | .long y :: .long x :: r => K ls (.long (x ||| y) :: r) S cs ss
  | _ => False
theorem s_lor {X : tk_X} {cc : ByteArray} {nL : Nat} {own : String} {Ts : List Cond} {pc : Nat} {ls : List (Option Value)} {st : List Value} {S : tk_S} {cs ss : Nat} {K : tk_K}  (C : tk_C X cc nL own Ts) (hd : decode cc pc = .ok (.lor, 1)) (h : i_lor  K ls st S cs ss) (k : ∀ ls st S cs ss, K ls st S cs ss → tk_W X nL (pc + 1) ls st S cs ss) : tk_W X nL pc ls st S cs ss := by
  obtain ⟨p, l, e, R, s, m, args, below, meth, c, D, Y, V, A, Q⟩ := X
  obtain ⟨hx, hb, hml, hown, hts, hK, hA, hlk, hO⟩ := C
  intro H locs la hP hD hS hl
  unfold i_lor at h
  split at h
  · exact lv_lor hx hb hd (k _ _ _ _ _ h H locs la hP hD hS hl)
  · exact h.elim
def i_lxor : tk_K → tk_K := fun K ls st S cs ss => match st with
  | .long y :: .long x :: r => K ls (.long (x ^^^ y) :: r) S cs ss
  | _ => False
theorem s_lxor {X : tk_X} {cc : ByteArray} {nL : Nat} {own : String} {Ts : List Cond} {pc : Nat} {ls : List (Option Value)} {st : List Value} {S : tk_S} {cs ss : Nat} {K : tk_K}  (C : tk_C X cc nL own Ts) (hd : decode cc pc = .ok (.lxor, 1)) (h : i_lxor  K ls st S cs ss) (k : ∀ ls st S cs ss, K ls st S cs ss → tk_W X nL (pc + 1) ls st S cs ss) : tk_W X nL pc ls st S cs ss := by
  obtain ⟨p, l, e, R, s, m, args, below, meth, c, D, Y, V, A, Q⟩ := X
  obtain ⟨hx, hb, hml, hown, hts, hK, hA, hlk, hO⟩ := C
  intro H locs la hP hD hS hl
  unfold i_lxor at h
  split at h
  · exact lv_lxor hx hb hd (k _ _ _ _ _ h H locs la hP hD hS hl)
  · exact h.elim
def i_ldiv : tk_K → tk_K := fun K ls st S cs ss => match st with
  | .long y :: .long x :: r => ¬ y = 0 ∧ K ls (.long (x / y) :: r) S cs ss
  | _ => False
theorem s_ldiv {X : tk_X} {cc : ByteArray} {nL : Nat} {own : String} {Ts : List Cond} {pc : Nat} {ls : List (Option Value)} {st : List Value} {S : tk_S} {cs ss : Nat} {K : tk_K}  (C : tk_C X cc nL own Ts) (hd : decode cc pc = .ok (.ldiv, 1)) (h : i_ldiv  K ls st S cs ss) (k : ∀ ls st S cs ss, K ls st S cs ss → tk_W X nL (pc + 1) ls st S cs ss) : tk_W X nL pc ls st S cs ss := by
  obtain ⟨p, l, e, R, s, m, args, below, meth, c, D, Y, V, A, Q⟩ := X
  obtain ⟨hx, hb, hml, hown, hts, hK, hA, hlk, hO⟩ := C
  intro H locs la hP hD hS hl
  unfold i_ldiv at h
  split at h
  · exact lv_ldiv hx hb hd h.1 (k _ _ _ _ _ h.2 H locs la hP hD hS hl)
  · exact h.elim
def i_lrem : tk_K → tk_K := fun K ls st S cs ss => match st with
  | .long y :: .long x :: r => ¬ y = 0 ∧ K ls (.long (x - x / y * y) :: r) S cs ss
  | _ => False
theorem s_lrem {X : tk_X} {cc : ByteArray} {nL : Nat} {own : String} {Ts : List Cond} {pc : Nat} {ls : List (Option Value)} {st : List Value} {S : tk_S} {cs ss : Nat} {K : tk_K}  (C : tk_C X cc nL own Ts) (hd : decode cc pc = .ok (.lrem, 1)) (h : i_lrem  K ls st S cs ss) (k : ∀ ls st S cs ss, K ls st S cs ss → tk_W X nL (pc + 1) ls st S cs ss) : tk_W X nL pc ls st S cs ss := by
  obtain ⟨p, l, e, R, s, m, args, below, meth, c, D, Y, V, A, Q⟩ := X
  obtain ⟨hx, hb, hml, hown, hts, hK, hA, hlk, hO⟩ := C
  intro H locs la hP hD hS hl
  unfold i_lrem at h
  split at h
  · exact lv_lrem hx hb hd h.1 (k _ _ _ _ _ h.2 H locs la hP hD hS hl)
  · exact h.elim
def i_lshl : tk_K → tk_K := fun K ls st S cs ss => match st with
  | .int y :: .long x :: r => K ls (.long (x <<< (y.toInt64 &&& 63)) :: r) S cs ss
  | _ => False
theorem s_lshl {X : tk_X} {cc : ByteArray} {nL : Nat} {own : String} {Ts : List Cond} {pc : Nat} {ls : List (Option Value)} {st : List Value} {S : tk_S} {cs ss : Nat} {K : tk_K}  (C : tk_C X cc nL own Ts) (hd : decode cc pc = .ok (.lshl, 1)) (h : i_lshl  K ls st S cs ss) (k : ∀ ls st S cs ss, K ls st S cs ss → tk_W X nL (pc + 1) ls st S cs ss) : tk_W X nL pc ls st S cs ss := by
  obtain ⟨p, l, e, R, s, m, args, below, meth, c, D, Y, V, A, Q⟩ := X
  obtain ⟨hx, hb, hml, hown, hts, hK, hA, hlk, hO⟩ := C
  intro H locs la hP hD hS hl
  unfold i_lshl at h
  split at h
  · exact lv_lshl hx hb hd rfl (k _ _ _ _ _ h H locs la hP hD hS hl)
  · exact h.elim
def i_lshr : tk_K → tk_K := fun K ls st S cs ss => match st with
  | .int y :: .long x :: r => K ls (.long (x >>> (y.toInt64 &&& 63)) :: r) S cs ss
  | _ => False
theorem s_lshr {X : tk_X} {cc : ByteArray} {nL : Nat} {own : String} {Ts : List Cond} {pc : Nat} {ls : List (Option Value)} {st : List Value} {S : tk_S} {cs ss : Nat} {K : tk_K}  (C : tk_C X cc nL own Ts) (hd : decode cc pc = .ok (.lshr, 1)) (h : i_lshr  K ls st S cs ss) (k : ∀ ls st S cs ss, K ls st S cs ss → tk_W X nL (pc + 1) ls st S cs ss) : tk_W X nL pc ls st S cs ss := by
  obtain ⟨p, l, e, R, s, m, args, below, meth, c, D, Y, V, A, Q⟩ := X
  obtain ⟨hx, hb, hml, hown, hts, hK, hA, hlk, hO⟩ := C
  intro H locs la hP hD hS hl
  unfold i_lshr at h
  split at h
  · exact lv_lshr hx hb hd rfl (k _ _ _ _ _ h H locs la hP hD hS hl)
  · exact h.elim
def i_lcmp : tk_K → tk_K := fun K ls st S cs ss => match st with
  | .long y :: .long x :: r => K ls (.int (lg_cmp x y) :: r) S cs ss
  | _ => False
theorem s_lcmp {X : tk_X} {cc : ByteArray} {nL : Nat} {own : String} {Ts : List Cond} {pc : Nat} {ls : List (Option Value)} {st : List Value} {S : tk_S} {cs ss : Nat} {K : tk_K}  (C : tk_C X cc nL own Ts) (hd : decode cc pc = .ok (.lcmp, 1)) (h : i_lcmp  K ls st S cs ss) (k : ∀ ls st S cs ss, K ls st S cs ss → tk_W X nL (pc + 1) ls st S cs ss) : tk_W X nL pc ls st S cs ss := by
  obtain ⟨p, l, e, R, s, m, args, below, meth, c, D, Y, V, A, Q⟩ := X
  obtain ⟨hx, hb, hml, hown, hts, hK, hA, hlk, hO⟩ := C
  intro H locs la hP hD hS hl
  unfold i_lcmp at h
  split at h
  · exact W.lcmp hx hb hd (k _ _ _ _ _ h H locs la hP hD hS hl)
  · exact h.elim
def i_ineg : tk_K → tk_K := fun K ls st S cs ss => match st with
  | .int x :: r => K ls (.int (-x) :: r) S cs ss
  | _ => False
theorem s_ineg {X : tk_X} {cc : ByteArray} {nL : Nat} {own : String} {Ts : List Cond} {pc : Nat} {ls : List (Option Value)} {st : List Value} {S : tk_S} {cs ss : Nat} {K : tk_K}  (C : tk_C X cc nL own Ts) (hd : decode cc pc = .ok (.ineg, 1)) (h : i_ineg  K ls st S cs ss) (k : ∀ ls st S cs ss, K ls st S cs ss → tk_W X nL (pc + 1) ls st S cs ss) : tk_W X nL pc ls st S cs ss := by
  obtain ⟨p, l, e, R, s, m, args, below, meth, c, D, Y, V, A, Q⟩ := X
  obtain ⟨hx, hb, hml, hown, hts, hK, hA, hlk, hO⟩ := C
  intro H locs la hP hD hS hl
  unfold i_ineg at h
  split at h
  · exact lv_ineg hx hb hd (k _ _ _ _ _ h H locs la hP hD hS hl)
  · exact h.elim
def i_lneg : tk_K → tk_K := fun K ls st S cs ss => match st with
  | .long x :: r => K ls (.long (-x) :: r) S cs ss
  | _ => False
theorem s_lneg {X : tk_X} {cc : ByteArray} {nL : Nat} {own : String} {Ts : List Cond} {pc : Nat} {ls : List (Option Value)} {st : List Value} {S : tk_S} {cs ss : Nat} {K : tk_K}  (C : tk_C X cc nL own Ts) (hd : decode cc pc = .ok (.lneg, 1)) (h : i_lneg  K ls st S cs ss) (k : ∀ ls st S cs ss, K ls st S cs ss → tk_W X nL (pc + 1) ls st S cs ss) : tk_W X nL pc ls st S cs ss := by
  obtain ⟨p, l, e, R, s, m, args, below, meth, c, D, Y, V, A, Q⟩ := X
  obtain ⟨hx, hb, hml, hown, hts, hK, hA, hlk, hO⟩ := C
  intro H locs la hP hD hS hl
  unfold i_lneg at h
  split at h
  · exact lv_lneg hx hb hd (k _ _ _ _ _ h H locs la hP hD hS hl)
  · exact h.elim
def i_i2l : tk_K → tk_K := fun K ls st S cs ss => match st with
  | .int x :: r => K ls (.long x.toInt64 :: r) S cs ss
  | _ => False
theorem s_i2l {X : tk_X} {cc : ByteArray} {nL : Nat} {own : String} {Ts : List Cond} {pc : Nat} {ls : List (Option Value)} {st : List Value} {S : tk_S} {cs ss : Nat} {K : tk_K}  (C : tk_C X cc nL own Ts) (hd : decode cc pc = .ok (.i2l, 1)) (h : i_i2l  K ls st S cs ss) (k : ∀ ls st S cs ss, K ls st S cs ss → tk_W X nL (pc + 1) ls st S cs ss) : tk_W X nL pc ls st S cs ss := by
  obtain ⟨p, l, e, R, s, m, args, below, meth, c, D, Y, V, A, Q⟩ := X
  obtain ⟨hx, hb, hml, hown, hts, hK, hA, hlk, hO⟩ := C
  intro H locs la hP hD hS hl
  unfold i_i2l at h
  split at h
  · exact lv_i2l hx hb hd rfl (k _ _ _ _ _ h H locs la hP hD hS hl)
  · exact h.elim
def i_l2i : tk_K → tk_K := fun K ls st S cs ss => match st with
  | .long x :: r => K ls (.int x.toInt32 :: r) S cs ss
  | _ => False
theorem s_l2i {X : tk_X} {cc : ByteArray} {nL : Nat} {own : String} {Ts : List Cond} {pc : Nat} {ls : List (Option Value)} {st : List Value} {S : tk_S} {cs ss : Nat} {K : tk_K}  (C : tk_C X cc nL own Ts) (hd : decode cc pc = .ok (.l2i, 1)) (h : i_l2i  K ls st S cs ss) (k : ∀ ls st S cs ss, K ls st S cs ss → tk_W X nL (pc + 1) ls st S cs ss) : tk_W X nL pc ls st S cs ss := by
  obtain ⟨p, l, e, R, s, m, args, below, meth, c, D, Y, V, A, Q⟩ := X
  obtain ⟨hx, hb, hml, hown, hts, hK, hA, hlk, hO⟩ := C
  intro H locs la hP hD hS hl
  unfold i_l2i at h
  split at h
  · exact lv_l2i hx hb hd rfl (k _ _ _ _ _ h H locs la hP hD hS hl)
  · exact h.elim
def i_i2b : tk_K → tk_K := fun K ls st S cs ss => match st with
  | .int x :: r => K ls (.int x.toInt8.toInt32 :: r) S cs ss
  | _ => False
theorem s_i2b {X : tk_X} {cc : ByteArray} {nL : Nat} {own : String} {Ts : List Cond} {pc : Nat} {ls : List (Option Value)} {st : List Value} {S : tk_S} {cs ss : Nat} {K : tk_K}  (C : tk_C X cc nL own Ts) (hd : decode cc pc = .ok (.i2b, 1)) (h : i_i2b  K ls st S cs ss) (k : ∀ ls st S cs ss, K ls st S cs ss → tk_W X nL (pc + 1) ls st S cs ss) : tk_W X nL pc ls st S cs ss := by
  obtain ⟨p, l, e, R, s, m, args, below, meth, c, D, Y, V, A, Q⟩ := X
  obtain ⟨hx, hb, hml, hown, hts, hK, hA, hlk, hO⟩ := C
  intro H locs la hP hD hS hl
  unfold i_i2b at h
  split at h
  · exact lv_i2b hx hb hd rfl (k _ _ _ _ _ h H locs la hP hD hS hl)
  · exact h.elim
def i_i2c : tk_K → tk_K := fun K ls st S cs ss => match st with
  | .int x :: r => K ls (.int (x.toUInt32 % 65536).toInt32 :: r) S cs ss
  | _ => False
theorem s_i2c {X : tk_X} {cc : ByteArray} {nL : Nat} {own : String} {Ts : List Cond} {pc : Nat} {ls : List (Option Value)} {st : List Value} {S : tk_S} {cs ss : Nat} {K : tk_K}  (C : tk_C X cc nL own Ts) (hd : decode cc pc = .ok (.i2c, 1)) (h : i_i2c  K ls st S cs ss) (k : ∀ ls st S cs ss, K ls st S cs ss → tk_W X nL (pc + 1) ls st S cs ss) : tk_W X nL pc ls st S cs ss := by
  obtain ⟨p, l, e, R, s, m, args, below, meth, c, D, Y, V, A, Q⟩ := X
  obtain ⟨hx, hb, hml, hown, hts, hK, hA, hlk, hO⟩ := C
  intro H locs la hP hD hS hl
  unfold i_i2c at h
  split at h
  · exact lv_i2c hx hb hd rfl (k _ _ _ _ _ h H locs la hP hD hS hl)
  · exact h.elim
def i_dup : tk_K → tk_K := fun K ls st S cs ss => match st with
  | va :: r => va.category = 1 ∧ K ls (va :: va :: r) S cs ss
  | _ => False
theorem s_dup {X : tk_X} {cc : ByteArray} {nL : Nat} {own : String} {Ts : List Cond} {pc : Nat} {ls : List (Option Value)} {st : List Value} {S : tk_S} {cs ss : Nat} {K : tk_K}  (C : tk_C X cc nL own Ts) (hd : decode cc pc = .ok (.dup, 1)) (h : i_dup  K ls st S cs ss) (k : ∀ ls st S cs ss, K ls st S cs ss → tk_W X nL (pc + 1) ls st S cs ss) : tk_W X nL pc ls st S cs ss := by
  obtain ⟨p, l, e, R, s, m, args, below, meth, c, D, Y, V, A, Q⟩ := X
  obtain ⟨hx, hb, hml, hown, hts, hK, hA, hlk, hO⟩ := C
  intro H locs la hP hD hS hl
  unfold i_dup at h
  split at h
  · exact lv_dup hx hb hd h.1 (k _ _ _ _ _ h.2 H locs la hP hD hS hl)
  · exact h.elim
def i_pop : tk_K → tk_K := fun K ls st S cs ss => match st with
  | va :: r => va.category = 1 ∧ K ls (r) S cs ss
  | _ => False
theorem s_pop {X : tk_X} {cc : ByteArray} {nL : Nat} {own : String} {Ts : List Cond} {pc : Nat} {ls : List (Option Value)} {st : List Value} {S : tk_S} {cs ss : Nat} {K : tk_K}  (C : tk_C X cc nL own Ts) (hd : decode cc pc = .ok (.pop, 1)) (h : i_pop  K ls st S cs ss) (k : ∀ ls st S cs ss, K ls st S cs ss → tk_W X nL (pc + 1) ls st S cs ss) : tk_W X nL pc ls st S cs ss := by
  obtain ⟨p, l, e, R, s, m, args, below, meth, c, D, Y, V, A, Q⟩ := X
  obtain ⟨hx, hb, hml, hown, hts, hK, hA, hlk, hO⟩ := C
  intro H locs la hP hD hS hl
  unfold i_pop at h
  split at h
  · exact lv_pop hx hb hd h.1 (k _ _ _ _ _ h.2 H locs la hP hD hS hl)
  · exact h.elim
def i_dup_x1 : tk_K → tk_K := fun K ls st S cs ss => match st with
  | va :: vb :: r => (va.category = 1 ∧ vb.category = 1) ∧ K ls (va :: vb :: va :: r) S cs ss
  | _ => False
theorem s_dup_x1 {X : tk_X} {cc : ByteArray} {nL : Nat} {own : String} {Ts : List Cond} {pc : Nat} {ls : List (Option Value)} {st : List Value} {S : tk_S} {cs ss : Nat} {K : tk_K}  (C : tk_C X cc nL own Ts) (hd : decode cc pc = .ok (.dup_x1, 1)) (h : i_dup_x1  K ls st S cs ss) (k : ∀ ls st S cs ss, K ls st S cs ss → tk_W X nL (pc + 1) ls st S cs ss) : tk_W X nL pc ls st S cs ss := by
  obtain ⟨p, l, e, R, s, m, args, below, meth, c, D, Y, V, A, Q⟩ := X
  obtain ⟨hx, hb, hml, hown, hts, hK, hA, hlk, hO⟩ := C
  intro H locs la hP hD hS hl
  unfold i_dup_x1 at h
  split at h
  · exact lv_dup_x1 hx hb hd h.1.1 h.1.2 (k _ _ _ _ _ h.2 H locs la hP hD hS hl)
  · exact h.elim
def i_dup2 : tk_K → tk_K := fun K ls st S cs ss => match st with
  | va :: vb :: r => (va.category = 1 ∧ vb.category = 1) ∧ K ls (va :: vb :: va :: vb :: r) S cs ss
  | _ => False
theorem s_dup2 {X : tk_X} {cc : ByteArray} {nL : Nat} {own : String} {Ts : List Cond} {pc : Nat} {ls : List (Option Value)} {st : List Value} {S : tk_S} {cs ss : Nat} {K : tk_K}  (C : tk_C X cc nL own Ts) (hd : decode cc pc = .ok (.dup2, 1)) (h : i_dup2  K ls st S cs ss) (k : ∀ ls st S cs ss, K ls st S cs ss → tk_W X nL (pc + 1) ls st S cs ss) : tk_W X nL pc ls st S cs ss := by
  obtain ⟨p, l, e, R, s, m, args, below, meth, c, D, Y, V, A, Q⟩ := X
  obtain ⟨hx, hb, hml, hown, hts, hK, hA, hlk, hO⟩ := C
  intro H locs la hP hD hS hl
  unfold i_dup2 at h
  split at h
  · exact lv_dup2_11 hx hb hd h.1.1 h.1.2 (k _ _ _ _ _ h.2 H locs la hP hD hS hl)
  · exact h.elim
def i_push (v : Value) : tk_K → tk_K := fun K ls st S cs ss => K ls (v :: st) S cs ss
theorem s_iconst {X : tk_X} {cc : ByteArray} {nL : Nat} {own : String} {Ts : List Cond} {pc : Nat} {ls : List (Option Value)} {st : List Value} {S : tk_S} {cs ss : Nat} {K : tk_K} {n : Int} {v : Int32} (C : tk_C X cc nL own Ts) (hd : decode cc pc = .ok (.iconst n, 1)) (hv : Int32.ofInt n = v) (h : i_push (.int v) K ls st S cs ss) (k : ∀ ls st S cs ss, K ls st S cs ss → tk_W X nL (pc + 1) ls st S cs ss) : tk_W X nL pc ls st S cs ss := by
  obtain ⟨p, l, e, R, s, m, args, below, meth, c, D, Y, V, A, Q⟩ := X
  obtain ⟨hx, hb, hml, hown, hts, hK, hA, hlk, hO⟩ := C
  intro H locs la hP hD hS hl
  exact lv_iconst hx hb hd hv (k _ _ _ _ _ h H locs la hP hD hS hl)
theorem s_bipush {X : tk_X} {cc : ByteArray} {nL : Nat} {own : String} {Ts : List Cond} {pc : Nat} {ls : List (Option Value)} {st : List Value} {S : tk_S} {cs ss : Nat} {K : tk_K} {n : Int} {v : Int32} (C : tk_C X cc nL own Ts) (hd : decode cc pc = .ok (.bipush n, 2)) (hv : (Int8.ofInt n).toInt32 = v) (h : i_push (.int v) K ls st S cs ss) (k : ∀ ls st S cs ss, K ls st S cs ss → tk_W X nL (pc + 2) ls st S cs ss) : tk_W X nL pc ls st S cs ss := by
  obtain ⟨p, l, e, R, s, m, args, below, meth, c, D, Y, V, A, Q⟩ := X
  obtain ⟨hx, hb, hml, hown, hts, hK, hA, hlk, hO⟩ := C
  intro H locs la hP hD hS hl
  exact lv_bipush hx hb hd hv (k _ _ _ _ _ h H locs la hP hD hS hl)
theorem s_sipush {X : tk_X} {cc : ByteArray} {nL : Nat} {own : String} {Ts : List Cond} {pc : Nat} {ls : List (Option Value)} {st : List Value} {S : tk_S} {cs ss : Nat} {K : tk_K} {n : Int} {v : Int32} (C : tk_C X cc nL own Ts) (hd : decode cc pc = .ok (.sipush n, 3)) (hv : (Int16.ofInt n).toInt32 = v) (h : i_push (.int v) K ls st S cs ss) (k : ∀ ls st S cs ss, K ls st S cs ss → tk_W X nL (pc + 3) ls st S cs ss) : tk_W X nL pc ls st S cs ss := by
  obtain ⟨p, l, e, R, s, m, args, below, meth, c, D, Y, V, A, Q⟩ := X
  obtain ⟨hx, hb, hml, hown, hts, hK, hA, hlk, hO⟩ := C
  intro H locs la hP hD hS hl
  exact lv_sipush hx hb hd hv (k _ _ _ _ _ h H locs la hP hD hS hl)
theorem s_lconst {X : tk_X} {cc : ByteArray} {nL : Nat} {own : String} {Ts : List Cond} {pc : Nat} {ls : List (Option Value)} {st : List Value} {S : tk_S} {cs ss : Nat} {K : tk_K} {n : Fin 2} {v : Int64} (C : tk_C X cc nL own Ts) (hd : decode cc pc = .ok (.lconst n, 1)) (hv : Int64.ofNat (n : Nat) = v) (h : i_push (.long v) K ls st S cs ss) (k : ∀ ls st S cs ss, K ls st S cs ss → tk_W X nL (pc + 1) ls st S cs ss) : tk_W X nL pc ls st S cs ss := by
  obtain ⟨p, l, e, R, s, m, args, below, meth, c, D, Y, V, A, Q⟩ := X
  obtain ⟨hx, hb, hml, hown, hts, hK, hA, hlk, hO⟩ := C
  intro H locs la hP hD hS hl
  exact lv_lconst hx hb hd hv (k _ _ _ _ _ h H locs la hP hD hS hl)
theorem s_null {X : tk_X} {cc : ByteArray} {nL : Nat} {own : String} {Ts : List Cond} {pc : Nat} {ls : List (Option Value)} {st : List Value} {S : tk_S} {cs ss : Nat} {K : tk_K}  (C : tk_C X cc nL own Ts) (hd : decode cc pc = .ok (.aconst_null, 1)) (h : i_push (.null) K ls st S cs ss) (k : ∀ ls st S cs ss, K ls st S cs ss → tk_W X nL (pc + 1) ls st S cs ss) : tk_W X nL pc ls st S cs ss := by
  obtain ⟨p, l, e, R, s, m, args, below, meth, c, D, Y, V, A, Q⟩ := X
  obtain ⟨hx, hb, hml, hown, hts, hK, hA, hlk, hO⟩ := C
  intro H locs la hP hD hS hl
  exact lv_null hx hb hd (k _ _ _ _ _ h H locs la hP hD hS hl)
theorem s_ldc {X : tk_X} {cc : ByteArray} {nL : Nat} {own : String} {Ts : List Cond} {pc : Nat} {ls : List (Option Value)} {st : List Value} {S : tk_S} {cs ss : Nat} {K : tk_K} {n : Nat} {v : Int32} (C : tk_C X cc nL own Ts) (hd : decode cc pc = .ok (.ldc n, 2)) (hc : Cond.constant own n v ∈ Ts) (h : i_push (.int v) K ls st S cs ss) (k : ∀ ls st S cs ss, K ls st S cs ss → tk_W X nL (pc + 2) ls st S cs ss) : tk_W X nL pc ls st S cs ss := by
  obtain ⟨p, l, e, R, s, m, args, below, meth, c, D, Y, V, A, Q⟩ := X
  obtain ⟨hx, hb, hml, hown, hts, hK, hA, hlk, hO⟩ := C
  intro H locs la hP hD hS hl
  exact lv_ldc hx hb hown (hts _ hc) hd (k _ _ _ _ _ h H locs la hP hD hS hl)
theorem s_ldcw {X : tk_X} {cc : ByteArray} {nL : Nat} {own : String} {Ts : List Cond} {pc : Nat} {ls : List (Option Value)} {st : List Value} {S : tk_S} {cs ss : Nat} {K : tk_K} {n : Nat} {v : Int32} (C : tk_C X cc nL own Ts) (hd : decode cc pc = .ok (.ldc_w n, 3)) (hc : Cond.constant own n v ∈ Ts) (h : i_push (.int v) K ls st S cs ss) (k : ∀ ls st S cs ss, K ls st S cs ss → tk_W X nL (pc + 3) ls st S cs ss) : tk_W X nL pc ls st S cs ss := by
  obtain ⟨p, l, e, R, s, m, args, below, meth, c, D, Y, V, A, Q⟩ := X
  obtain ⟨hx, hb, hml, hown, hts, hK, hA, hlk, hO⟩ := C
  intro H locs la hP hD hS hl
  exact lv_ldcw hx hb hown (hts _ hc) hd (k _ _ _ _ _ h H locs la hP hD hS hl)
theorem s_ldc2 {X : tk_X} {cc : ByteArray} {nL : Nat} {own : String} {Ts : List Cond} {pc : Nat} {ls : List (Option Value)} {st : List Value} {S : tk_S} {cs ss : Nat} {K : tk_K} {n : Nat} {v : Int64} (C : tk_C X cc nL own Ts) (hd : decode cc pc = .ok (.ldc2_w n, 3)) (hc : Cond.constantLong own n v ∈ Ts) (h : i_push (.long v) K ls st S cs ss) (k : ∀ ls st S cs ss, K ls st S cs ss → tk_W X nL (pc + 3) ls st S cs ss) : tk_W X nL pc ls st S cs ss := by
  obtain ⟨p, l, e, R, s, m, args, below, meth, c, D, Y, V, A, Q⟩ := X
  obtain ⟨hx, hb, hml, hown, hts, hK, hA, hlk, hO⟩ := C
  intro H locs la hP hD hS hl
  exact lv_ldc2 hx hb hown (hts _ hc) hd (k _ _ _ _ _ h H locs la hP hD hS hl)
def i_iload (i : Nat) : tk_K → tk_K := fun K ls st S cs ss => match ls.getD i none with
  | some (.int x) => K ls (.int x :: st) S cs ss
  | _ => False
theorem s_iload {X : tk_X} {cc : ByteArray} {nL : Nat} {own : String} {Ts : List Cond} {pc : Nat} {ls : List (Option Value)} {st : List Value} {S : tk_S} {cs ss : Nat} {K : tk_K} {i : Nat} (C : tk_C X cc nL own Ts) (hd : decode cc pc = .ok (.iload i, 2)) (h : i_iload i K ls st S cs ss) (k : ∀ ls st S cs ss, K ls st S cs ss → tk_W X nL (pc + 2) ls st S cs ss) : tk_W X nL pc ls st S cs ss := by
  obtain ⟨p, l, e, R, s, m, args, below, meth, c, D, Y, V, A, Q⟩ := X
  obtain ⟨hx, hb, hml, hown, hts, hK, hA, hlk, hO⟩ := C
  intro H locs la hP hD hS hl
  unfold i_iload at h
  split at h
  · exact lv_iload hx hb hd (hl.at (by assumption)) (k _ _ _ _ _ h H locs la hP hD hS hl)
  · exact h.elim
theorem s_iload_n {X : tk_X} {cc : ByteArray} {nL : Nat} {own : String} {Ts : List Cond} {pc : Nat} {ls : List (Option Value)} {st : List Value} {S : tk_S} {cs ss : Nat} {K : tk_K} {i : Nat} {j : Fin 4} (C : tk_C X cc nL own Ts) (hd : decode cc pc = .ok (.iload_n j, 1)) (hj : (j : Nat) = i) (h : i_iload i K ls st S cs ss) (k : ∀ ls st S cs ss, K ls st S cs ss → tk_W X nL (pc + 1) ls st S cs ss) : tk_W X nL pc ls st S cs ss := by
  obtain ⟨p, l, e, R, s, m, args, below, meth, c, D, Y, V, A, Q⟩ := X
  obtain ⟨hx, hb, hml, hown, hts, hK, hA, hlk, hO⟩ := C
  intro H locs la hP hD hS hl
  unfold i_iload at h
  split at h
  · exact lv_iload_n hx hb hd hj (hl.at (by assumption)) (k _ _ _ _ _ h H locs la hP hD hS hl)
  · exact h.elim
def i_lload (i : Nat) : tk_K → tk_K := fun K ls st S cs ss => match ls.getD i none with
  | some (.long x) => K ls (.long x :: st) S cs ss
  | _ => False
theorem s_lload {X : tk_X} {cc : ByteArray} {nL : Nat} {own : String} {Ts : List Cond} {pc : Nat} {ls : List (Option Value)} {st : List Value} {S : tk_S} {cs ss : Nat} {K : tk_K} {i : Nat} (C : tk_C X cc nL own Ts) (hd : decode cc pc = .ok (.lload i, 2)) (h : i_lload i K ls st S cs ss) (k : ∀ ls st S cs ss, K ls st S cs ss → tk_W X nL (pc + 2) ls st S cs ss) : tk_W X nL pc ls st S cs ss := by
  obtain ⟨p, l, e, R, s, m, args, below, meth, c, D, Y, V, A, Q⟩ := X
  obtain ⟨hx, hb, hml, hown, hts, hK, hA, hlk, hO⟩ := C
  intro H locs la hP hD hS hl
  unfold i_lload at h
  split at h
  · exact lv_lload hx hb hd (hl.at (by assumption)) (k _ _ _ _ _ h H locs la hP hD hS hl)
  · exact h.elim
theorem s_lload_n {X : tk_X} {cc : ByteArray} {nL : Nat} {own : String} {Ts : List Cond} {pc : Nat} {ls : List (Option Value)} {st : List Value} {S : tk_S} {cs ss : Nat} {K : tk_K} {i : Nat} {j : Fin 4} (C : tk_C X cc nL own Ts) (hd : decode cc pc = .ok (.lload_n j, 1)) (hj : (j : Nat) = i) (h : i_lload i K ls st S cs ss) (k : ∀ ls st S cs ss, K ls st S cs ss → tk_W X nL (pc + 1) ls st S cs ss) : tk_W X nL pc ls st S cs ss := by
  obtain ⟨p, l, e, R, s, m, args, below, meth, c, D, Y, V, A, Q⟩ := X
  obtain ⟨hx, hb, hml, hown, hts, hK, hA, hlk, hO⟩ := C
  intro H locs la hP hD hS hl
  unfold i_lload at h
  split at h
  · exact lv_lload_n hx hb hd hj (hl.at (by assumption)) (k _ _ _ _ _ h H locs la hP hD hS hl)
  · exact h.elim
def i_aload (i : Nat) : tk_K → tk_K := fun K ls st S cs ss => match ls.getD i none with
  | some v => tk_isR v ∧ K ls (v :: st) S cs ss
  | _ => False
theorem s_aload {X : tk_X} {cc : ByteArray} {nL : Nat} {own : String} {Ts : List Cond} {pc : Nat} {ls : List (Option Value)} {st : List Value} {S : tk_S} {cs ss : Nat} {K : tk_K} {i : Nat} (C : tk_C X cc nL own Ts) (hd : decode cc pc = .ok (.aload i, 2)) (h : i_aload i K ls st S cs ss) (k : ∀ ls st S cs ss, K ls st S cs ss → tk_W X nL (pc + 2) ls st S cs ss) : tk_W X nL pc ls st S cs ss := by
  obtain ⟨p, l, e, R, s, m, args, below, meth, c, D, Y, V, A, Q⟩ := X
  obtain ⟨hx, hb, hml, hown, hts, hK, hA, hlk, hO⟩ := C
  intro H locs la hP hD hS hl
  unfold i_aload at h
  split at h
  · obtain ⟨hr, h⟩ := h
    rcases hr with rfl | ⟨a, rfl⟩
    · exact lv_aloadN hx hb hd (hl.at (by assumption)) (k _ _ _ _ _ h H locs la hP hD hS hl)
    · exact lv_aload hx hb hd (hl.at (by assumption)) (k _ _ _ _ _ h H locs la hP hD hS hl)
  · exact h.elim
theorem s_aload_n {X : tk_X} {cc : ByteArray} {nL : Nat} {own : String} {Ts : List Cond} {pc : Nat} {ls : List (Option Value)} {st : List Value} {S : tk_S} {cs ss : Nat} {K : tk_K} {i : Nat} {j : Fin 4} (C : tk_C X cc nL own Ts) (hd : decode cc pc = .ok (.aload_n j, 1)) (hj : (j : Nat) = i) (h : i_aload i K ls st S cs ss) (k : ∀ ls st S cs ss, K ls st S cs ss → tk_W X nL (pc + 1) ls st S cs ss) : tk_W X nL pc ls st S cs ss := by
  obtain ⟨p, l, e, R, s, m, args, below, meth, c, D, Y, V, A, Q⟩ := X
  obtain ⟨hx, hb, hml, hown, hts, hK, hA, hlk, hO⟩ := C
  intro H locs la hP hD hS hl
  unfold i_aload at h
  split at h
  · obtain ⟨hr, h⟩ := h
    rcases hr with rfl | ⟨a, rfl⟩
    · exact lv_aload_nN hx hb hd hj (hl.at (by assumption)) (k _ _ _ _ _ h H locs la hP hD hS hl)
    · exact lv_aload_n hx hb hd hj (hl.at (by assumption)) (k _ _ _ _ _ h H locs la hP hD hS hl)
  · exact h.elim
def i_istore (i : Nat) : tk_K → tk_K := fun K ls st S cs ss => match st with
  | .int x :: r => tk_c2 ls i = true ∧ K (ls.set i (some (.int x))) r S cs ss
  | _ => False
theorem s_istore {X : tk_X} {cc : ByteArray} {nL : Nat} {own : String} {Ts : List Cond} {pc : Nat} {ls : List (Option Value)} {st : List Value} {S : tk_S} {cs ss : Nat} {K : tk_K} {i : Nat} (C : tk_C X cc nL own Ts) (hd : decode cc pc = .ok (.istore i, 2)) (hn : i < nL) (h : i_istore i K ls st S cs ss) (k : ∀ ls st S cs ss, K ls st S cs ss → tk_W X nL (pc + 2) ls st S cs ss) : tk_W X nL pc ls st S cs ss := by
  obtain ⟨p, l, e, R, s, m, args, below, meth, c, D, Y, V, A, Q⟩ := X
  obtain ⟨hx, hb, hml, hown, hts, hK, hA, hlk, hO⟩ := C
  intro H locs la hP hD hS hl
  unfold i_istore at h
  split at h
  · exact lv_istore hx hb hd hl.has hn rfl (fun la2 h2 => k _ _ _ _ _ h.2 H locs la2 hP hD hS (hl.st1 h.1 h2))
  · exact h.elim
theorem s_istore_n {X : tk_X} {cc : ByteArray} {nL : Nat} {own : String} {Ts : List Cond} {pc : Nat} {ls : List (Option Value)} {st : List Value} {S : tk_S} {cs ss : Nat} {K : tk_K} {i : Nat} {j : Fin 4} (C : tk_C X cc nL own Ts) (hd : decode cc pc = .ok (.istore_n j, 1)) (hj : (j : Nat) = i) (hn : i < nL) (h : i_istore i K ls st S cs ss) (k : ∀ ls st S cs ss, K ls st S cs ss → tk_W X nL (pc + 1) ls st S cs ss) : tk_W X nL pc ls st S cs ss := by
  obtain ⟨p, l, e, R, s, m, args, below, meth, c, D, Y, V, A, Q⟩ := X
  obtain ⟨hx, hb, hml, hown, hts, hK, hA, hlk, hO⟩ := C
  intro H locs la hP hD hS hl
  unfold i_istore at h
  split at h
  · exact lv_istore_n hx hb hd hj hl.has hn rfl (fun la2 h2 => k _ _ _ _ _ h.2 H locs la2 hP hD hS (hl.st1 h.1 h2))
  · exact h.elim
def i_lstore (i : Nat) : tk_K → tk_K := fun K ls st S cs ss => match st with
  | .long x :: r => tk_c2 ls i = true ∧ K ((ls.set i (some (.long x))).set (i + 1) none) r S cs ss
  | _ => False
theorem s_lstore {X : tk_X} {cc : ByteArray} {nL : Nat} {own : String} {Ts : List Cond} {pc : Nat} {ls : List (Option Value)} {st : List Value} {S : tk_S} {cs ss : Nat} {K : tk_K} {i : Nat} (C : tk_C X cc nL own Ts) (hd : decode cc pc = .ok (.lstore i, 2)) (hn : i + 1 < nL) (h : i_lstore i K ls st S cs ss) (k : ∀ ls st S cs ss, K ls st S cs ss → tk_W X nL (pc + 2) ls st S cs ss) : tk_W X nL pc ls st S cs ss := by
  obtain ⟨p, l, e, R, s, m, args, below, meth, c, D, Y, V, A, Q⟩ := X
  obtain ⟨hx, hb, hml, hown, hts, hK, hA, hlk, hO⟩ := C
  intro H locs la hP hD hS hl
  unfold i_lstore at h
  split at h
  · exact lv_lstore hx hb hd hl.has hn rfl (fun la2 h2 => k _ _ _ _ _ h.2 H locs la2 hP hD hS (hl.st2 h.1 h2))
  · exact h.elim
theorem s_lstore_n {X : tk_X} {cc : ByteArray} {nL : Nat} {own : String} {Ts : List Cond} {pc : Nat} {ls : List (Option Value)} {st : List Value} {S : tk_S} {cs ss : Nat} {K : tk_K} {i : Nat} {j : Fin 4} (C : tk_C X cc nL own Ts) (hd : decode cc pc = .ok (.lstore_n j, 1)) (hj : (j : Nat) = i) (hn : i + 1 < nL) (h : i_lstore i K ls st S cs ss) (k : ∀ ls st S cs ss, K ls st S cs ss → tk_W X nL (pc + 1) ls st S cs ss) : tk_W X nL pc ls st S cs ss := by
  obtain ⟨p, l, e, R, s, m, args, below, meth, c, D, Y, V, A, Q⟩ := X
  obtain ⟨hx, hb, hml, hown, hts, hK, hA, hlk, hO⟩ := C
  intro H locs la hP hD hS hl
  unfold i_lstore at h
  split at h
  · exact lv_lstore_n hx hb hd hj hl.has hn rfl (fun la2 h2 => k _ _ _ _ _ h.2 H locs la2 hP hD hS (hl.st2 h.1 h2))
  · exact h.elim
def i_astore (i : Nat) : tk_K → tk_K := fun K ls st S cs ss => match st with
  | v :: r => tk_isR v ∧ tk_c2 ls i = true ∧ K (ls.set i (some v)) r S cs ss
  | _ => False
theorem s_astore {X : tk_X} {cc : ByteArray} {nL : Nat} {own : String} {Ts : List Cond} {pc : Nat} {ls : List (Option Value)} {st : List Value} {S : tk_S} {cs ss : Nat} {K : tk_K} {i : Nat} (C : tk_C X cc nL own Ts) (hd : decode cc pc = .ok (.astore i, 2)) (hn : i < nL) (h : i_astore i K ls st S cs ss) (k : ∀ ls st S cs ss, K ls st S cs ss → tk_W X nL (pc + 2) ls st S cs ss) : tk_W X nL pc ls st S cs ss := by
  obtain ⟨p, l, e, R, s, m, args, below, meth, c, D, Y, V, A, Q⟩ := X
  obtain ⟨hx, hb, hml, hown, hts, hK, hA, hlk, hO⟩ := C
  intro H locs la hP hD hS hl
  unfold i_astore at h
  split at h
  · obtain ⟨hr, h1, h⟩ := h
    rcases hr with rfl | ⟨a, rfl⟩
    · exact lv_astoreN hx hb hd hl.has hn rfl (fun la2 h2 => k _ _ _ _ _ h H locs la2 hP hD hS (hl.st1 h1 h2))
    · exact lv_astore hx hb hd hl.has hn rfl (fun la2 h2 => k _ _ _ _ _ h H locs la2 hP hD hS (hl.st1 h1 h2))
  · exact h.elim
theorem s_astore_n {X : tk_X} {cc : ByteArray} {nL : Nat} {own : String} {Ts : List Cond} {pc : Nat} {ls : List (Option Value)} {st : List Value} {S : tk_S} {cs ss : Nat} {K : tk_K} {i : Nat} {j : Fin 4} (C : tk_C X cc nL own Ts) (hd : decode cc pc = .ok (.astore_n j, 1)) (hj : (j : Nat) = i) (hn : i < nL) (h : i_astore i K ls st S cs ss) (k : ∀ ls st S cs ss, K ls st S cs ss → tk_W X nL (pc + 1) ls st S cs ss) : tk_W X nL pc ls st S cs ss := by
  obtain ⟨p, l, e, R, s, m, args, below, meth, c, D, Y, V, A, Q⟩ := X
  obtain ⟨hx, hb, hml, hown, hts, hK, hA, hlk, hO⟩ := C
  intro H locs la hP hD hS hl
  unfold i_astore at h
  split at h
  · obtain ⟨hr, h1, h⟩ := h
    rcases hr with rfl | ⟨a, rfl⟩
    · exact lv_astore_nN hx hb hd hj hl.has hn rfl (fun la2 h2 => k _ _ _ _ _ h H locs la2 hP hD hS (hl.st1 h1 h2))
    · exact lv_astore_n hx hb hd hj hl.has hn rfl (fun la2 h2 => k _ _ _ _ _ h H locs la2 hP hD hS (hl.st1 h1 h2))
  · exact h.elim
def i_iinc (i : Nat) (v : Int32) : tk_K → tk_K := fun K ls st S cs ss => match ls.getD i none with
  | some (.int x) => tk_c2 ls i = true ∧ K (ls.set i (some (.int (x + v)))) st S cs ss
  | _ => False
theorem s_iinc {X : tk_X} {cc : ByteArray} {nL : Nat} {own : String} {Ts : List Cond} {pc : Nat} {ls : List (Option Value)} {st : List Value} {S : tk_S} {cs ss : Nat} {K : tk_K} {i : Nat} {n : Int} {v : Int32} (C : tk_C X cc nL own Ts) (hd : decode cc pc = .ok (.iinc i n, 3)) (hv : Int32.ofInt n = v) (hn : i < nL) (h : i_iinc i v K ls st S cs ss) (k : ∀ ls st S cs ss, K ls st S cs ss → tk_W X nL (pc + 3) ls st S cs ss) : tk_W X nL pc ls st S cs ss := by
  obtain ⟨p, l, e, R, s, m, args, below, meth, c, D, Y, V, A, Q⟩ := X
  obtain ⟨hx, hb, hml, hown, hts, hK, hA, hlk, hO⟩ := C
  intro H locs la hP hD hS hl
  unfold i_iinc at h
  split at h
  · rename_i x hx1
    have hmem : (i, Value.int x) ∈ tk_prs ls := tk_prs_mem.mpr (by
      by_cases hi : i < ls.length
      · simpa [hi] using hx1
      · simp [hi] at hx1)
    obtain ⟨kk, hkk⟩ := List.mem_iff_getElem?.mp hmem
    subst hv
    exact lv_iinc hx hb hd hl.has hkk rfl hn rfl (fun la2 h2 => k _ _ _ _ _ h.2 H locs la2 hP hD hS (hl.st1 h.1 h2))
  · exact h.elim
def i_icmp_eq : tk_K → tk_K → tk_K := fun Kt Kf ls st S cs ss => match st with
  | .int y :: .int x :: r => (x = y → Kt ls r S cs ss) ∧ (¬ x = y → Kf ls r S cs ss)
  | _ => False
theorem s_icmp_eq {X : tk_X} {cc : ByteArray} {nL : Nat} {own : String} {Ts : List Cond} {pc : Nat} {ls : List (Option Value)} {st : List Value} {S : tk_S} {cs ss : Nat} {Kt Kf : tk_K} {off : Int} {tgt : Nat} (C : tk_C X cc nL own Ts) (hd : decode cc pc = .ok (.if_icmp .eq off, 3)) (ht : (pc : Int) + off = (tgt : Int)) (h : i_icmp_eq Kt Kf ls st S cs ss) (kt : ∀ ls st S cs ss, Kt ls st S cs ss → tk_W X nL tgt ls st S cs ss) (kf : ∀ ls st S cs ss, Kf ls st S cs ss → tk_W X nL (pc + 3) ls st S cs ss) : tk_W X nL pc ls st S cs ss := by
  obtain ⟨p, l, e, R, s, m, args, below, meth, c, D, Y, V, A, Q⟩ := X
  obtain ⟨hx, hb, hml, hown, hts, hK, hA, hlk, hO⟩ := C
  intro H locs la hP hD hS hl
  unfold i_icmp_eq at h
  split at h
  · exact lv_icmp_eq hx hb hd ht (fun q => kt _ _ _ _ _ (h.1 q) H locs la hP hD hS hl) (fun q => kf _ _ _ _ _ (h.2 q) H locs la hP hD hS hl)
  · exact h.elim
theorem s_icmp_ne {X : tk_X} {cc : ByteArray} {nL : Nat} {own : String} {Ts : List Cond} {pc : Nat} {ls : List (Option Value)} {st : List Value} {S : tk_S} {cs ss : Nat} {Kt Kf : tk_K} {off : Int} {tgt : Nat} (C : tk_C X cc nL own Ts) (hd : decode cc pc = .ok (.if_icmp .ne off, 3)) (ht : (pc : Int) + off = (tgt : Int)) (h : i_icmp_eq Kf Kt ls st S cs ss) (kt : ∀ ls st S cs ss, Kt ls st S cs ss → tk_W X nL tgt ls st S cs ss) (kf : ∀ ls st S cs ss, Kf ls st S cs ss → tk_W X nL (pc + 3) ls st S cs ss) : tk_W X nL pc ls st S cs ss := by
  obtain ⟨p, l, e, R, s, m, args, below, meth, c, D, Y, V, A, Q⟩ := X
  obtain ⟨hx, hb, hml, hown, hts, hK, hA, hlk, hO⟩ := C
  intro H locs la hP hD hS hl
  unfold i_icmp_eq at h
  split at h
  · exact lv_icmp_ne hx hb hd ht (fun q => kt _ _ _ _ _ (h.2 q) H locs la hP hD hS hl) (fun q => kf _ _ _ _ _ (h.1 q) H locs la hP hD hS hl)
  · exact h.elim
def i_icmp_lt : tk_K → tk_K → tk_K := fun Kt Kf ls st S cs ss => match st with
  | .int y :: .int x :: r => (x < y → Kt ls r S cs ss) ∧ (¬ x < y → Kf ls r S cs ss)
  | _ => False
theorem s_icmp_lt {X : tk_X} {cc : ByteArray} {nL : Nat} {own : String} {Ts : List Cond} {pc : Nat} {ls : List (Option Value)} {st : List Value} {S : tk_S} {cs ss : Nat} {Kt Kf : tk_K} {off : Int} {tgt : Nat} (C : tk_C X cc nL own Ts) (hd : decode cc pc = .ok (.if_icmp .lt off, 3)) (ht : (pc : Int) + off = (tgt : Int)) (h : i_icmp_lt Kt Kf ls st S cs ss) (kt : ∀ ls st S cs ss, Kt ls st S cs ss → tk_W X nL tgt ls st S cs ss) (kf : ∀ ls st S cs ss, Kf ls st S cs ss → tk_W X nL (pc + 3) ls st S cs ss) : tk_W X nL pc ls st S cs ss := by
  obtain ⟨p, l, e, R, s, m, args, below, meth, c, D, Y, V, A, Q⟩ := X
  obtain ⟨hx, hb, hml, hown, hts, hK, hA, hlk, hO⟩ := C
  intro H locs la hP hD hS hl
  unfold i_icmp_lt at h
  split at h
  · exact lv_icmp_lt hx hb hd ht (fun q => kt _ _ _ _ _ (h.1 q) H locs la hP hD hS hl) (fun q => kf _ _ _ _ _ (h.2 q) H locs la hP hD hS hl)
  · exact h.elim
def i_icmp_ge : tk_K → tk_K → tk_K := fun Kt Kf ls st S cs ss => match st with
  | .int y :: .int x :: r => (y ≤ x → Kt ls r S cs ss) ∧ (¬ y ≤ x → Kf ls r S cs ss)
  | _ => False
theorem s_icmp_ge {X : tk_X} {cc : ByteArray} {nL : Nat} {own : String} {Ts : List Cond} {pc : Nat} {ls : List (Option Value)} {st : List Value} {S : tk_S} {cs ss : Nat} {Kt Kf : tk_K} {off : Int} {tgt : Nat} (C : tk_C X cc nL own Ts) (hd : decode cc pc = .ok (.if_icmp .ge off, 3)) (ht : (pc : Int) + off = (tgt : Int)) (h : i_icmp_ge Kt Kf ls st S cs ss) (kt : ∀ ls st S cs ss, Kt ls st S cs ss → tk_W X nL tgt ls st S cs ss) (kf : ∀ ls st S cs ss, Kf ls st S cs ss → tk_W X nL (pc + 3) ls st S cs ss) : tk_W X nL pc ls st S cs ss := by
  obtain ⟨p, l, e, R, s, m, args, below, meth, c, D, Y, V, A, Q⟩ := X
  obtain ⟨hx, hb, hml, hown, hts, hK, hA, hlk, hO⟩ := C
  intro H locs la hP hD hS hl
  unfold i_icmp_ge at h
  split at h
  · exact lv_icmp_ge hx hb hd ht (fun q => kt _ _ _ _ _ (h.1 q) H locs la hP hD hS hl) (fun q => kf _ _ _ _ _ (h.2 q) H locs la hP hD hS hl)
  · exact h.elim
def i_icmp_gt : tk_K → tk_K → tk_K := fun Kt Kf ls st S cs ss => match st with
  | .int y :: .int x :: r => (y < x → Kt ls r S cs ss) ∧ (¬ y < x → Kf ls r S cs ss)
  | _ => False
theorem s_icmp_gt {X : tk_X} {cc : ByteArray} {nL : Nat} {own : String} {Ts : List Cond} {pc : Nat} {ls : List (Option Value)} {st : List Value} {S : tk_S} {cs ss : Nat} {Kt Kf : tk_K} {off : Int} {tgt : Nat} (C : tk_C X cc nL own Ts) (hd : decode cc pc = .ok (.if_icmp .gt off, 3)) (ht : (pc : Int) + off = (tgt : Int)) (h : i_icmp_gt Kt Kf ls st S cs ss) (kt : ∀ ls st S cs ss, Kt ls st S cs ss → tk_W X nL tgt ls st S cs ss) (kf : ∀ ls st S cs ss, Kf ls st S cs ss → tk_W X nL (pc + 3) ls st S cs ss) : tk_W X nL pc ls st S cs ss := by
  obtain ⟨p, l, e, R, s, m, args, below, meth, c, D, Y, V, A, Q⟩ := X
  obtain ⟨hx, hb, hml, hown, hts, hK, hA, hlk, hO⟩ := C
  intro H locs la hP hD hS hl
  unfold i_icmp_gt at h
  split at h
  · exact lv_icmp_gt hx hb hd ht (fun q => kt _ _ _ _ _ (h.1 q) H locs la hP hD hS hl) (fun q => kf _ _ _ _ _ (h.2 q) H locs la hP hD hS hl)
  · exact h.elim
def i_icmp_le : tk_K → tk_K → tk_K := fun Kt Kf ls st S cs ss => match st with
  | .int y :: .int x :: r => (x ≤ y → Kt ls r S cs ss) ∧ (¬ x ≤ y → Kf ls r S cs ss)
  | _ => False
theorem s_icmp_le {X : tk_X} {cc : ByteArray} {nL : Nat} {own : String} {Ts : List Cond} {pc : Nat} {ls : List (Option Value)} {st : List Value} {S : tk_S} {cs ss : Nat} {Kt Kf : tk_K} {off : Int} {tgt : Nat} (C : tk_C X cc nL own Ts) (hd : decode cc pc = .ok (.if_icmp .le off, 3)) (ht : (pc : Int) + off = (tgt : Int)) (h : i_icmp_le Kt Kf ls st S cs ss) (kt : ∀ ls st S cs ss, Kt ls st S cs ss → tk_W X nL tgt ls st S cs ss) (kf : ∀ ls st S cs ss, Kf ls st S cs ss → tk_W X nL (pc + 3) ls st S cs ss) : tk_W X nL pc ls st S cs ss := by
  obtain ⟨p, l, e, R, s, m, args, below, meth, c, D, Y, V, A, Q⟩ := X
  obtain ⟨hx, hb, hml, hown, hts, hK, hA, hlk, hO⟩ := C
  intro H locs la hP hD hS hl
  unfold i_icmp_le at h
  split at h
  · exact lv_icmp_le hx hb hd ht (fun q => kt _ _ _ _ _ (h.1 q) H locs la hP hD hS hl) (fun q => kf _ _ _ _ _ (h.2 q) H locs la hP hD hS hl)
  · exact h.elim
def i_if_eq : tk_K → tk_K → tk_K := fun Kt Kf ls st S cs ss => match st with
  | .int x :: r => (x = 0 → Kt ls r S cs ss) ∧ (¬ x = 0 → Kf ls r S cs ss)
  | _ => False
theorem s_if_eq {X : tk_X} {cc : ByteArray} {nL : Nat} {own : String} {Ts : List Cond} {pc : Nat} {ls : List (Option Value)} {st : List Value} {S : tk_S} {cs ss : Nat} {Kt Kf : tk_K} {off : Int} {tgt : Nat} (C : tk_C X cc nL own Ts) (hd : decode cc pc = .ok (.ifCond .eq off, 3)) (ht : (pc : Int) + off = (tgt : Int)) (h : i_if_eq Kt Kf ls st S cs ss) (kt : ∀ ls st S cs ss, Kt ls st S cs ss → tk_W X nL tgt ls st S cs ss) (kf : ∀ ls st S cs ss, Kf ls st S cs ss → tk_W X nL (pc + 3) ls st S cs ss) : tk_W X nL pc ls st S cs ss := by
  obtain ⟨p, l, e, R, s, m, args, below, meth, c, D, Y, V, A, Q⟩ := X
  obtain ⟨hx, hb, hml, hown, hts, hK, hA, hlk, hO⟩ := C
  intro H locs la hP hD hS hl
  unfold i_if_eq at h
  split at h
  · exact lv_if_eq hx hb hd ht (fun q => kt _ _ _ _ _ (h.1 q) H locs la hP hD hS hl) (fun q => kf _ _ _ _ _ (h.2 q) H locs la hP hD hS hl)
  · exact h.elim
theorem s_if_ne {X : tk_X} {cc : ByteArray} {nL : Nat} {own : String} {Ts : List Cond} {pc : Nat} {ls : List (Option Value)} {st : List Value} {S : tk_S} {cs ss : Nat} {Kt Kf : tk_K} {off : Int} {tgt : Nat} (C : tk_C X cc nL own Ts) (hd : decode cc pc = .ok (.ifCond .ne off, 3)) (ht : (pc : Int) + off = (tgt : Int)) (h : i_if_eq Kf Kt ls st S cs ss) (kt : ∀ ls st S cs ss, Kt ls st S cs ss → tk_W X nL tgt ls st S cs ss) (kf : ∀ ls st S cs ss, Kf ls st S cs ss → tk_W X nL (pc + 3) ls st S cs ss) : tk_W X nL pc ls st S cs ss := by
  obtain ⟨p, l, e, R, s, m, args, below, meth, c, D, Y, V, A, Q⟩ := X
  obtain ⟨hx, hb, hml, hown, hts, hK, hA, hlk, hO⟩ := C
  intro H locs la hP hD hS hl
  unfold i_if_eq at h
  split at h
  · exact lv_if_ne hx hb hd ht (fun q => kt _ _ _ _ _ (h.2 q) H locs la hP hD hS hl) (fun q => kf _ _ _ _ _ (h.1 q) H locs la hP hD hS hl)
  · exact h.elim
def i_if_lt : tk_K → tk_K → tk_K := fun Kt Kf ls st S cs ss => match st with
  | .int x :: r => (x < 0 → Kt ls r S cs ss) ∧ (¬ x < 0 → Kf ls r S cs ss)
  | _ => False
theorem s_if_lt {X : tk_X} {cc : ByteArray} {nL : Nat} {own : String} {Ts : List Cond} {pc : Nat} {ls : List (Option Value)} {st : List Value} {S : tk_S} {cs ss : Nat} {Kt Kf : tk_K} {off : Int} {tgt : Nat} (C : tk_C X cc nL own Ts) (hd : decode cc pc = .ok (.ifCond .lt off, 3)) (ht : (pc : Int) + off = (tgt : Int)) (h : i_if_lt Kt Kf ls st S cs ss) (kt : ∀ ls st S cs ss, Kt ls st S cs ss → tk_W X nL tgt ls st S cs ss) (kf : ∀ ls st S cs ss, Kf ls st S cs ss → tk_W X nL (pc + 3) ls st S cs ss) : tk_W X nL pc ls st S cs ss := by
  obtain ⟨p, l, e, R, s, m, args, below, meth, c, D, Y, V, A, Q⟩ := X
  obtain ⟨hx, hb, hml, hown, hts, hK, hA, hlk, hO⟩ := C
  intro H locs la hP hD hS hl
  unfold i_if_lt at h
  split at h
  · exact lv_if_lt hx hb hd ht (fun q => kt _ _ _ _ _ (h.1 q) H locs la hP hD hS hl) (fun q => kf _ _ _ _ _ (h.2 q) H locs la hP hD hS hl)
  · exact h.elim
def i_if_ge : tk_K → tk_K → tk_K := fun Kt Kf ls st S cs ss => match st with
  | .int x :: r => (0 ≤ x → Kt ls r S cs ss) ∧ (¬ 0 ≤ x → Kf ls r S cs ss)
  | _ => False
theorem s_if_ge {X : tk_X} {cc : ByteArray} {nL : Nat} {own : String} {Ts : List Cond} {pc : Nat} {ls : List (Option Value)} {st : List Value} {S : tk_S} {cs ss : Nat} {Kt Kf : tk_K} {off : Int} {tgt : Nat} (C : tk_C X cc nL own Ts) (hd : decode cc pc = .ok (.ifCond .ge off, 3)) (ht : (pc : Int) + off = (tgt : Int)) (h : i_if_ge Kt Kf ls st S cs ss) (kt : ∀ ls st S cs ss, Kt ls st S cs ss → tk_W X nL tgt ls st S cs ss) (kf : ∀ ls st S cs ss, Kf ls st S cs ss → tk_W X nL (pc + 3) ls st S cs ss) : tk_W X nL pc ls st S cs ss := by
  obtain ⟨p, l, e, R, s, m, args, below, meth, c, D, Y, V, A, Q⟩ := X
  obtain ⟨hx, hb, hml, hown, hts, hK, hA, hlk, hO⟩ := C
  intro H locs la hP hD hS hl
  unfold i_if_ge at h
  split at h
  · exact lv_if_ge hx hb hd ht (fun q => kt _ _ _ _ _ (h.1 q) H locs la hP hD hS hl) (fun q => kf _ _ _ _ _ (h.2 q) H locs la hP hD hS hl)
  · exact h.elim
def i_if_gt : tk_K → tk_K → tk_K := fun Kt Kf ls st S cs ss => match st with
  | .int x :: r => (0 < x → Kt ls r S cs ss) ∧ (¬ 0 < x → Kf ls r S cs ss)
  | _ => False
theorem s_if_gt {X : tk_X} {cc : ByteArray} {nL : Nat} {own : String} {Ts : List Cond} {pc : Nat} {ls : List (Option Value)} {st : List Value} {S : tk_S} {cs ss : Nat} {Kt Kf : tk_K} {off : Int} {tgt : Nat} (C : tk_C X cc nL own Ts) (hd : decode cc pc = .ok (.ifCond .gt off, 3)) (ht : (pc : Int) + off = (tgt : Int)) (h : i_if_gt Kt Kf ls st S cs ss) (kt : ∀ ls st S cs ss, Kt ls st S cs ss → tk_W X nL tgt ls st S cs ss) (kf : ∀ ls st S cs ss, Kf ls st S cs ss → tk_W X nL (pc + 3) ls st S cs ss) : tk_W X nL pc ls st S cs ss := by
  obtain ⟨p, l, e, R, s, m, args, below, meth, c, D, Y, V, A, Q⟩ := X
  obtain ⟨hx, hb, hml, hown, hts, hK, hA, hlk, hO⟩ := C
  intro H locs la hP hD hS hl
  unfold i_if_gt at h
  split at h
  · exact lv_if_gt hx hb hd ht (fun q => kt _ _ _ _ _ (h.1 q) H locs la hP hD hS hl) (fun q => kf _ _ _ _ _ (h.2 q) H locs la hP hD hS hl)
  · exact h.elim
def i_if_le : tk_K → tk_K → tk_K := fun Kt Kf ls st S cs ss => match st with
  | .int x :: r => (x ≤ 0 → Kt ls r S cs ss) ∧ (¬ x ≤ 0 → Kf ls r S cs ss)
  | _ => False
theorem s_if_le {X : tk_X} {cc : ByteArray} {nL : Nat} {own : String} {Ts : List Cond} {pc : Nat} {ls : List (Option Value)} {st : List Value} {S : tk_S} {cs ss : Nat} {Kt Kf : tk_K} {off : Int} {tgt : Nat} (C : tk_C X cc nL own Ts) (hd : decode cc pc = .ok (.ifCond .le off, 3)) (ht : (pc : Int) + off = (tgt : Int)) (h : i_if_le Kt Kf ls st S cs ss) (kt : ∀ ls st S cs ss, Kt ls st S cs ss → tk_W X nL tgt ls st S cs ss) (kf : ∀ ls st S cs ss, Kf ls st S cs ss → tk_W X nL (pc + 3) ls st S cs ss) : tk_W X nL pc ls st S cs ss := by
  obtain ⟨p, l, e, R, s, m, args, below, meth, c, D, Y, V, A, Q⟩ := X
  obtain ⟨hx, hb, hml, hown, hts, hK, hA, hlk, hO⟩ := C
  intro H locs la hP hD hS hl
  unfold i_if_le at h
  split at h
  · exact lv_if_le hx hb hd ht (fun q => kt _ _ _ _ _ (h.1 q) H locs la hP hD hS hl) (fun q => kf _ _ _ _ _ (h.2 q) H locs la hP hD hS hl)
  · exact h.elim
def i_goto : tk_K → tk_K := fun K => K
theorem s_goto {X : tk_X} {cc : ByteArray} {nL : Nat} {own : String} {Ts : List Cond} {pc : Nat} {ls : List (Option Value)} {st : List Value} {S : tk_S} {cs ss : Nat} {K : tk_K} {off : Int} {tgt : Nat} (C : tk_C X cc nL own Ts) (hd : decode cc pc = .ok (.goto off, 3)) (ht : (pc : Int) + off = (tgt : Int)) (h : i_goto K ls st S cs ss) (k : ∀ ls st S cs ss, K ls st S cs ss → tk_W X nL tgt ls st S cs ss) : tk_W X nL pc ls st S cs ss := by
  obtain ⟨p, l, e, R, s, m, args, below, meth, c, D, Y, V, A, Q⟩ := X
  obtain ⟨hx, hb, hml, hown, hts, hK, hA, hlk, hO⟩ := C
  intro H locs la hP hD hS hl
  exact lv_goto hx hb hd ht (k _ _ _ _ _ h H locs la hP hD hS hl)
def i_ifnull : tk_K → tk_K → tk_K := fun Kt Kf ls st S cs ss => match st with
  | v :: r => tk_isR v ∧ (v = .null → Kt ls r S cs ss) ∧ (¬ v = .null → Kf ls r S cs ss)
  | _ => False
theorem s_ifnull {X : tk_X} {cc : ByteArray} {nL : Nat} {own : String} {Ts : List Cond} {pc : Nat} {ls : List (Option Value)} {st : List Value} {S : tk_S} {cs ss : Nat} {Kt Kf : tk_K} {off : Int} {tgt : Nat} (C : tk_C X cc nL own Ts) (hd : decode cc pc = .ok (.ifnull off, 3)) (ht : (pc : Int) + off = (tgt : Int)) (h : i_ifnull Kt Kf ls st S cs ss) (kt : ∀ ls st S cs ss, Kt ls st S cs ss → tk_W X nL tgt ls st S cs ss) (kf : ∀ ls st S cs ss, Kf ls st S cs ss → tk_W X nL (pc + 3) ls st S cs ss) : tk_W X nL pc ls st S cs ss := by
  obtain ⟨p, l, e, R, s, m, args, below, meth, c, D, Y, V, A, Q⟩ := X
  obtain ⟨hx, hb, hml, hown, hts, hK, hA, hlk, hO⟩ := C
  intro H locs la hP hD hS hl
  unfold i_ifnull at h
  split at h
  · obtain ⟨hr, h1, h2⟩ := h
    rcases hr with rfl | ⟨a, rfl⟩
    · exact lv_ifnullN hx hb hd ht (kt _ _ _ _ _ (h1 rfl) H locs la hP hD hS hl)
    · exact lv_ifnull hx hb hd (kf _ _ _ _ _ (h2 (by simp)) H locs la hP hD hS hl)
  · exact h.elim
theorem s_ifnonnull {X : tk_X} {cc : ByteArray} {nL : Nat} {own : String} {Ts : List Cond} {pc : Nat} {ls : List (Option Value)} {st : List Value} {S : tk_S} {cs ss : Nat} {Kt Kf : tk_K} {off : Int} {tgt : Nat} (C : tk_C X cc nL own Ts) (hd : decode cc pc = .ok (.ifnonnull off, 3)) (ht : (pc : Int) + off = (tgt : Int)) (h : i_ifnull Kf Kt ls st S cs ss) (kt : ∀ ls st S cs ss, Kt ls st S cs ss → tk_W X nL tgt ls st S cs ss) (kf : ∀ ls st S cs ss, Kf ls st S cs ss → tk_W X nL (pc + 3) ls st S cs ss) : tk_W X nL pc ls st S cs ss := by
  obtain ⟨p, l, e, R, s, m, args, below, meth, c, D, Y, V, A, Q⟩ := X
  obtain ⟨hx, hb, hml, hown, hts, hK, hA, hlk, hO⟩ := C
  intro H locs la hP hD hS hl
  unfold i_ifnull at h
  split at h
  · obtain ⟨hr, h1, h2⟩ := h
    rcases hr with rfl | ⟨a, rfl⟩
    · exact lv_ifnonnullN hx hb hd (kf _ _ _ _ _ (h1 rfl) H locs la hP hD hS hl)
    · exact lv_ifnonnull hx hb hd ht (kt _ _ _ _ _ (h2 (by simp)) H locs la hP hD hS hl)
  · exact h.elim

/-! the pool behind a write, as a world -/
theorem tk_val_sI (S : tk_S) (c k a : Nat) (v : Int32) (c' j b : Nat) : tk_val (s_I S c k a v) c' j b = if tk_tag c' j = 0 ∧ c' = c ∧ j = k ∧ b = a then .int v else tk_val S c' j b := by
  unfold tk_val
  show (if tk_tag c' j = 0 then Value.int (if c' = c ∧ j = k ∧ b = a then v else q_I S c' j b) else if tk_tag c' j = 1 then .long (q_J S c' j b) else va_rf (q_R S c' j b)) = _
  by_cases h2 : c' = c ∧ j = k ∧ b = a
  · obtain ⟨rfl, rfl, rfl⟩ := h2
    by_cases h : tk_tag c' j = 0 <;> simp [h]
  · by_cases h : tk_tag c' j = 0 <;> simp [h, h2]
theorem tk_val_sJ (S : tk_S) (c k a : Nat) (v : Int64) (c' j b : Nat) : tk_val (s_J S c k a v) c' j b = if tk_tag c' j = 1 ∧ c' = c ∧ j = k ∧ b = a then .long v else tk_val S c' j b := by
  unfold tk_val
  show (if tk_tag c' j = 0 then Value.int (q_I S c' j b) else if tk_tag c' j = 1 then .long (if c' = c ∧ j = k ∧ b = a then v else q_J S c' j b) else va_rf (q_R S c' j b)) = _
  by_cases h0 : tk_tag c' j = 0
  · simp [h0]
  · by_cases h2 : c' = c ∧ j = k ∧ b = a
    · obtain ⟨rfl, rfl, rfl⟩ := h2
      by_cases h : tk_tag c' j = 1 <;> simp [h0, h]
    · by_cases h : tk_tag c' j = 1 <;> simp [h0, h, h2]
theorem tk_val_sR (S : tk_S) (c k a : Nat) (v : Option Nat) (c' j b : Nat) : tk_val (s_R S c k a v) c' j b = if ¬ tk_tag c' j = 0 ∧ ¬ tk_tag c' j = 1 ∧ c' = c ∧ j = k ∧ b = a then va_rf v else tk_val S c' j b := by
  unfold tk_val
  show (if tk_tag c' j = 0 then Value.int (q_I S c' j b) else if tk_tag c' j = 1 then .long (q_J S c' j b) else va_rf (if c' = c ∧ j = k ∧ b = a then v else q_R S c' j b)) = _
  by_cases h0 : tk_tag c' j = 0
  · simp [h0]
  · by_cases h2 : c' = c ∧ j = k ∧ b = a
    · obtain ⟨rfl, rfl, rfl⟩ := h2
      by_cases h : tk_tag c' j = 1 <;> simp [h0, h]
    · by_cases h : tk_tag c' j = 1 <;> simp [h0, h, h2]
theorem tk_ent_w {Y : Nat → ClassId} {S S' : tk_S} {c k a : Nat} {v : Value} (h : q_K S a = c) (hc : c < 14) (hK : ∀ b, q_K S' b = q_K S b) (hn : ∀ b, q_n S' b = q_n S b) (h1 : ∀ b, q_aI S' b = q_aI S b) (h2 : ∀ b, q_aJ S' b = q_aJ S b) (h3 : ∀ b, q_aR S' b = q_aR S b)
    (hv : ∀ j, tk_val S' c j a = if j = k then v else tk_val S c j a) (ho : ∀ b, b ≠ a → ∀ c' j, tk_val S' c' j b = tk_val S c' j b) : ∀ b, va_up (tk_ent Y S) a (.inr (c, (tk_fs S c a).set k v)) b = tk_ent Y S' b := by
  intro b
  by_cases hb : b = a
  · subst hb
    rw [va_up_self, tk_ent_o (S := S') ((hK b).trans h) hc]
    have : (tk_fs S c b).set k v = tk_fs S' c b := by
      unfold tk_fs
      rw [tk_range_set]
      exact List.map_congr_left fun j _ => (hv j).symm
    rw [this]
  · rw [va_up_ne _ _ hb]
    unfold tk_ent tk_fs
    simp only [ho b hb, hK, hn, h1, h2, h3]
theorem tk_ent_sI {Y : Nat → ClassId} {S : tk_S} {c k a : Nat} {v : Int32} (h : q_K S a = c) (hc : c < 14) (ht : tk_tag c k = 0) : ∀ b, va_up (tk_ent Y S) a (.inr (c, (tk_fs S c a).set k (.int v))) b = tk_ent Y (s_I S c k a v) b :=
  tk_ent_w h hc (fun _ => rfl) (fun _ => rfl) (fun _ => rfl) (fun _ => rfl) (fun _ => rfl) (fun j => by
    rw [tk_val_sI]
    by_cases hj : j = k
    · subst hj; simp [ht]
    · simp [hj]) (fun b hb c' j => by rw [tk_val_sI]; simp [hb])
theorem tk_ent_sJ {Y : Nat → ClassId} {S : tk_S} {c k a : Nat} {v : Int64} (h : q_K S a = c) (hc : c < 14) (ht : tk_tag c k = 1) : ∀ b, va_up (tk_ent Y S) a (.inr (c, (tk_fs S c a).set k (.long v))) b = tk_ent Y (s_J S c k a v) b :=
  tk_ent_w h hc (fun _ => rfl) (fun _ => rfl) (fun _ => rfl) (fun _ => rfl) (fun _ => rfl) (fun j => by
    rw [tk_val_sJ]
    by_cases hj : j = k
    · subst hj; simp [ht]
    · simp [hj]) (fun b hb c' j => by rw [tk_val_sJ]; simp [hb])
theorem tk_ent_sR {Y : Nat → ClassId} {S : tk_S} {c k a : Nat} {v : Option Nat} (h : q_K S a = c) (hc : c < 14) (ht : tk_tag c k = 2) : ∀ b, va_up (tk_ent Y S) a (.inr (c, (tk_fs S c a).set k (va_rf v))) b = tk_ent Y (s_R S c k a v) b :=
  tk_ent_w h hc (fun _ => rfl) (fun _ => rfl) (fun _ => rfl) (fun _ => rfl) (fun _ => rfl) (fun j => by
    rw [tk_val_sR]
    by_cases hj : j = k
    · subst hj; simp [ht]
    · simp [hj]) (fun b hb c' j => by rw [tk_val_sR]; simp [hb])
theorem tk_ent_i {Y : Nat → ClassId} {S : tk_S} {a c : Nat} (h : q_K S a = c) (hc : c = 14 ∨ c = 15 ∨ c = 17) : tk_ent Y S a = .inl (Y c, q_n S a, .inl (q_aI S a)) := by
  subst h
  unfold tk_ent
  rw [if_neg (by omega), if_neg (by omega), if_neg (by omega)]
theorem tk_ent_j {Y : Nat → ClassId} {S : tk_S} {a : Nat} (h : q_K S a = 16) : tk_ent Y S a = .inl (Y 16, q_n S a, .inr (.inl (q_aJ S a))) := by simp [tk_ent, h]
theorem tk_ent_r {Y : Nat → ClassId} {S : tk_S} {a : Nat} (h : q_K S a = 18) : tk_ent Y S a = .inl (Y 18, q_n S a, .inr (.inr (.inr (.inr (q_aR S a))))) := by simp [tk_ent, h]
theorem tk_ent_saI {Y : Nat → ClassId} {S : tk_S} {a c : Nat} {f : Nat → Int32} (h : q_K S a = c) (hc : c = 14 ∨ c = 15 ∨ c = 17) : ∀ b, va_up (tk_ent Y S) a (.inl (Y c, q_n S a, .inl f)) b = tk_ent Y (s_aI S a f) b := by
  intro b
  by_cases hb : b = a
  · subst hb
    rw [va_up_self, tk_ent_i (S := s_aI S b f) (c := c) h hc]
    show _ = Sum.inl (Y c, q_n S b, Sum.inl (va_up (q_aI S) b f b))
    rw [va_up_self]
  · rw [va_up_ne _ _ hb]
    have e : q_aI (s_aI S a f) b = q_aI S b := va_up_ne _ _ hb
    show tk_ent Y S b = _
    unfold tk_ent
    rw [e]
    rfl
theorem tk_ent_saJ {Y : Nat → ClassId} {S : tk_S} {a : Nat} {f : Nat → Int64} (h : q_K S a = 16) : ∀ b, va_up (tk_ent Y S) a (.inl (Y 16, q_n S a, .inr (.inl f))) b = tk_ent Y (s_aJ S a f) b := by
  intro b
  by_cases hb : b = a
  · subst hb
    rw [va_up_self, tk_ent_j (S := s_aJ S b f) h]
    show _ = Sum.inl (Y 16, q_n S b, Sum.inr (Sum.inl (va_up (q_aJ S) b f b)))
    rw [va_up_self]
  · rw [va_up_ne _ _ hb]
    have e : q_aJ (s_aJ S a f) b = q_aJ S b := va_up_ne _ _ hb
    unfold tk_ent
    rw [e]
    rfl
theorem tk_ent_saR {Y : Nat → ClassId} {S : tk_S} {a : Nat} {f : Nat → Option Nat} (h : q_K S a = 18) : ∀ b, va_up (tk_ent Y S) a (.inl (Y 18, q_n S a, .inr (.inr (.inr (.inr f))))) b = tk_ent Y (s_aR S a f) b := by
  intro b
  by_cases hb : b = a
  · subst hb
    rw [va_up_self, tk_ent_r (S := s_aR S b f) h]
    show _ = Sum.inl (Y 18, q_n S b, Sum.inr (Sum.inr (Sum.inr (Sum.inr (va_up (q_aR S) b f b)))))
    rw [va_up_self]
  · rw [va_up_ne _ _ hb]
    have e : q_aR (s_aR S a f) b = q_aR S b := va_up_ne _ _ hb
    unfold tk_ent
    rw [e]
    rfl
/-- a new object's fields -/
def tk_df (c : Nat) : List Value := (List.range (tk_nf c)).map (fun k => if tk_tag c k = 0 then .int 0 else if tk_tag c k = 1 then .long 0 else .null)
theorem tk_push {Y : Nat → ClassId} {S S' : tk_S} {a : Nat} {e : va_E} (h : a ∉ q_L S) (hL : q_L S' = q_L S ++ [a]) (he : ∀ b, va_up (tk_ent Y S) a e b = tk_ent Y S' b) : tk_pl Y S ++ [(a, e)] = tk_pl Y S' := by
  unfold tk_pl
  rw [va_pl_push h, hL]
  exact va_pl_congr he
theorem tk_ent_new {Y : Nat → ClassId} {S : tk_S} {c a : Nat} (hc : c < 14) : ∀ b, va_up (tk_ent Y S) a (.inr (c, tk_df c)) b = tk_ent Y (s_new S c a) b := by
  intro b
  have hk : ∀ b, q_K (s_new S c a) b = if b = a then c else q_K S b := fun b => rfl
  by_cases hb : b = a
  · subst hb
    rw [va_up_self, tk_ent_o (S := s_new S c b) (c := c) (by rw [hk, if_pos rfl]) hc]
    have : tk_df c = tk_fs (s_new S c b) c b := by
      unfold tk_df tk_fs
      refine List.map_congr_left fun j _ => ?_
      unfold tk_val
      show _ = (if tk_tag c j = 0 then Value.int (if b = b then 0 else q_I S c j b) else if tk_tag c j = 1 then Value.long (if b = b then 0 else q_J S c j b) else va_rf (if b = b then none else q_R S c j b))
      simp [va_rf]
    rw [this]
  · rw [va_up_ne _ _ hb]
    have hv : ∀ c' j, tk_val (s_new S c a) c' j b = tk_val S c' j b := by
      intro c' j
      unfold tk_val
      show (if tk_tag c' j = 0 then Value.int (if b = a then 0 else q_I S c' j b) else if tk_tag c' j = 1 then Value.long (if b = a then 0 else q_J S c' j b) else va_rf (if b = a then none else q_R S c' j b)) = _
      simp [hb]
    unfold tk_ent tk_fs
    simp only [hv, hk, if_neg hb]
    rfl
theorem tk_ent_arr {Y : Nat → ClassId} {S : tk_S} {c a n : Nat} {a0 : vp_A} (hc : 14 ≤ c ∧ c ≤ 18) (ha : a0 = (n, if c = 16 then .inr (.inl (fun _ => 0)) else if c = 18 then .inr (.inr (.inr (.inr (fun _ => none)))) else .inl (fun _ => 0))) : ∀ b, va_up (tk_ent Y S) a (.inl (Y c, a0)) b = tk_ent Y (s_arr S c a n) b := by
  intro b
  have hk : ∀ b, q_K (s_arr S c a n) b = if b = a then c else q_K S b := fun b => rfl
  have hn : ∀ b, q_n (s_arr S c a n) b = if b = a then n else q_n S b := fun b => rfl
  have h1 : ∀ b, q_aI (s_arr S c a n) b = if b = a then (fun _ => 0) else q_aI S b := fun b => rfl
  have h2 : ∀ b, q_aJ (s_arr S c a n) b = if b = a then (fun _ => 0) else q_aJ S b := fun b => rfl
  have h3 : ∀ b, q_aR (s_arr S c a n) b = if b = a then (fun _ => none) else q_aR S b := fun b => rfl
  by_cases hb : b = a
  · subst hb
    rw [va_up_self]
    unfold tk_ent
    simp only [hk, hn, h1, h2, h3, if_pos]
    rw [if_neg (by omega), ha]
    by_cases e1 : c = 16
    · subst e1; simp
    · by_cases e2 : c = 18
      · subst e2; simp
      · simp [e1, e2]
  · rw [va_up_ne _ _ hb]
    unfold tk_ent tk_fs
    simp only [hk, hn, h1, h2, h3, if_neg hb]
    rfl
/-! HEAP INSTRUCTIONS -/
def i_getI (c k : Nat) : tk_K → tk_K := fun K ls st S cs ss => match st with
  | .ref a :: r => a ∈ q_L S ∧ q_K S a = c ∧ K ls (.int (q_I S c k a) :: r) S cs ss
  | _ => False
def i_getJ (c k : Nat) : tk_K → tk_K := fun K ls st S cs ss => match st with
  | .ref a :: r => a ∈ q_L S ∧ q_K S a = c ∧ K ls (.long (q_J S c k a) :: r) S cs ss
  | _ => False
def i_getR (c k : Nat) : tk_K → tk_K := fun K ls st S cs ss => match st with
  | .ref a :: r => a ∈ q_L S ∧ q_K S a = c ∧ K ls (va_rf (q_R S c k a) :: r) S cs ss
  | _ => False
def i_putI (c k : Nat) : tk_K → tk_K := fun K ls st S cs ss => match st with
  | .int v :: .ref a :: r => a ∈ q_L S ∧ q_K S a = c ∧ K ls r (s_I S c k a v) cs ss
  | _ => False
def i_putJ (c k : Nat) : tk_K → tk_K := fun K ls st S cs ss => match st with
  | .long v :: .ref a :: r => a ∈ q_L S ∧ q_K S a = c ∧ K ls r (s_J S c k a v) cs ss
  | _ => False
/-- a reference written: null or a cell -/
def tk_orf (v : Value) : Option (Option Nat) := match v with
  | .null => some none
  | .ref a => some (some a)
  | _ => none
theorem tk_orf_spec {v : Value} {o : Option Nat} (h : tk_orf v = some o) : v = va_rf o := by
  unfold tk_orf at h
  split at h <;> first | (cases h; rfl) | cases h
theorem tk_orf_rf (o : Option Nat) : tk_orf (va_rf o) = some o := by cases o <;> rfl
def i_putR (c k : Nat) : tk_K → tk_K := fun K ls st S cs ss => match st with
  | v :: .ref a :: r => a ∈ q_L S ∧ q_K S a = c ∧ (match tk_orf v with | some o => K ls r (s_R S c k a o) cs ss | none => False)
  | _ => False
section HEAP
variable {X : tk_X} {cc : ByteArray} {nL : Nat} {own : String} {Ts : List Cond} {pc : Nat} {ls : List (Option Value)} {st : List Value} {S : tk_S} {cs ss : Nat} {K : tk_K}
theorem s_getx {C ref : String} {T : u_T} {N c k index a : Nat} {r : List Value} (C0 : tk_C X cc nL own Ts) (hcl : vwCl[c]? = some (C, T, N)) (hin : ∀ w ∈ u_ws C T N, w ∈ Ts) (hc : c < 14) (hk : k < N) (hlink : Cond.fieldLink own index ref (T k).2.1 (T k).2.2.1 ∈ Ts)
    (hsame : ref = (T k).1 ∨ Cond.sameField ref (T k).1 (T k).2.1 (T k).2.2.1 ∈ Ts) (hd : decode cc pc = .ok (.getfield index, 3)) (ha : a ∈ q_L S) (hKa : q_K S a = c) (k0 : tk_W X nL (pc + 3) ls (tk_val S c k a :: r) S cs ss) : tk_W X nL pc ls (.ref a :: r) S cs ss := by
  obtain ⟨p, l, e, R, s, m, args, below, meth, c0, D, Y, V, A, Q⟩ := X
  obtain ⟨hx, hb, hml, hown, hts, hK, hA, hlk, hO⟩ := C0
  intro H locs la hP hD hS hl
  obtain ⟨i, hi⟩ := tk_get (Y := Y) ha
  rw [tk_ent_o hKa hc] at hi
  have hN : tk_nf c = N := by simp [tk_nf, List.getD, hcl]
  have hsm : ∀ x, s.fieldFound? (T k).1 (T k).2.1 (T k).2.2.1 = some x → s.fieldFound? ref (T k).2.1 (T k).2.2.1 = some x := by
    rcases hsame with rfl | h9
    · exact fun _ h => h
    · exact fun x hx9 => u_same (hts _ h9) x hx9
  exact va_get hx hb hts hin hown hK hP i hi hcl k hk (hts _ hlink) hsm (tk_fs_get (by rw [hN]; exact hk)) hd (k0 H locs la hP hD hS hl)
theorem s_getI {C ref : String} {T : u_T} {N c k index : Nat} (C0 : tk_C X cc nL own Ts) (hcl : vwCl[c]? = some (C, T, N)) (hin : ∀ w ∈ u_ws C T N, w ∈ Ts) (hc : c < 14) (hk : k < N) (hlink : Cond.fieldLink own index ref (T k).2.1 (T k).2.2.1 ∈ Ts)
    (hsame : ref = (T k).1 ∨ Cond.sameField ref (T k).1 (T k).2.1 (T k).2.2.1 ∈ Ts) (hg : tk_tag c k = 0) (hd : decode cc pc = .ok (.getfield index, 3)) (h : i_getI c k K ls st S cs ss) (k0 : ∀ ls st S cs ss, K ls st S cs ss → tk_W X nL (pc + 3) ls st S cs ss) : tk_W X nL pc ls st S cs ss := by
  unfold i_getI at h
  split at h
  · refine s_getx C0 hcl hin hc hk hlink hsame hd h.1 h.2.1 (k0 _ _ _ _ _ ?_)
    unfold tk_val
    rw [if_pos hg]
    exact h.2.2
  · exact h.elim
theorem s_getJ {C ref : String} {T : u_T} {N c k index : Nat} (C0 : tk_C X cc nL own Ts) (hcl : vwCl[c]? = some (C, T, N)) (hin : ∀ w ∈ u_ws C T N, w ∈ Ts) (hc : c < 14) (hk : k < N) (hlink : Cond.fieldLink own index ref (T k).2.1 (T k).2.2.1 ∈ Ts)
    (hsame : ref = (T k).1 ∨ Cond.sameField ref (T k).1 (T k).2.1 (T k).2.2.1 ∈ Ts) (hg : tk_tag c k = 1) (hd : decode cc pc = .ok (.getfield index, 3)) (h : i_getJ c k K ls st S cs ss) (k0 : ∀ ls st S cs ss, K ls st S cs ss → tk_W X nL (pc + 3) ls st S cs ss) : tk_W X nL pc ls st S cs ss := by
  unfold i_getJ at h
  split at h
  · refine s_getx C0 hcl hin hc hk hlink hsame hd h.1 h.2.1 (k0 _ _ _ _ _ ?_)
    unfold tk_val
    rw [if_neg (by omega), if_pos hg]
    exact h.2.2
  · exact h.elim
theorem s_getR {C ref : String} {T : u_T} {N c k index : Nat} (C0 : tk_C X cc nL own Ts) (hcl : vwCl[c]? = some (C, T, N)) (hin : ∀ w ∈ u_ws C T N, w ∈ Ts) (hc : c < 14) (hk : k < N) (hlink : Cond.fieldLink own index ref (T k).2.1 (T k).2.2.1 ∈ Ts)
    (hsame : ref = (T k).1 ∨ Cond.sameField ref (T k).1 (T k).2.1 (T k).2.2.1 ∈ Ts) (hg : tk_tag c k = 2) (hd : decode cc pc = .ok (.getfield index, 3)) (h : i_getR c k K ls st S cs ss) (k0 : ∀ ls st S cs ss, K ls st S cs ss → tk_W X nL (pc + 3) ls st S cs ss) : tk_W X nL pc ls st S cs ss := by
  unfold i_getR at h
  split at h
  · refine s_getx C0 hcl hin hc hk hlink hsame hd h.1 h.2.1 (k0 _ _ _ _ _ ?_)
    unfold tk_val
    rw [if_neg (by omega), if_neg (by omega)]
    exact h.2.2
  · exact h.elim
/-- a class's rows that a putfield asks for -/
def tk_cls (c : Nat) (C : String) (T : u_T) (N : Nat) (ty0 : Nat → FieldType) : Prop := vwCl[c]? = some (C, T, N) ∧ c < 14 ∧ (∀ k, k < N → parseFieldDescriptor (T k).2.2.1 = some (ty0 k)) ∧ (∀ a, a < N → ∀ b, b < N → a ≠ b → (T a).2.1 ≠ (T b).2.1)
/-- in a constructor -/
def tk_ini (X : tk_X) : Prop := match X with
  | (_, _, _, _, _, _, _, _, meth, _, _, _, _, _, _) => meth.name = "<init>"
/-- the putfield's finality: no final field, or one of the class itself in a constructor -/
def tk_fin (X : tk_X) (own C0 : String) (fin : Bool) : Prop := fin = false ∨ (fin = true ∧ tk_ini X ∧ C0 = own)
theorem s_putx {C ref : String} {T : u_T} {N c k index a : Nat} {ty0 : Nat → FieldType} {r : List Value} {v : Value} {S' : tk_S} (C0 : tk_C X cc nL own Ts) (hcl : tk_cls c C T N ty0) (hin : ∀ w ∈ u_ws C T N, w ∈ Ts) (hk : k < N) (hlink : Cond.fieldLink own index ref (T k).2.1 (T k).2.2.1 ∈ Ts)
    (hsame : ref = (T k).1 ∨ Cond.sameField ref (T k).1 (T k).2.1 (T k).2.2.1 ∈ Ts) (hfin : tk_fin X own (T k).1 (T k).2.2.2) {ty : FieldType} (hty : parseFieldDescriptor (T k).2.2.1 = some ty) (hn : narrow ty v = v) (hfit : fits ty v = true) (hd : decode cc pc = .ok (.putfield index, 3)) (ha : a ∈ q_L S) (hKa : q_K S a = c)
    (hL : q_L S' = q_L S) (he : ∀ Y b, va_up (tk_ent Y S) a (.inr (c, (tk_fs S c a).set k v)) b = tk_ent Y S' b) (k0 : tk_W X nL (pc + 3) ls r S' cs ss) : tk_W X nL pc ls (v :: .ref a :: r) S cs ss := by
  obtain ⟨p, l, e, R, s, m, args, below, meth, c0, D, Y, V, A, Q⟩ := X
  obtain ⟨hx, hb, hml, hown, hts, hK, hA, hlk, hO⟩ := C0
  obtain ⟨hcl, hc, hty0, hnm⟩ := hcl
  intro H locs la hP hD hS hl
  obtain ⟨i, hi0⟩ := tk_get (Y := Y) ha
  have hi := hi0
  rw [tk_ent_o hKa hc] at hi
  have hN : tk_nf c = N := by simp [tk_nf, List.getD, hcl]
  have hlen : k < (tk_fs S c a).length := by rw [tk_fs_len, hN]; exact hk
  have hsm : ∀ x, s.fieldFound? (T k).1 (T k).2.1 (T k).2.2.1 = some x → s.fieldFound? ref (T k).2.1 (T k).2.2.1 = some x := by
    rcases hsame with rfl | h9
    · exact fun _ h => h
    · exact fun x hx9 => u_same (hts _ h9) x hx9
  have es := tk_set hD ha hi0 hL (he Y)
  rcases hfin with hf | ⟨hf, hf2, hf3⟩
  · exact va_put hx hb hts hin ty0 hty0 hnm hown hK hP hD hS i hi hcl k hk (hts _ hlink) hsm hf hty hn hfit hlen hd (fun H1 locs1 hP1 hD1 hS1 => k0 H1 locs1 la (es ▸ hP1) (es ▸ hD1) hS1 hl)
  · exact va_putF hx hb hts hin ty0 hty0 hnm hown hK hP hD hS i hi hcl k hk (hts _ hlink) hsm hf hf2 hf3 hty hn hfit hlen hd (fun H1 locs1 hP1 hD1 hS1 => k0 H1 locs1 la (es ▸ hP1) (es ▸ hD1) hS1 hl)
theorem s_putI {C ref : String} {T : u_T} {N c k index : Nat} {ty0 : Nat → FieldType} (C0 : tk_C X cc nL own Ts) (hcl : tk_cls c C T N ty0) (hin : ∀ w ∈ u_ws C T N, w ∈ Ts) (hk : k < N) (hlink : Cond.fieldLink own index ref (T k).2.1 (T k).2.2.1 ∈ Ts)
    (hsame : ref = (T k).1 ∨ Cond.sameField ref (T k).1 (T k).2.1 (T k).2.2.1 ∈ Ts) (hfin : tk_fin X own (T k).1 (T k).2.2.2) (hty : parseFieldDescriptor (T k).2.2.1 = some .int) (hg : tk_tag c k = 0) (hd : decode cc pc = .ok (.putfield index, 3)) (h : i_putI c k K ls st S cs ss) (k0 : ∀ ls st S cs ss, K ls st S cs ss → tk_W X nL (pc + 3) ls st S cs ss) : tk_W X nL pc ls st S cs ss := by
  unfold i_putI at h
  split at h
  · rename_i v a r
    exact s_putx (S' := s_I S c k a v) C0 hcl hin hk hlink hsame hfin hty rfl rfl hd h.1 h.2.1 rfl (fun Y => tk_ent_sI h.2.1 hcl.2.1 hg) (k0 _ _ _ _ _ h.2.2)
  · exact h.elim
theorem s_putJ {C ref : String} {T : u_T} {N c k index : Nat} {ty0 : Nat → FieldType} (C0 : tk_C X cc nL own Ts) (hcl : tk_cls c C T N ty0) (hin : ∀ w ∈ u_ws C T N, w ∈ Ts) (hk : k < N) (hlink : Cond.fieldLink own index ref (T k).2.1 (T k).2.2.1 ∈ Ts)
    (hsame : ref = (T k).1 ∨ Cond.sameField ref (T k).1 (T k).2.1 (T k).2.2.1 ∈ Ts) (hfin : tk_fin X own (T k).1 (T k).2.2.2) (hty : parseFieldDescriptor (T k).2.2.1 = some .long) (hg : tk_tag c k = 1) (hd : decode cc pc = .ok (.putfield index, 3)) (h : i_putJ c k K ls st S cs ss) (k0 : ∀ ls st S cs ss, K ls st S cs ss → tk_W X nL (pc + 3) ls st S cs ss) : tk_W X nL pc ls st S cs ss := by
  unfold i_putJ at h
  split at h
  · rename_i v a r
    exact s_putx (S' := s_J S c k a v) C0 hcl hin hk hlink hsame hfin hty rfl rfl hd h.1 h.2.1 rfl (fun Y => tk_ent_sJ h.2.1 hcl.2.1 hg) (k0 _ _ _ _ _ h.2.2)
  · exact h.elim
theorem s_putR {C ref : String} {T : u_T} {N c k index : Nat} {ty : FieldType} {ty0 : Nat → FieldType} (C0 : tk_C X cc nL own Ts) (hcl : tk_cls c C T N ty0) (hin : ∀ w ∈ u_ws C T N, w ∈ Ts) (hk : k < N) (hlink : Cond.fieldLink own index ref (T k).2.1 (T k).2.2.1 ∈ Ts)
    (hsame : ref = (T k).1 ∨ Cond.sameField ref (T k).1 (T k).2.1 (T k).2.2.1 ∈ Ts) (hfin : tk_fin X own (T k).1 (T k).2.2.2) (hty : parseFieldDescriptor (T k).2.2.1 = some ty) (hrk : refKind ty = true) (hg : tk_tag c k = 2) (hd : decode cc pc = .ok (.putfield index, 3)) (h : i_putR c k K ls st S cs ss) (k0 : ∀ ls st S cs ss, K ls st S cs ss → tk_W X nL (pc + 3) ls st S cs ss) : tk_W X nL pc ls st S cs ss := by
  unfold i_putR at h
  split at h
  · rename_i v a r
    obtain ⟨h1, h2, h⟩ := h
    split at h
    · rename_i o ho
      have hv := tk_orf_spec ho
      subst hv
      have hnar : narrow ty (va_rf o) = va_rf o ∧ fits ty (va_rf o) = true := by
        cases o <;> cases ty <;> first | exact ⟨rfl, rfl⟩ | cases hrk
      exact s_putx (S' := s_R S c k a o) C0 hcl hin hk hlink hsame hfin hty hnar.1 hnar.2 hd h1 h2 rfl (fun Y => tk_ent_sR h2 hcl.2.1 hg) (k0 _ _ _ _ _ h)
    · exact h.elim
  · exact h.elim
def i_iald : tk_K → tk_K := fun K ls st S cs ss => match st with
  | .int i :: .ref a :: r => a ∈ q_L S ∧ q_K S a = 15 ∧ vp_in i (q_n S a) ∧ K ls (.int (q_aI S a i.toNatClampNeg) :: r) S cs ss
  | _ => False
theorem s_iald (C0 : tk_C X cc nL own Ts) (hd : decode cc pc = .ok (.iaload, 1)) (h : i_iald K ls st S cs ss) (k0 : ∀ ls st S cs ss, K ls st S cs ss → tk_W X nL (pc + 1) ls st S cs ss) : tk_W X nL pc ls st S cs ss := by
  obtain ⟨p, l, e, R, s, m, args, below, meth, c0, D, Y, V, A, Q⟩ := X
  obtain ⟨hx, hb, hml, hown, hts, hK, hA, hlk, hO⟩ := C0
  intro H locs la hP hD hS hl
  unfold i_iald at h
  split at h
  · obtain ⟨ha, hKa, hin, h⟩ := h
    obtain ⟨j, hj⟩ := tk_get (Y := Y) ha
    rw [tk_ent_i hKa (by omega)] at hj
    exact va_iald hx hb hK hP j 1 hj rfl hin hd (k0 _ _ _ _ _ h H locs la hP hD hS hl)
  · exact h.elim
def i_bald : tk_K → tk_K := fun K ls st S cs ss => match st with
  | .int i :: .ref a :: r => a ∈ q_L S ∧ q_K S a = 14 ∧ vp_in i (q_n S a) ∧ K ls (.int (q_aI S a i.toNatClampNeg) :: r) S cs ss
  | _ => False
theorem s_bald (C0 : tk_C X cc nL own Ts) (hd : decode cc pc = .ok (.baload, 1)) (h : i_bald K ls st S cs ss) (k0 : ∀ ls st S cs ss, K ls st S cs ss → tk_W X nL (pc + 1) ls st S cs ss) : tk_W X nL pc ls st S cs ss := by
  obtain ⟨p, l, e, R, s, m, args, below, meth, c0, D, Y, V, A, Q⟩ := X
  obtain ⟨hx, hb, hml, hown, hts, hK, hA, hlk, hO⟩ := C0
  intro H locs la hP hD hS hl
  unfold i_bald at h
  split at h
  · obtain ⟨ha, hKa, hin, h⟩ := h
    obtain ⟨j, hj⟩ := tk_get (Y := Y) ha
    rw [tk_ent_i hKa (by omega)] at hj
    exact va_bald hx hb hK hP j 0 hj rfl hin hd (k0 _ _ _ _ _ h H locs la hP hD hS hl)
  · exact h.elim
def i_zald : tk_K → tk_K := fun K ls st S cs ss => match st with
  | .int i :: .ref a :: r => a ∈ q_L S ∧ q_K S a = 17 ∧ vp_in i (q_n S a) ∧ K ls (.int (q_aI S a i.toNatClampNeg) :: r) S cs ss
  | _ => False
theorem s_zald (C0 : tk_C X cc nL own Ts) (hd : decode cc pc = .ok (.baload, 1)) (h : i_zald K ls st S cs ss) (k0 : ∀ ls st S cs ss, K ls st S cs ss → tk_W X nL (pc + 1) ls st S cs ss) : tk_W X nL pc ls st S cs ss := by
  obtain ⟨p, l, e, R, s, m, args, below, meth, c0, D, Y, V, A, Q⟩ := X
  obtain ⟨hx, hb, hml, hown, hts, hK, hA, hlk, hO⟩ := C0
  intro H locs la hP hD hS hl
  unfold i_zald at h
  split at h
  · obtain ⟨ha, hKa, hin, h⟩ := h
    obtain ⟨j, hj⟩ := tk_get (Y := Y) ha
    rw [tk_ent_i hKa (by omega)] at hj
    exact va_zald hx hb hK hP j 3 hj rfl hin hd (k0 _ _ _ _ _ h H locs la hP hD hS hl)
  · exact h.elim
def i_lald : tk_K → tk_K := fun K ls st S cs ss => match st with
  | .int i :: .ref a :: r => a ∈ q_L S ∧ q_K S a = 16 ∧ vp_in i (q_n S a) ∧ K ls (.long (q_aJ S a i.toNatClampNeg) :: r) S cs ss
  | _ => False
theorem s_lald (C0 : tk_C X cc nL own Ts) (hd : decode cc pc = .ok (.laload, 1)) (h : i_lald K ls st S cs ss) (k0 : ∀ ls st S cs ss, K ls st S cs ss → tk_W X nL (pc + 1) ls st S cs ss) : tk_W X nL pc ls st S cs ss := by
  obtain ⟨p, l, e, R, s, m, args, below, meth, c0, D, Y, V, A, Q⟩ := X
  obtain ⟨hx, hb, hml, hown, hts, hK, hA, hlk, hO⟩ := C0
  intro H locs la hP hD hS hl
  unfold i_lald at h
  split at h
  · obtain ⟨ha, hKa, hin, h⟩ := h
    obtain ⟨j, hj⟩ := tk_get (Y := Y) ha
    rw [tk_ent_j hKa] at hj
    exact va_lald hx hb hK hP j 2 hj rfl hin hd (k0 _ _ _ _ _ h H locs la hP hD hS hl)
  · exact h.elim
def i_aald : tk_K → tk_K := fun K ls st S cs ss => match st with
  | .int i :: .ref a :: r => a ∈ q_L S ∧ q_K S a = 18 ∧ vp_in i (q_n S a) ∧ K ls (va_rf (q_aR S a i.toNatClampNeg) :: r) S cs ss
  | _ => False
theorem s_aald (C0 : tk_C X cc nL own Ts) (hd : decode cc pc = .ok (.aaload, 1)) (h : i_aald K ls st S cs ss) (k0 : ∀ ls st S cs ss, K ls st S cs ss → tk_W X nL (pc + 1) ls st S cs ss) : tk_W X nL pc ls st S cs ss := by
  obtain ⟨p, l, e, R, s, m, args, below, meth, c0, D, Y, V, A, Q⟩ := X
  obtain ⟨hx, hb, hml, hown, hts, hK, hA, hlk, hO⟩ := C0
  intro H locs la hP hD hS hl
  unfold i_aald at h
  split at h
  · obtain ⟨ha, hKa, hin, h⟩ := h
    obtain ⟨j, hj⟩ := tk_get (Y := Y) ha
    rw [tk_ent_r hKa] at hj
    exact va_aldq hx hb hK hP j 4 hj rfl hin hd (k0 _ _ _ _ _ h H locs la hP hD hS hl)
  · exact h.elim
def i_iast : tk_K → tk_K := fun K ls st S cs ss => match st with
  | .int x :: .int i :: .ref a :: r => a ∈ q_L S ∧ q_K S a = 15 ∧ vp_in i (q_n S a) ∧ K ls r (s_aI S a (upd (q_aI S a) i.toNatClampNeg x)) cs ss
  | _ => False
theorem s_iast (C0 : tk_C X cc nL own Ts) (hd : decode cc pc = .ok (.iastore, 1)) (h : i_iast K ls st S cs ss) (k0 : ∀ ls st S cs ss, K ls st S cs ss → tk_W X nL (pc + 1) ls st S cs ss) : tk_W X nL pc ls st S cs ss := by
  obtain ⟨p, l, e, R, s, m, args, below, meth, c0, D, Y, V, A, Q⟩ := X
  obtain ⟨hx, hb, hml, hown, hts, hK, hA, hlk, hO⟩ := C0
  intro H locs la hP hD hS hl
  unfold i_iast at h
  split at h
  · rename_i x i a r
    obtain ⟨ha, hKa, hin, h⟩ := h
    obtain ⟨j, hj0⟩ := tk_get (Y := Y) ha
    have hj := hj0
    rw [tk_ent_i hKa (by omega)] at hj
    exact va_iast hx hb hK hP hD hS j 1 hj rfl hin hd (fun H1 locs1 hP1 hD1 hS1 => by
      have es := tk_set (S' := s_aI S a (upd (q_aI S a) i.toNatClampNeg x)) hD ha hj0 rfl (tk_ent_saI hKa (by omega))
      exact k0 _ _ _ _ _ h H1 locs1 la (es ▸ hP1) (es ▸ hD1) hS1 hl)
  · exact h.elim
def i_bast : tk_K → tk_K := fun K ls st S cs ss => match st with
  | .int x :: .int i :: .ref a :: r => a ∈ q_L S ∧ q_K S a = 14 ∧ vp_in i (q_n S a) ∧ K ls r (s_aI S a (upd (q_aI S a) i.toNatClampNeg (vp_nar .byte x))) cs ss
  | _ => False
theorem s_bast (C0 : tk_C X cc nL own Ts) (hd : decode cc pc = .ok (.bastore, 1)) (h : i_bast K ls st S cs ss) (k0 : ∀ ls st S cs ss, K ls st S cs ss → tk_W X nL (pc + 1) ls st S cs ss) : tk_W X nL pc ls st S cs ss := by
  obtain ⟨p, l, e, R, s, m, args, below, meth, c0, D, Y, V, A, Q⟩ := X
  obtain ⟨hx, hb, hml, hown, hts, hK, hA, hlk, hO⟩ := C0
  intro H locs la hP hD hS hl
  unfold i_bast at h
  split at h
  · rename_i x i a r
    obtain ⟨ha, hKa, hin, h⟩ := h
    obtain ⟨j, hj0⟩ := tk_get (Y := Y) ha
    have hj := hj0
    rw [tk_ent_i hKa (by omega)] at hj
    exact va_bast hx hb hK hP hD hS j 0 hj rfl hin hd (fun H1 locs1 hP1 hD1 hS1 => by
      have es := tk_set (S' := s_aI S a (upd (q_aI S a) i.toNatClampNeg (vp_nar .byte x))) hD ha hj0 rfl (tk_ent_saI hKa (by omega))
      exact k0 _ _ _ _ _ h H1 locs1 la (es ▸ hP1) (es ▸ hD1) hS1 hl)
  · exact h.elim
def i_zast : tk_K → tk_K := fun K ls st S cs ss => match st with
  | .int x :: .int i :: .ref a :: r => a ∈ q_L S ∧ q_K S a = 17 ∧ vp_in i (q_n S a) ∧ K ls r (s_aI S a (upd (q_aI S a) i.toNatClampNeg (vp_nar .boolean x))) cs ss
  | _ => False
theorem s_zast (C0 : tk_C X cc nL own Ts) (hd : decode cc pc = .ok (.bastore, 1)) (h : i_zast K ls st S cs ss) (k0 : ∀ ls st S cs ss, K ls st S cs ss → tk_W X nL (pc + 1) ls st S cs ss) : tk_W X nL pc ls st S cs ss := by
  obtain ⟨p, l, e, R, s, m, args, below, meth, c0, D, Y, V, A, Q⟩ := X
  obtain ⟨hx, hb, hml, hown, hts, hK, hA, hlk, hO⟩ := C0
  intro H locs la hP hD hS hl
  unfold i_zast at h
  split at h
  · rename_i x i a r
    obtain ⟨ha, hKa, hin, h⟩ := h
    obtain ⟨j, hj0⟩ := tk_get (Y := Y) ha
    have hj := hj0
    rw [tk_ent_i hKa (by omega)] at hj
    exact va_zast hx hb hK hP hD hS j 3 hj rfl hin hd (fun H1 locs1 hP1 hD1 hS1 => by
      have es := tk_set (S' := s_aI S a (upd (q_aI S a) i.toNatClampNeg (vp_nar .boolean x))) hD ha hj0 rfl (tk_ent_saI hKa (by omega))
      exact k0 _ _ _ _ _ h H1 locs1 la (es ▸ hP1) (es ▸ hD1) hS1 hl)
  · exact h.elim
def i_last : tk_K → tk_K := fun K ls st S cs ss => match st with
  | .long x :: .int i :: .ref a :: r => a ∈ q_L S ∧ q_K S a = 16 ∧ vp_in i (q_n S a) ∧ K ls r (s_aJ S a (vp_updL (q_aJ S a) i.toNatClampNeg x)) cs ss
  | _ => False
theorem s_last (C0 : tk_C X cc nL own Ts) (hd : decode cc pc = .ok (.lastore, 1)) (h : i_last K ls st S cs ss) (k0 : ∀ ls st S cs ss, K ls st S cs ss → tk_W X nL (pc + 1) ls st S cs ss) : tk_W X nL pc ls st S cs ss := by
  obtain ⟨p, l, e, R, s, m, args, below, meth, c0, D, Y, V, A, Q⟩ := X
  obtain ⟨hx, hb, hml, hown, hts, hK, hA, hlk, hO⟩ := C0
  intro H locs la hP hD hS hl
  unfold i_last at h
  split at h
  · rename_i x i a r
    obtain ⟨ha, hKa, hin, h⟩ := h
    obtain ⟨j, hj0⟩ := tk_get (Y := Y) ha
    have hj := hj0
    rw [tk_ent_j hKa] at hj
    exact va_last hx hb hK hP hD hS j 2 hj rfl hin hd (fun H1 locs1 hP1 hD1 hS1 => by
      have es := tk_set (S' := s_aJ S a (vp_updL (q_aJ S a) i.toNatClampNeg x)) hD ha hj0 rfl (tk_ent_saJ hKa)
      exact k0 _ _ _ _ _ h H1 locs1 la (es ▸ hP1) (es ▸ hD1) hS1 hl)
  · exact h.elim
def i_alen : tk_K → tk_K := fun K ls st S cs ss => match st with
  | .ref a :: r => a ∈ q_L S ∧ 14 ≤ q_K S a ∧ q_K S a ≤ 18 ∧ K ls (.int (nI (q_n S a)) :: r) S cs ss
  | _ => False
theorem s_alen (C0 : tk_C X cc nL own Ts) (hd : decode cc pc = .ok (.arraylength, 1)) (h : i_alen K ls st S cs ss) (k0 : ∀ ls st S cs ss, K ls st S cs ss → tk_W X nL (pc + 1) ls st S cs ss) : tk_W X nL pc ls st S cs ss := by
  obtain ⟨p, l, e, R, s, m, args, below, meth, c0, D, Y, V, A, Q⟩ := X
  obtain ⟨hx, hb, hml, hown, hts, hK, hA, hlk, hO⟩ := C0
  intro H locs la hP hD hS hl
  unfold i_alen at h
  split at h
  · rename_i a r
    obtain ⟨ha, h1, h2, h⟩ := h
    obtain ⟨j, hj⟩ := tk_get (Y := Y) ha
    have hc : q_K S a = 14 ∨ q_K S a = 15 ∨ q_K S a = 16 ∨ q_K S a = 17 ∨ q_K S a = 18 := by omega
    rcases hc with hc | hc | hc | hc | hc
    · rw [tk_ent_i hc (by omega)] at hj
      exact va_alen hx hb hK hP j 0 hj rfl rfl hd (k0 _ _ _ _ _ h H locs la hP hD hS hl)
    · rw [tk_ent_i hc (by omega)] at hj
      exact va_alen hx hb hK hP j 1 hj rfl rfl hd (k0 _ _ _ _ _ h H locs la hP hD hS hl)
    · rw [tk_ent_j hc] at hj
      exact va_alen hx hb hK hP j 2 hj rfl rfl hd (k0 _ _ _ _ _ h H locs la hP hD hS hl)
    · rw [tk_ent_i hc (by omega)] at hj
      exact va_alen hx hb hK hP j 3 hj rfl rfl hd (k0 _ _ _ _ _ h H locs la hP hD hS hl)
    · rw [tk_ent_r hc] at hj
      exact va_alen hx hb hK hP j 4 hj rfl rfl hd (k0 _ _ _ _ _ h H locs la hP hD hS hl)
  · exact h.elim
/-- what a body may make: the frame's own room -/
def tk_rm (d mc ms : Nat) : Room := { frames := d, cells := mc, slots := ms, locals := 40 * d }
def tk_rmLe (R : Room) (d mc ms : Nat) : Prop := d ≤ R.frames ∧ 40 * d ≤ R.locals ∧ mc ≤ R.cells ∧ ms ≤ R.slots
theorem tk_rm_le (d mc ms : Nat) : tk_rmLe (tk_rm d mc ms) d mc ms := ⟨Nat.le_refl _, Nat.le_refl _, Nat.le_refl _, Nat.le_refl _⟩
def tk_rmIs (X : tk_X) (d mc ms : Nat) : Prop := match X with
  | (_, _, _, R, _, _, _, _, _, _, _, _, _, _, _) => tk_rmLe R d mc ms
def i_new (mc ms c N : Nat) : tk_K → tk_K := fun K ls st S cs ss => cs + 1 ≤ mc ∧ ss + N ≤ ms ∧ ∀ a, a ∉ q_L S → K ls (.ref a :: st) (s_new S c a) (cs + 1) (ss + N)
theorem s_new_ {C : String} {T : u_T} {N c index d mc ms : Nat} {ty0 : Nat → FieldType} (C0 : tk_C X cc nL own Ts) (hR : tk_rmIs X d mc ms) (hcl : tk_cls c C T N ty0) (hin : ∀ w ∈ u_ws C T N, w ∈ Ts) (hdf : ∀ j, j < N → defaultValue (ty0 j) = vp_V (tk_df c) j)
    (h1 : Cond.classLink own index C ∈ Ts) (h2 : Cond.instantiable C N ∈ Ts) (h3 : Cond.initialized C ∈ Ts) (hd : decode cc pc = .ok (.new index, 3)) (h : i_new mc ms c N K ls st S cs ss) (k0 : ∀ ls st S cs ss, K ls st S cs ss → tk_W X nL (pc + 3) ls st S cs ss) : tk_W X nL pc ls st S cs ss := by
  obtain ⟨p, l, e, R, s, m, args, below, meth, c0, D, Y, V, A, Q⟩ := X
  obtain ⟨hx, hb, hml, hown, hts, hK, hA, hlk, hO⟩ := C0
  obtain ⟨hcl, hc, hty0, hnm⟩ := hcl
  have hR : tk_rmLe R d mc ms := hR
  intro H locs la hP hD hS hl
  obtain ⟨hc1, hs1, h⟩ := h
  refine va_new hx hb hts hin ty0 hty0 hown (hts _ h1) (hts _ h2) (hts _ h3) hK hP hD hS hA hcl hdf (Nat.le_trans hc1 hR.2.2.1) (Nat.le_trans hs1 hR.2.2.2) hd (fun q H1 hP1 hD1 hS1 => ?_)
  have hq : q ∉ q_L S := va_pl_fresh2 (X := []) (L := q_L S) (f := tk_ent Y S) (by simpa [tk_pl] using hD1)
  have es := tk_push (S' := s_new S c q) hq rfl (tk_ent_new (Y := Y) hc)
  exact k0 _ _ _ _ _ (h q hq) H1 locs la (es ▸ hP1) (es ▸ hD1) hS1 hl
theorem tk_findA {U : State} {c1 c2 : ClassId} {ty : FieldType} (h : ∀ C, ty ≠ .object C) (h1 : va_RA U c1 ty) (h2 : va_RA U c2 ty) : c1 = c2 := by
  cases ty <;> first | exact absurd rfl (h _) | exact Option.some.inj (h1.symm.trans h2)
def i_newa (mc ms c : Nat) : tk_K → tk_K := fun K ls st S cs ss => match st with
  | .int n :: r => ¬ n < 0 ∧ n.toNatClampNeg ≤ 1000000 ∧ cs + 1 ≤ mc ∧ ss + n.toNatClampNeg ≤ ms ∧ ∀ a, a ∉ q_L S → K ls (.ref a :: r) (s_arr S c a n.toNatClampNeg) (cs + 1) (ss + n.toNatClampNeg)
  | _ => False
theorem s_newa {c d mc ms : Nat} {atype : ArrayType} {ty : FieldType} (C0 : tk_C X cc nL own Ts) (hR : tk_rmIs X d mc ms) (hty : newarray.typeOf atype = ty) (hc : (c, ty) = (14, .byte) ∨ (c, ty) = (15, .int) ∨ (c, ty) = (16, .long) ∨ (c, ty) = (17, .boolean))
    (h1 : Cond.arrayClass ty ∈ Ts) (hd : decode cc pc = .ok (.newarray atype, 2)) (h : i_newa mc ms c K ls st S cs ss) (k0 : ∀ ls st S cs ss, K ls st S cs ss → tk_W X nL (pc + 2) ls st S cs ss) : tk_W X nL pc ls st S cs ss := by
  obtain ⟨p, l, e, R, s, m, args, below, meth, c0, D, Y, V, A, Q⟩ := X
  obtain ⟨hx, hb, hml, hown, hts, hK, hA, hlk, hO⟩ := C0
  have hR : tk_rmLe R d mc ms := hR
  intro H locs la hP hD hS hl
  unfold i_newa at h
  split at h
  · rename_i n r
    obtain ⟨hn0, hn1, hc1, hs1, h⟩ := h
    have hcomp : componentBytes ty ≤ 8 := by rcases hc with hc | hc | hc | hc <;> cases hc <;> decide
    refine va_newa (atype := atype) (a0 := (n.toNatClampNeg, if c = 16 then .inr (.inl (fun _ => 0)) else if c = 18 then .inr (.inr (.inr (.inr (fun _ => none)))) else .inl (fun _ => 0))) hx hb (by rw [hty]; exact hts _ h1) hty hK hP hD hS hA ?_ hn0 rfl (Nat.le_trans (Nat.mul_le_mul hn1 hcomp) (by decide)) (Nat.le_trans hc1 hR.2.2.1) (Nat.le_trans hs1 hR.2.2.2) hd (fun q cA H1 hK1 hP1 hD1 hS1 => ?_)
    · intro cA
      rcases hc with hc | hc | hc | hc <;> cases hc <;> rfl
    · have hq : q ∉ q_L S := va_pl_fresh2 (X := []) (L := q_L S) (f := tk_ent Y S) (by simpa [tk_pl] using hD1)
      have hY : cA = Y c := by
        have z1 := (hK1.2 5 (cA, ty) rfl).2
        rcases hc with hc | hc | hc | hc <;> cases hc
        · exact tk_findA (by simp) z1 (hK.2 0 (Y 14, .byte) rfl).2
        · exact tk_findA (by simp) z1 (hK.2 1 (Y 15, .int) rfl).2
        · exact tk_findA (by simp) z1 (hK.2 2 (Y 16, .long) rfl).2
        · exact tk_findA (by simp) z1 (hK.2 3 (Y 17, .boolean) rfl).2
      subst hY
      have es := tk_push (S' := s_arr S c q n.toNatClampNeg) hq rfl (tk_ent_arr (Y := Y) (by rcases hc with hc | hc | hc | hc <;> cases hc <;> decide) rfl)
      exact k0 _ _ _ _ _ (h q hq) H1 locs la (es ▸ hP1) (es ▸ hD1) hS1 hl
  · exact h.elim
end HEAP

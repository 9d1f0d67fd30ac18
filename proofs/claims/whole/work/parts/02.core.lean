/-! THE POOL: every object and array of the system by its address, in nine tables. q_L: the addresses; q_K: the class (its place in vwCl; 14 byte rows, 15 int rows, 16 long rows, 17 boolean rows, 18 rows of references); q_I, q_J, q_R: fields of int, long, reference by class, place, address; q_n: a row's length; q_aI, q_aJ, q_aR: what rows hold. -/
abbrev tk_S : Type := List Nat × (Nat → Nat) × (Nat → Nat → Nat → Int32) × (Nat → Nat → Nat → Int64) × (Nat → Nat → Nat → Option Nat) × (Nat → Nat) × (Nat → Nat → Int32) × (Nat → Nat → Int64) × (Nat → Nat → Option Nat)
def q_L (S : tk_S) : List Nat := S.1
def q_K (S : tk_S) : Nat → Nat := S.2.1
def q_I (S : tk_S) : Nat → Nat → Nat → Int32 := S.2.2.1
def q_J (S : tk_S) : Nat → Nat → Nat → Int64 := S.2.2.2.1
def q_R (S : tk_S) : Nat → Nat → Nat → Option Nat := S.2.2.2.2.1
def q_n (S : tk_S) : Nat → Nat := S.2.2.2.2.2.1
def q_aI (S : tk_S) : Nat → Nat → Int32 := S.2.2.2.2.2.2.1
def q_aJ (S : tk_S) : Nat → Nat → Int64 := S.2.2.2.2.2.2.2.1
def q_aR (S : tk_S) : Nat → Nat → Option Nat := S.2.2.2.2.2.2.2.2
def tk_up3 {α : Type} (F : Nat → Nat → Nat → α) (c k a : Nat) (v : α) : Nat → Nat → Nat → α := fun c' k' a' => if c' = c ∧ k' = k ∧ a' = a then v else F c' k' a'
/-- a field of int, long, reference is written -/
def s_I (S : tk_S) (c k a : Nat) (v : Int32) : tk_S := (q_L S, q_K S, tk_up3 (q_I S) c k a v, q_J S, q_R S, q_n S, q_aI S, q_aJ S, q_aR S)
def s_J (S : tk_S) (c k a : Nat) (v : Int64) : tk_S := (q_L S, q_K S, q_I S, tk_up3 (q_J S) c k a v, q_R S, q_n S, q_aI S, q_aJ S, q_aR S)
def s_R (S : tk_S) (c k a : Nat) (v : Option Nat) : tk_S := (q_L S, q_K S, q_I S, q_J S, tk_up3 (q_R S) c k a v, q_n S, q_aI S, q_aJ S, q_aR S)
/-- a row's whole contents are written -/
def s_aI (S : tk_S) (a : Nat) (f : Nat → Int32) : tk_S := (q_L S, q_K S, q_I S, q_J S, q_R S, q_n S, va_up (q_aI S) a f, q_aJ S, q_aR S)
def s_aJ (S : tk_S) (a : Nat) (f : Nat → Int64) : tk_S := (q_L S, q_K S, q_I S, q_J S, q_R S, q_n S, q_aI S, va_up (q_aJ S) a f, q_aR S)
def s_aR (S : tk_S) (a : Nat) (f : Nat → Option Nat) : tk_S := (q_L S, q_K S, q_I S, q_J S, q_R S, q_n S, q_aI S, q_aJ S, va_up (q_aR S) a f)
/-- a new object: all its fields 0 or null -/
def s_new (S : tk_S) (c a : Nat) : tk_S := (q_L S ++ [a], va_up (q_K S) a c, (fun c' k' a' => if a' = a then 0 else q_I S c' k' a'), (fun c' k' a' => if a' = a then 0 else q_J S c' k' a'), (fun c' k' a' => if a' = a then none else q_R S c' k' a'), q_n S, q_aI S, q_aJ S, q_aR S)
/-- a new row of kind c (14 to 18), all its places 0 or null -/
def s_arr (S : tk_S) (c a n : Nat) : tk_S := (q_L S ++ [a], va_up (q_K S) a c, q_I S, q_J S, q_R S, va_up (q_n S) a n, va_up (q_aI S) a (fun _ => 0), va_up (q_aJ S) a (fun _ => 0), va_up (q_aR S) a (fun _ => none))
/-- what a field is: 0 int, 1 long, 2 a reference -/
def tk_tag : Nat → Nat → Nat := fun c k => match parseFieldDescriptor ((vwCl.getD c (RX0, TX0, 0)).2.1 k).2.2.1 with
  | some .int => 0
  | some .long => 1
  | _ => 2
def tk_nf (c : Nat) : Nat := (vwCl.getD c (RX0, TX0, 0)).2.2
def tk_val (S : tk_S) (c k a : Nat) : Value := if tk_tag c k = 0 then .int (q_I S c k a) else if tk_tag c k = 1 then .long (q_J S c k a) else va_rf (q_R S c k a)
def tk_fs (S : tk_S) (c a : Nat) : List Value := (List.range (tk_nf c)).map (fun k => tk_val S c k a)
def tk_ent (Y : Nat → ClassId) (S : tk_S) (a : Nat) : va_E :=
  if q_K S a < 14 then .inr (q_K S a, tk_fs S (q_K S a) a)
  else if q_K S a = 16 then .inl (Y 16, q_n S a, .inr (.inl (q_aJ S a)))
  else if q_K S a = 18 then .inl (Y 18, q_n S a, .inr (.inr (.inr (.inr (q_aR S a)))))
  else .inl (Y (q_K S a), q_n S a, .inl (q_aI S a))
def tk_pl (Y : Nat → ClassId) (S : tk_S) : va_W := va_pl (q_L S) (tk_ent Y S)
def tk_tys (Y : Nat → ClassId) : List (ClassId × FieldType) := [(Y 14, .byte), (Y 15, .int), (Y 16, .long), (Y 17, .boolean), (Y 18, .object "java/lang/Object")]
theorem tk_get {Y : Nat → ClassId} {S : tk_S} {a : Nat} (h : a ∈ q_L S) : ∃ k : Nat, (tk_pl Y S)[k]? = some (a, tk_ent Y S a) := by
  have := va_pl_get (X := []) (f := tk_ent Y S) h
  simpa [tk_pl] using this
theorem tk_set {Y : Nat → ClassId} {A : Nat → Prop} {S S' : tk_S} {a k : Nat} {e : va_E} (hD : va_D A (tk_pl Y S)) (h : a ∈ q_L S) (hk : (tk_pl Y S)[k]? = some (a, tk_ent Y S a)) (hL : q_L S' = q_L S) (he : ∀ b, va_up (tk_ent Y S) a e b = tk_ent Y S' b) : (tk_pl Y S).set k (a, e) = tk_pl Y S' := by
  have h1 := va_pl_set (A := A) (X := []) (L := q_L S) (f := tk_ent Y S) (a := a) (k := k) (e := e) (by simpa [tk_pl] using hD) h (by simpa [tk_pl] using hk)
  simp only [List.nil_append] at h1
  unfold tk_pl
  rw [h1, hL]
  exact va_pl_congr he
theorem tk_ent_o {Y : Nat → ClassId} {S : tk_S} {a c : Nat} (h : q_K S a = c) (hc : c < 14) : tk_ent Y S a = .inr (c, tk_fs S c a) := by
  subst h
  simp [tk_ent, hc]
theorem tk_fs_get {S : tk_S} {c k a : Nat} (h : k < tk_nf c) : (tk_fs S c a)[k]? = some (tk_val S c k a) := by
  simp [tk_fs, h]
theorem tk_fs_len {S : tk_S} {c a : Nat} : (tk_fs S c a).length = tk_nf c := by simp [tk_fs]
theorem tk_range_set {α : Type} (n k : Nat) (g : Nat → α) (v : α) : ((List.range n).map g).set k v = (List.range n).map (fun j => if j = k then v else g j) := by
  apply List.ext_getElem?
  intro i
  rw [List.getElem?_set]
  by_cases hi : k = i
  · subst hi
    by_cases hn : k < n <;> simp [hn]
  · have hi' : ¬ i = k := fun h => hi h.symm
    by_cases hn : i < n <;> simp [hn, hi, hi']

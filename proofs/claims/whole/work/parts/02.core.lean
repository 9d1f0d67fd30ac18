/-! THE POOL: every object and array of the system by its address, in nine tables. q_L: the addresses; q_K: the class (its place in vwCl; 14 byte rows, 15 int rows, 16 long rows, 17 boolean rows, 18 rows of references); q_I, q_J, q_R: fields of int, long, reference by class, place, address; q_n: a row's length; q_aI, q_aJ, q_aR: what rows hold. -/
abbrev tk_S : Type := List Nat × (Nat → Nat) × (Nat → Nat → Nat → Int32) × (Nat → Nat → Nat → Int64) × (Nat → Nat → Nat → Option Nat) × (Nat → Nat) × (Nat → Nat → Int32) × (Nat → Nat → Int64) × (Nat → Nat → Option Nat)
def q_L (S : tk_S) : List Nat := S.1
def q_K (S : tk_S) : Nat → Nat := S.2.1
def q_I (S : tk_S) : Nat → Nat → Nat → Int32 := S.2.2.1
def q_J (S : tk_S) : Nat → Nat → Nat → Int64 := S.2.2.2.1
def q_R (S : tk_S) : Nat → Nat → Nat → Option Nat := S.2.2.2.2.1
def q_n (S : tk_S) : Nat → Nat := S.2.2.2.2.2.1
def q_aI (S : tk_S) : Nat → Nat → Int32 := S.2.2.2.2.2.2.1
def q_aJ (S : tk_S) : Nat → Nat → Int64 := S.2.2.2.2.2.2.2.1
def q_aR (S : tk_S) : Nat → Nat → Option Nat := S.2.2.2.2.2.2.2.2
def tk_up3 {α : Type} (F : Nat → Nat → Nat → α) (c k a : Nat) (v : α) : Nat → Nat → Nat → α := fun c' k' a' => if c' = c ∧ k' = k ∧ a' = a then v else F c' k' a'
/-- a field of int, long, reference is written -/
def s_I (S : tk_S) (c k a : Nat) (v : Int32) : tk_S := (q_L S, q_K S, tk_up3 (q_I S) c k a v, q_J S, q_R S, q_n S, q_aI S, q_aJ S, q_aR S)
def s_J (S : tk_S) (c k a : Nat) (v : Int64) : tk_S := (q_L S, q_K S, q_I S, tk_up3 (q_J S) c k a v, q_R S, q_n S, q_aI S, q_aJ S, q_aR S)
def s_R (S : tk_S) (c k a : Nat) (v : Option Nat) : tk_S := (q_L S, q_K S, q_I S, q_J S, tk_up3 (q_R S) c k a v, q_n S, q_aI S, q_aJ S, q_aR S)
/-- a row's whole contents are written -/
def s_aI (S : tk_S) (a : Nat) (f : Nat → Int32) : tk_S := (q_L S, q_K S, q_I S, q_J S, q_R S, q_n S, va_up (q_aI S) a f, q_aJ S, q_aR S)
def s_aJ (S : tk_S) (a : Nat) (f : Nat → Int64) : tk_S := (q_L S, q_K S, q_I S, q_J S, q_R S, q_n S, q_aI S, va_up (q_aJ S) a f, q_aR S)
def s_aR (S : tk_S) (a : Nat) (f : Nat → Option Nat) : tk_S := (q_L S, q_K S, q_I S, q_J S, q_R S, q_n S, q_aI S, q_aJ S, va_up (q_aR S) a f)
/-- a new object: all its fields 0 or null -/
def s_new (S : tk_S) (c a : Nat) : tk_S := (q_L S ++ [a], va_up (q_K S) a c, (fun c' k' a' => if a' = a then 0 else q_I S c' k' a'), (fun c' k' a' => if a' = a then 0 else q_J S c' k' a'), (fun c' k' a' => if a' = a then none else q_R S c' k' a'), q_n S, q_aI S, q_aJ S, q_aR S)
/-- a new row of kind c (14 to 18), all its places 0 or null -/
def s_arr (S : tk_S) (c a n : Nat) : tk_S := (q_L S ++ [a], va_up (q_K S) a c, q_I S, q_J S, q_R S, va_up (q_n S) a n, va_up (q_aI S) a (fun _ => 0), va_up (q_aJ S) a (fun _ => 0), va_up (q_aR S) a (fun _ => none))
/-- what a field is: 0 int, 1 long, 2 a reference -/
def tk_tag : Nat → Nat → Nat := fun c k => match parseFieldDescriptor ((vwCl.getD c (RX0, TX0, 0)).2.1 k).2.2.1 with
  | some .int => 0
  | some .long => 1
  | _ => 2
def tk_nf (c : Nat) : Nat := (vwCl.getD c (RX0, TX0, 0)).2.2
def tk_val (S : tk_S) (c k a : Nat) : Value := if tk_tag c k = 0 then .int (q_I S c k a) else if tk_tag c k = 1 then .long (q_J S c k a) else va_rf (q_R S c k a)
def tk_fs (S : tk_S) (c a : Nat) : List Value := (List.range (tk_nf c)).map (fun k => tk_val S c k a)
def tk_ent (Y : Nat → ClassId) (S : tk_S) (a : Nat) : va_E :=
  if q_K S a < 14 then .inr (q_K S a, tk_fs S (q_K S a) a)
  else if q_K S a = 16 then .inl (Y 16, q_n S a, .inr (.inl (q_aJ S a)))
  else if q_K S a = 18 then .inl (Y 18, q_n S a, .inr (.inr (.inr (.inr (q_aR S a)))))
  else .inl (Y (q_K S a), q_n S a, .inl (q_aI S a))
def tk_pl (Y : Nat → ClassId) (S : tk_S) : va_W := va_pl (q_L S) (tk_ent Y S)
def tk_tys (Y : Nat → ClassId) : List (ClassId × FieldType) := [(Y 14, .byte), (Y 15, .int), (Y 16, .long), (Y 17, .boolean), (Y 18, .object "java/lang/Object")]
theorem tk_get {Y : Nat → ClassId} {S : tk_S} {a : Nat} (h : a ∈ q_L S) : ∃ k : Nat, (tk_pl Y S)[k]? = some (a, tk_ent Y S a) := by
  have := va_pl_get (X := []) (f := tk_ent Y S) h
  simpa [tk_pl] using this
theorem tk_set {Y : Nat → ClassId} {A : Nat → Prop} {S S' : tk_S} {a k : Nat} {e : va_E} (hD : va_D A (tk_pl Y S)) (h : a ∈ q_L S) (hk : (tk_pl Y S)[k]? = some (a, tk_ent Y S a)) (hL : q_L S' = q_L S) (he : ∀ b, va_up (tk_ent Y S) a e b = tk_ent Y S' b) : (tk_pl Y S).set k (a, e) = tk_pl Y S' := by
  have h1 := va_pl_set (A := A) (X := []) (L := q_L S) (f := tk_ent Y S) (a := a) (k := k) (e := e) (by simpa [tk_pl] using hD) h (by simpa [tk_pl] using hk)
  simp only [List.nil_append] at h1
  unfold tk_pl
  rw [h1, hL]
  exact va_pl_congr he
theorem tk_ent_o {Y : Nat → ClassId} {S : tk_S} {a c : Nat} (h : q_K S a = c) (hc : c < 14) : tk_ent Y S a = .inr (c, tk_fs S c a) := by
  subst h
  simp [tk_ent, hc]
theorem tk_fs_get {S : tk_S} {c k a : Nat} (h : k < tk_nf c) : (tk_fs S c a)[k]? = some (tk_val S c k a) := by
  simp [tk_fs, h]
theorem tk_fs_len {S : tk_S} {c a : Nat} : (tk_fs S c a).length = tk_nf c := by simp [tk_fs]
theorem tk_range_set {α : Type} (n k : Nat) (g : Nat → α) (v : α) : ((List.range n).map g).set k v = (List.range n).map (fun j => if j = k then v else g j) := by
  apply List.ext_getElem?
  intro i
  rw [List.getElem?_set]
  by_cases hi : k = i
  · subst hi
    by_cases hn : k < n <;> simp [hn]
  · have hi' : ¬ i = k := fun h => hi h.symm
    by_cases hn : i < n <;> simp [hn, hi, hi']
/-! the String constants: class, place in its pool, text, bytes -/
def tk_sO : List String := ["TurnpikeTrust", "TurnpikeTrust", "TurnpikeTrust$Reade\x72", "TurnpikeTrust$Reade\x72", "TurnpikeTrust", "TurnpikeTrust", "TurnpikeTrust", "TurnpikeTrust", "TurnpikeTrust", "TurnpikeTrust", "TurnpikeTrust", "TurnpikeTrust", "TurnpikeTrust", "TurnpikeTrust", "TurnpikeTrust", "TurnpikeTrust", "TurnpikeTrust", "TurnpikeTrust", "TurnpikeTrust", "TurnpikeTrust", "TurnpikeTrust", "TurnpikeTrust", "TurnpikeTrust", "TurnpikeTrust", "TurnpikeTrust", "TurnpikeTrust", "TurnpikeTrust", "TurnpikeTrust", "TurnpikeTrustModel", "TurnpikeTrustModel", "TurnpikeTrustModel", "TurnpikeTrustModel", "TurnpikeTrustModel", "TurnpikeTrustModel", "TurnpikeTrustModel", "TurnpikeTrustModel", "TurnpikeTrustModel", "TurnpikeTrustModel", "TurnpikeTrustModel", "TurnpikeTrustModel", "TurnpikeTrustModel", "TurnpikeTrustModel", "TurnpikeTrustModel", "TurnpikeTrustModel", "TurnpikeTrustModel", "TurnpikeTrustModel", "TurnpikeTrustModel", "TurnpikeTrustModel", "TurnpikeTrustModel", "TurnpikeTrustModel", "TurnpikeTrustModel", "TurnpikeTrustModel", "TurnpikeTrustModel", "TurnpikeTrustModel", "TurnpikeTrustModel", "TurnpikeTrustModel"]
def tk_sI : List Nat := [75, 86, 178, 171, 107, 109, 118, 121, 132, 134, 141, 184, 186, 188, 193, 195, 219, 221, 226, 229, 238, 245, 247, 274, 276, 278, 284, 308, 292, 294, 296, 298, 300, 302, 304, 306, 231, 243, 245, 247, 249, 251, 253, 258, 259, 261, 263, 275, 277, 279, 281, 283, 285, 287, 226, 214]
def tk_sT : List String := ["no such length or day", "no more acts", "free toll times once if each score all or and not mail army church farm back wheels beasts gate day kind coach cart wagon horse cattle sheep foot ", "();/=<>", "no such price", "no more stretches", "no such stretch", "no more gates", "no such travelle\x72", "no more travellers", "no such gate", "no such act", "no such day", "no such wait", "no such rain", "no such loads", "no such money", "no more farmers", "no such farme\x72", "no such rent or surety", "no more bids", "no such quarters", "it is let", "no such question", "no such loan", "no more loans", "no such sum", "no such line", "free", "toll", "times", "once", "each", "score", "all", "if", "not", "mail", "army", "church", "farm", "back", "wheels", "beasts", "gate", "day", "kind", "coach", "cart", "wagon", "horse", "cattle", "sheep", "foot", "and", "o\x72"]
def tk_sB : List (List Int32) := [[110, 111, 32, 115, 117, 99, 104, 32, 108, 101, 110, 103, 116, 104, 32, 111, 114, 32, 100, 97, 121], [110, 111, 32, 109, 111, 114, 101, 32, 97, 99, 116, 115], [102, 114, 101, 101, 32, 116, 111, 108, 108, 32, 116, 105, 109, 101, 115, 32, 111, 110, 99, 101, 32, 105, 102, 32, 101, 97, 99, 104, 32, 115, 99, 111, 114, 101, 32, 97, 108, 108, 32, 111, 114, 32, 97, 110, 100, 32, 110, 111, 116, 32, 109, 97, 105, 108, 32, 97, 114, 109, 121, 32, 99, 104, 117, 114, 99, 104, 32, 102, 97, 114, 109, 32, 98, 97, 99, 107, 32, 119, 104, 101, 101, 108, 115, 32, 98, 101, 97, 115, 116, 115, 32, 103, 97, 116, 101, 32, 100, 97, 121, 32, 107, 105, 110, 100, 32, 99, 111, 97, 99, 104, 32, 99, 97, 114, 116, 32, 119, 97, 103, 111, 110, 32, 104, 111, 114, 115, 101, 32, 99, 97, 116, 116, 108, 101, 32, 115, 104, 101, 101, 112, 32, 102, 111, 111, 116, 32], [40, 41, 59, 47, 61, 60, 62], [110, 111, 32, 115, 117, 99, 104, 32, 112, 114, 105, 99, 101], [110, 111, 32, 109, 111, 114, 101, 32, 115, 116, 114, 101, 116, 99, 104, 101, 115], [110, 111, 32, 115, 117, 99, 104, 32, 115, 116, 114, 101, 116, 99, 104], [110, 111, 32, 109, 111, 114, 101, 32, 103, 97, 116, 101, 115], [110, 111, 32, 115, 117, 99, 104, 32, 116, 114, 97, 118, 101, 108, 108, 101, 114], [110, 111, 32, 109, 111, 114, 101, 32, 116, 114, 97, 118, 101, 108, 108, 101, 114, 115], [110, 111, 32, 115, 117, 99, 104, 32, 103, 97, 116, 101], [110, 111, 32, 115, 117, 99, 104, 32, 97, 99, 116], [110, 111, 32, 115, 117, 99, 104, 32, 100, 97, 121], [110, 111, 32, 115, 117, 99, 104, 32, 119, 97, 105, 116], [110, 111, 32, 115, 117, 99, 104, 32, 114, 97, 105, 110], [110, 111, 32, 115, 117, 99, 104, 32, 108, 111, 97, 100, 115], [110, 111, 32, 115, 117, 99, 104, 32, 109, 111, 110, 101, 121], [110, 111, 32, 109, 111, 114, 101, 32, 102, 97, 114, 109, 101, 114, 115], [110, 111, 32, 115, 117, 99, 104, 32, 102, 97, 114, 109, 101, 114], [110, 111, 32, 115, 117, 99, 104, 32, 114, 101, 110, 116, 32, 111, 114, 32, 115, 117, 114, 101, 116, 121], [110, 111, 32, 109, 111, 114, 101, 32, 98, 105, 100, 115], [110, 111, 32, 115, 117, 99, 104, 32, 113, 117, 97, 114, 116, 101, 114, 115], [105, 116, 32, 105, 115, 32, 108, 101, 116], [110, 111, 32, 115, 117, 99, 104, 32, 113, 117, 101, 115, 116, 105, 111, 110], [110, 111, 32, 115, 117, 99, 104, 32, 108, 111, 97, 110], [110, 111, 32, 109, 111, 114, 101, 32, 108, 111, 97, 110, 115], [110, 111, 32, 115, 117, 99, 104, 32, 115, 117, 109], [110, 111, 32, 115, 117, 99, 104, 32, 108, 105, 110, 101], [102, 114, 101, 101], [116, 111, 108, 108], [116, 105, 109, 101, 115], [111, 110, 99, 101], [101, 97, 99, 104], [115, 99, 111, 114, 101], [97, 108, 108], [105, 102], [110, 111, 116], [109, 97, 105, 108], [97, 114, 109, 121], [99, 104, 117, 114, 99, 104], [102, 97, 114, 109], [98, 97, 99, 107], [119, 104, 101, 101, 108, 115], [98, 101, 97, 115, 116, 115], [103, 97, 116, 101], [100, 97, 121], [107, 105, 110, 100], [99, 111, 97, 99, 104], [99, 97, 114, 116], [119, 97, 103, 111, 110], [104, 111, 114, 115, 101], [99, 97, 116, 116, 108, 101], [115, 104, 101, 101, 112], [102, 111, 111, 116], [97, 110, 100], [111, 114]]
def tk_nS : Nat := 56
abbrev tk_V : Type := (Nat → Nat) × (Nat → Nat) × Nat × Nat
/-- constant i: a String of one byte a sign -/
def tk_str (V : tk_V) (i : Nat) (A : Nat → Prop) (U : State) (H : Heap) : Prop := va_O "java/lang/String" (V.1 i) A U H ∧ va_OF "java/lang/String" "code\x72" "B" (.int 0) (V.1 i) A U H ∧ va_OF "java/lang/String" "value" "[B" (.ref (V.2.1 i)) (V.1 i) A U H ∧ va_T .byte (V.2.1 i) (tk_sB.getD i []).length (fun j => .int ((tk_sB.getD i []).getD j 0)) A U H
/-- words of the tables that last, but by rows of their own -/
def tk_isN : Cond → Bool
  | .castable .. => true
  | .declares .. => true
  | .methodLinkNest .. => true
  | _ => false
def tk_N : List Cond := lw_tbl.filter tk_isN
theorem tk_N_tab {w : Cond} (h : tk_isN w = true) : w.onTables = true := by
  cases w <;> first | rfl | cases h
theorem tk_N_warm {w : Cond} (h : tk_isN w = true) {s U : State} (hW : s.WarmedH U.vm) (hZ : va_Nw w s) : va_Nw w U := by
  cases w <;> first | exact va_Nw.warmC hW hZ | exact va_Nw.warmD hW hZ | exact va_Nw.warmM hW hZ | cases h
/-- the exceptions that are not each other -/
def tk_ncs : List (String × String) := [("java/lang/IllegalArgumentException", "java/lang/IllegalStateException"), ("java/lang/IllegalArgumentException", "java/lang/IndexOutOfBoundsException"), ("java/lang/IllegalStateException", "java/lang/IllegalArgumentException"), ("java/lang/IllegalStateException", "java/lang/IndexOutOfBoundsException"), ("java/lang/IndexOutOfBoundsException", "java/lang/IllegalArgumentException"), ("java/lang/IndexOutOfBoundsException", "java/lang/IllegalStateException")]
/-- THE OUTER WORLD, that nobody writes: Throwable's statics, ArrayList's empty row, the String constants -/
def tk_O (V : tk_V) (A : Nat → Prop) (U : State) (H : Heap) : Prop :=
  vx_Zq Bundle.tN "UNASSIGNED_STACK" Bundle.steD A U H ∧ vx_Zq Bundle.tN "SUPPRESSED_SENTINEL" Bundle.listD A U H ∧ va_Z "java/util/ArrayList" "DEFAULTCAPACITY_EMPTY_ELEMENTDATA" "[Ljava/lang/Object;" (.ref V.2.2.1) A U H ∧ va_T (.object "java/lang/Object") V.2.2.1 0 (fun _ => .null) A U H ∧
  ((∀ i, i < tk_nS → tk_str V i A U H) ∧ va_Z "java/lang/String" "COMPACT_STRINGS" "Z" (.int 1) A U H ∧ va_AO "java/lang/Object" U ∧ va_Mi "[Ljava/lang/Object;" V.2.2.2 U ∧ va_Dc U ∧ va_Zq "jdk/internal/util/Preconditions" "SIOOBE_FORMATTER" "Ljava/util/function/BiFunction;" A U H ∧ ∀ q ∈ tk_ncs, va_Nc q.1 q.2 U) ∧ (∀ i, i < tk_nS → vk_R (tk_sO.getD i "") (tk_sI.getD i 0) (tk_sT.getD i "") (V.1 i) U) ∧ ∀ w ∈ tk_N, va_Nw w U
theorem tk_O.kept {V : tk_V} {A : Nat → Prop} {U : State} {H H1 : Heap} (h : tk_O V A U H) (hq : ∀ a : Nat, a < H.size → ¬ A a → H1[a]? = H[a]?) : tk_O V A U H1 := by
  obtain ⟨h1, h2, h3, h4, ⟨h5, h8, h9, h10, h11, h12, h13⟩, h6, h7⟩ := h
  exact ⟨h1.kept hq, h2.kept hq, h3.kept hq, h4.kept hq, ⟨fun i hi => ⟨(h5 i hi).1.kept hq, (h5 i hi).2.1.kept hq, (h5 i hi).2.2.1.kept hq, (h5 i hi).2.2.2.kept hq⟩, h8.kept hq, h9, h10, h11, h12.kept hq, h13⟩, h6, h7⟩
theorem tk_O.narrow {V : tk_V} {A B : Nat → Prop} {U : State} {H : Heap} (h : tk_O V A U H) (hAB : ∀ q, B q → A q) : tk_O V B U H := by
  obtain ⟨h1, h2, h3, h4, ⟨h5, h8, h9, h10, h11, h12, h13⟩, h6, h7⟩ := h
  exact ⟨h1.narrow hAB, h2.narrow hAB, h3.narrow hAB, h4.narrow hAB, ⟨fun i hi => ⟨(h5 i hi).1.narrow hAB, (h5 i hi).2.1.narrow hAB, (h5 i hi).2.2.1.narrow hAB, (h5 i hi).2.2.2.narrow hAB⟩, h8.narrow hAB, h9, h10, h11, h12.narrow hAB, h13⟩, h6, h7⟩
theorem tk_O.moved {V : tk_V} {A : Nat → Prop} {u U : State} {H : Heap} (hvm : u.vm.Alike U.vm) (hR : ∀ own k tx a, vk_R own k tx a u → vk_R own k tx a U) (hN : ∀ w, tk_isN w = true → va_Nw w u → va_Nw w U) (h : tk_O V A u H) : tk_O V A U H := by
  obtain ⟨h1, h2, h3, h4, ⟨h5, h8, h9, h10, h11, h12, h13⟩, h6, h7⟩ := h
  exact ⟨h1.moved hvm, h2.moved hvm, h3.moved hvm, h4.moved hvm, ⟨fun i hi => ⟨(h5 i hi).1.moved hvm, (h5 i hi).2.1.moved hvm, (h5 i hi).2.2.1.moved hvm, (h5 i hi).2.2.2.moved hvm⟩, h8.moved hvm, h9.moved hvm, h10.moved hvm, h11.moved hvm, h12.moved hvm, fun q hq => (h13 q hq).moved hvm⟩, fun i hi => hR _ _ _ _ (h6 i hi), fun w hw => hN w (List.mem_filter.mp hw).2 (h7 w hw)⟩
/-- a callee's view of it -/
theorem tk_O.call {V : tk_V} {A B : Nat → Prop} {s U : State} {H : Heap} {locs : List Loc} (h : tk_O V A s s.heap) (hS : va_S A s.heap H locs) (hB : ∀ q, B q → A q) (hU : U.heap = H) (hW : s.WarmedH U.vm) : tk_O V B U U.heap := by
  rw [hU]
  exact ((h.kept hS.2.1).narrow hB).moved hW.alike (fun _ _ _ _ z => vk_R.warm hW z) (fun w h z => tk_N_warm h hW z)

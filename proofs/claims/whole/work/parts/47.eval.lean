/-! CONDITIONS, purely: bits and piles -/
section EVAL
/-- which fact a word asks for -/
def kOf (w : Int32) : Nat := (w - 267).toNatClampNeg
theorem kOf_n {k : Nat} (hk : k < 1000) : kOf (nI (267 + k)) = k := by
  unfold kOf
  have e1 : nI (267 + k) - 267 = nI k := by
    rw [Nat.add_comm, ← nI_add]
    exact Int32.add_sub_cancel _ _
  rw [e1]
  exact nI_clamp (by omega)
def fI (F : Nat → Int32) (x : pS) : Bool := decide (factI (F (kOf x.1)) x.2.1 x.2.2 = 1)
def estep (F : Nat → Int32) (st : List Bool) (x : pS) : List Bool :=
  if x.1 = 266 then (match st with
    | b :: r => (!b) :: r
    | [] => [])
  else if x.1 = 264 then (match st with
    | b :: c :: r => (c || b) :: r
    | _ => st)
  else if x.1 = 265 then (match st with
    | b :: c :: r => (c && b) :: r
    | _ => st)
  else fI F x :: st
def bstep (F : Nat → Int32) (b : Int64) (x : pS) : Int64 := if x.1 = 266 then b ^^^ 1 else if x.1 = 264 then b >>> (1 &&& 63) ||| b &&& 1 else if x.1 = 265 then (if b &&& 1 = 1 then b >>> (1 &&& 63) else b >>> (1 &&& 63) &&& -2) else b <<< (1 &&& 63) ||| (factI (F (kOf x.1)) x.2.1 x.2.2).toInt64
/-- does a condition hold -/
def holdsM (F : Nat → Int32) (c : List pS) : Bool := c.isEmpty || (c.foldl (estep F) []).headD true
def bRep (b : Int64) (st : List Bool) : Prop := st.length ≤ 64 ∧ ∀ i v, st[i]? = some v → b.toBitVec.getLsbD i = v
theorem b_and1 (b : Int64) : b &&& 1 = 1 ↔ b.toBitVec.getLsbD 0 = true := by
  constructor
  · intro h
    have : (b &&& 1).toBitVec.getLsbD 0 = (1 : Int64).toBitVec.getLsbD 0 := by rw [h]
    rw [Int64.toBitVec_and, BitVec.getLsbD_and] at this
    simpa using this
  · intro h
    apply Int64.toBitVec_inj.mp
    apply BitVec.eq_of_getLsbD_eq
    intro i hi
    rw [Int64.toBitVec_and, BitVec.getLsbD_and]
    by_cases h0 : i = 0
    · subst h0
      rw [h]
      rfl
    · have : (1 : Int64).toBitVec.getLsbD i = false := by
        show (1#64).getLsbD i = false
        rw [BitVec.getLsbD_one]
        simp [h0]
      rw [this]
      simp
theorem bit_shr (b : Int64) (i : Nat) (hi : i < 63) : (b >>> (1 &&& 63)).toBitVec.getLsbD i = b.toBitVec.getLsbD (i + 1) := by
  have e : (b >>> (1 &&& 63)).toBitVec = b.toBitVec.sshiftRight 1 := rfl
  rw [e, BitVec.getLsbD_sshiftRight]
  have h1 : ¬ 64 ≤ i := by omega
  have h2 : 1 + i < 64 := by omega
  simp [h1, h2, Nat.add_comm]
  intro z
  omega
theorem bit_shl (b : Int64) (i : Nat) (hi : i + 1 < 64) : (b <<< (1 &&& 63)).toBitVec.getLsbD (i + 1) = b.toBitVec.getLsbD i := by
  have e : (b <<< (1 &&& 63)).toBitVec = b.toBitVec <<< 1 := rfl
  rw [e, BitVec.getLsbD_shiftLeft]
  simp [hi]
theorem bit_shl0 (b : Int64) : (b <<< (1 &&& 63)).toBitVec.getLsbD 0 = false := by
  have e : (b <<< (1 &&& 63)).toBitVec = b.toBitVec <<< 1 := rfl
  rw [e, BitVec.getLsbD_shiftLeft]
  simp
theorem bit_one (i : Nat) : (1 : Int64).toBitVec.getLsbD i = decide (i = 0) := by
  show (1#64).getLsbD i = _
  rw [BitVec.getLsbD_one]
  simp
theorem bit_m2 (i : Nat) (hi : i < 64) : (-2 : Int64).toBitVec.getLsbD i = decide (i ≠ 0) := by
  have : ∀ j, j < 64 → (-2 : Int64).toBitVec.getLsbD j = decide (j ≠ 0) := by decide +kernel
  exact this i hi
theorem bRep_step {F : Nat → Int32} {b : Int64} {st : List Bool} {x : pS} {n : Nat} (h : bRep b st) (hw : wk 64 [x] st.length = some n) : bRep (bstep F b x) (estep F st x) ∧ (estep F st x).length = n := by
  obtain ⟨hl, hb⟩ := h
  unfold wk at hw
  unfold bstep estep
  by_cases h1 : x.1 = 266
  · rw [if_pos h1] at hw ⊢
    rw [if_pos h1]
    rcases st with _ | ⟨v, r⟩
    · simp at hw
    · have hn : r.length + 1 = n := by simpa [wk] using hw
      refine ⟨⟨by simpa using hl, fun i w hi => ?_⟩, by simpa using hn⟩
      rw [Int64.toBitVec_xor, BitVec.getLsbD_xor, bit_one]
      cases i with
      | zero =>
        have : (!v) = w := by simpa using hi
        rw [hb 0 v (by simp), ← this]
        simp
      | succ i =>
        rw [hb (i + 1) w (by simpa using hi)]
        simp
  rw [if_neg h1] at hw ⊢
  rw [if_neg h1]
  by_cases h2 : x.1 = 264
  · rw [if_pos (Or.inl h2)] at hw
    rw [if_pos h2, if_pos h2]
    rcases st with _ | ⟨v, _ | ⟨u, r⟩⟩
    · simp at hw
    · simp at hw
    · have hn : r.length + 1 = n := by simpa [wk] using hw
      have hl2 : r.length + 2 ≤ 64 := by simpa using hl
      refine ⟨⟨by simp; omega, fun i w hi => ?_⟩, by simpa using hn⟩
      have hi2 : i < 63 := by
        have := (List.getElem?_eq_some_iff.mp hi).1
        simp at this
        omega
      rw [Int64.toBitVec_or, BitVec.getLsbD_or, bit_shr b i hi2, Int64.toBitVec_and, BitVec.getLsbD_and, bit_one]
      cases i with
      | zero =>
        have : (u || v) = w := by simpa using hi
        rw [hb 1 u (by simp), hb 0 v (by simp), ← this]
        simp
      | succ i =>
        rw [hb (i + 1 + 1) w (by simpa using hi)]
        simp
  rw [if_neg h2]
  rw [if_neg h2]
  by_cases h3 : x.1 = 265
  · rw [if_pos (Or.inr h3)] at hw
    rw [if_pos h3, if_pos h3]
    rcases st with _ | ⟨v, _ | ⟨u, r⟩⟩
    · simp at hw
    · simp at hw
    · have hn : r.length + 1 = n := by simpa [wk] using hw
      have hl2 : r.length + 2 ≤ 64 := by simpa using hl
      refine ⟨⟨by simp; omega, fun i w hi => ?_⟩, by simpa using hn⟩
      have hi2 : i < 63 := by
        have := (List.getElem?_eq_some_iff.mp hi).1
        simp at this
        omega
      have hv := hb 0 v (by simp)
      cases i with
      | zero =>
        have e : (u && v) = w := by simpa using hi
        by_cases hv1 : b &&& 1 = 1
        · rw [if_pos hv1, bit_shr b 0 hi2, hb 1 u (by simp)]
          have := (b_and1 b).mp hv1
          rw [hv] at this
          rw [← e, this]
          simp
        · rw [if_neg hv1, Int64.toBitVec_and, BitVec.getLsbD_and, bit_m2 0 (by omega)]
          have hvf : v = false := by
            cases v
            · rfl
            · exact absurd ((b_and1 b).mpr hv) hv1
          rw [← e, hvf]
          simp
      | succ i =>
        have e := hb (i + 1 + 1) w (by simpa using hi)
        by_cases hv1 : b &&& 1 = 1
        · rw [if_pos hv1, bit_shr b _ hi2, e]
        · rw [if_neg hv1, Int64.toBitVec_and, BitVec.getLsbD_and, bit_m2 _ (by omega), bit_shr b _ hi2, e]
          simp
  rw [if_neg h3]
  rw [if_neg h3]
  rw [if_neg (fun z => z.elim h2 h3)] at hw
  by_cases h4 : st.length < 64
  · rw [if_pos h4] at hw
    have hn : st.length + 1 = n := by simpa [wk] using hw
    refine ⟨⟨by simp; omega, fun i w hi => ?_⟩, by simpa using hn⟩
    have f01 := fact01 (F (kOf x.1)) x.2.1 x.2.2
    rw [Int64.toBitVec_or, BitVec.getLsbD_or]
    cases i with
    | zero =>
      have e : fI F x = w := by simpa using hi
      rw [bit_shl0, ← e]
      unfold fI
      rcases f01 with z | z
      · rw [z]; rfl
      · rw [z]; rfl
    | succ i =>
      have hi2 := hb i w (by simpa using hi)
      have hil : i < st.length := (List.getElem?_eq_some_iff.mp (show st[i]? = some w by simpa using hi)).1
      rw [bit_shl b i (by omega), hi2]
      have e0 : (factI (F (kOf x.1)) x.2.1 x.2.2).toInt64.toBitVec.getLsbD (i + 1) = false := by
        rcases f01 with z | z
        · rw [z]
          show (0#64).getLsbD (i + 1) = false
          simp
        · rw [z]
          have := bit_one (i + 1)
          simpa using this
      rw [e0]
      simp
  · rw [if_neg h4] at hw
    cases hw
theorem bRep_all {F : Nat → Int32} : ∀ (c : List pS) (b : Int64) (st : List Bool) (n : Nat), bRep b st → wk 64 c st.length = some n → bRep (c.foldl (bstep F) b) (c.foldl (estep F) st) ∧ (c.foldl (estep F) st).length = n := by
  intro c
  induction c with
  | nil =>
    intro b st n h hw
    exact ⟨h, by simpa [wk] using hw⟩
  | cons x xs ih =>
    intro b st n h hw
    rw [show x :: xs = [x] ++ xs from rfl, wk_app] at hw
    obtain ⟨k, h1, h2⟩ := Option.bind_eq_some_iff.mp hw
    have h3 := bRep_step (F := F) h h1
    rw [List.foldl_cons, List.foldl_cons]
    exact ih _ _ n h3.1 (by rw [h3.2]; exact h2)
/-- the class's bits tell what the pile tells -/
theorem bits_hold {F : Nat → Int32} {c : List pS} (hc : c ≠ []) (hw : wk 64 c 0 = some 1) : (c.foldl (bstep F) 0 &&& 1 = 1) ↔ holdsM F c = true := by
  have h := bRep_all (F := F) c 0 [] 1 ⟨by simp, fun i v hi => by simp at hi⟩ hw
  rw [b_and1]
  unfold holdsM
  have he : c.isEmpty = false := by cases c with
    | nil => exact absurd rfl hc
    | cons x xs => rfl
  rw [he, Bool.false_or]
  rcases hs : c.foldl (estep F) [] with _ | ⟨v, r⟩
  · rw [hs] at h; simp at h
  · rw [hs] at h
    rw [h.1.2 0 v (by simp)]
    simp
theorem bitsIn_fold {F : Nat → Int32} (c : List pS) : ∀ k, k ≤ c.length → bitsIn (fun k => (c.getD k (0, 0, 0)).1) (fun k => (c.getD k (0, 0, 0)).2.1) (fun k => (c.getD k (0, 0, 0)).2.2) (fun k => F (kOf (c.getD k (0, 0, 0)).1)) k = (c.take k).foldl (bstep F) 0 := by
  intro k
  induction k with
  | zero => intro _; simp [bitsIn]
  | succ k ih =>
    intro hk
    have h1 : c.take (k + 1) = c.take k ++ [c.getD k (0, 0, 0)] := by
      rw [List.take_add_one]
      have : c[k]? = some (c.getD k (0, 0, 0)) := by simp [List.getD, show k < c.length by omega]
      rw [this]
      rfl
    rw [bitsIn, ih (by omega), h1, List.foldl_append]
    rfl
end EVAL

/-! THE LAW: its frame -/
/-! THE CLAIM OUT OF ONE WALK OF THE LAW'S BODY. Your part is whole_start (and what it stands on); all else here is the same for every law, but numbers. -/
def R_law : String := "TurnpikeTrustLaw"
def lw_P (b : Addr) (xs : List Int32) (args : Array Value) (s : State) : Prop := args = #[.ref b] ∧ s.IntsAt b xs ∧ xs.length ≤ 3072 ∧ (Jvm.Cond.and given_1 narrow_1).before args s = true
def lw_Q (_ : Array Value) (s : State) (o : Outcome) (t : State) : Prop := o = .returned (some (.int 1)) ∧ Framed s o t [] 601024 7293034
def lw_Z (below : List Frame) (a : Array Value) (s : State) : State → Prop := fun t => ∃ o, t.status = .running ∧ Ended t below o ∧ lw_Q a s o t
/-- the law's own end, with 1 on the stack, nothing written that was there before, its room as the claim has it -/
theorem lw_ret {p : Program} {l : Launch} {e : Env} {s : State} {m : MethodId} {below : List Frame} {meth : Method} {c : Code} {b : Nat} (hx : p.tables.exec = Jvm.exec) (hb : c.code = code) (hr : meth.sig.returnType = ret) (hlocks : meth.locks = false) {pc : Nat} {H : Heap} {ls : Array Slot} (hdg : decode code pc = .ok (.ireturn, 1)) : W p l e room_1 s m #[Value.ref b] below meth c H [] 601024 7293034 (lw_Z below #[Value.ref b] s) (F0 m pc ls [.int 1]) := by
  intro T hT X
  obtain ⟨fs, hret, hrun, hended, hW, hframe⟩ := X.leave (v := some (.int 1)) (hlocks := hlocks) (fun h => by rw [hr] at h; cases h)
  have hmeth' : T.vm.method? m = some meth := X.method'
  refine ⟨T.setFrames fs, ?_, .returned (some (.int 1)), hrun, hended, rfl, ⟨_, rfl⟩, hW, hframe⟩
  jvm_step X.here [X.here.top, hx, hb, hdg, hmeth', hr, ret, narrow_b1]
  (try refine ⟨rfl, ?_⟩); (try refine ⟨rfl, ?_⟩)
  first | (intro acts; rw [hret _ acts rfl rfl rfl]) | rw [hret _ _ rfl rfl rfl]
  exact Steps.refl _
/-- what holds at the law's entry: the machine, the code, the tables' words (any of lw_tbl by 'hts w (by decide +kernel)'), the script of L ints xs at the cell b, what the Statement gives of the start (any of its parts by flat_of_before) -/
def lw_At (p : Program) (s : State) (m : MethodId) (meth : Method) (c : Code) (b L : Nat) (xs : Nat → Int32) : Prop :=
  p.tables.exec = Jvm.exec ∧ c.code = code ∧ meth.sig.returnType = ret ∧ c.maxLocals = 8 ∧ s.vm.findClass R_law = some m.cls ∧ (∀ w ∈ lw_tbl, w.before #[Value.ref b] s = true) ∧ va_X b L xs s s.heap ∧ b < s.heap.size ∧ meth.locks = false ∧ (Jvm.Cond.and given_1 narrow_1).before #[Value.ref b] s = true
section LAWR
variable {Z : tk_Z} {X : tk_X} {cc : ByteArray} {nL : Nat} {own : String} {Ts : List Cond} {pc : Nat} {ls : List (Option Value)} {st : List Value} {S : tk_S} {cs ss : Nat} {K : tk_K} {d mc ms : Nat} {b L : Nat} {xs : Nat → Int32}
/-- the law's own frame -/
def lwX (X : tk_X) (b L : Nat) (xs : Nat → Int32) : Prop := match X with
  | (_, _, _, R, s, _, args, below, meth, _, _, _, _, A, Q) => R = room_1 ∧ args = #[Value.ref b] ∧ A = (fun q => s.heap.size ≤ q) ∧ Q = lw_Z below #[Value.ref b] s ∧ meth.sig.returnType = ret ∧ va_X b L xs s s.heap ∧ b < s.heap.size
/-- the script's int -/
def i_xld (b L : Nat) (xs : Nat → Int32) : tk_K → tk_K := fun K ls st S cs ss => match st with
  | .int i :: .ref a :: r => a = b ∧ vp_in i L ∧ K ls (.int (xs i.toNatClampNeg) :: r) S cs ss
  | _ => False
theorem s_xld (C0 : tk_C X cc nL own Ts) (L0 : lwX X b L xs) (hd : decode cc pc = .ok (.iaload, 1)) (h : i_xld b L xs K ls st S cs ss) (k0 : ∀ ls st S cs ss, K ls st S cs ss → tk_W X nL (pc + 1) ls st S cs ss) : tk_W X nL pc ls st S cs ss := by
  obtain ⟨p, l, e, R, s, m, args, below, meth, c0, D, Y, V, A, Q⟩ := X
  obtain ⟨hx, hb, hml, hown, hts, hK, hA, hlk, hO⟩ := C0
  obtain ⟨-, -, hAe, -, -, hX, hbl⟩ := L0
  intro H locs la hP hD hS hl
  unfold i_xld at h
  split at h
  · obtain ⟨rfl, hin, h⟩ := h
    exact va_sld hx hb hX hbl (by rw [hAe]; exact Nat.not_le.mpr hbl) hS hin hd (k0 _ _ _ _ _ h H locs la hP hD hS hl)
  · exact h.elim
/-- how many ints the script has -/
def i_xlen (b L : Nat) : tk_K → tk_K := fun K ls st S cs ss => match st with
  | .ref a :: r => a = b ∧ K ls (.int (nI L) :: r) S cs ss
  | _ => False
theorem s_xlen (C0 : tk_C X cc nL own Ts) (L0 : lwX X b L xs) (hd : decode cc pc = .ok (.arraylength, 1)) (h : i_xlen b L K ls st S cs ss) (k0 : ∀ ls st S cs ss, K ls st S cs ss → tk_W X nL (pc + 1) ls st S cs ss) : tk_W X nL pc ls st S cs ss := by
  obtain ⟨p, l, e, R, s, m, args, below, meth, c0, D, Y, V, A, Q⟩ := X
  obtain ⟨hx, hb, hml, hown, hts, hK, hA, hlk, hO⟩ := C0
  obtain ⟨-, -, hAe, -, -, hX, hbl⟩ := L0
  intro H locs la hP hD hS hl
  unfold i_xlen at h
  split at h
  · obtain ⟨rfl, h⟩ := h
    exact va_slen hx hb hX hbl (by rw [hAe]; exact Nat.not_le.mpr hbl) hS hd (k0 _ _ _ _ _ h H locs la hP hD hS hl)
  · exact h.elim
/-- the law's end -/
def i_lwret : tk_K := fun ls st S cs ss => match st with
  | [.int v] => v = 1 ∧ cs ≤ 601024 ∧ ss ≤ 7293034
  | _ => False
theorem s_lwret (C0 : tk_C X code nL own Ts) (L0 : lwX X b L xs) (hd : decode code pc = .ok (.ireturn, 1)) (h : i_lwret ls st S cs ss) : tk_W X nL pc ls st S cs ss := by
  obtain ⟨p, l, e, R, s, m, args, below, meth, c0, D, Y, V, A, Q⟩ := X
  obtain ⟨hx, hb, hml, hown, hts, hK, hA, hlk, hO⟩ := C0
  obtain ⟨hR, hargs, hAe, hQ, hr, hX, hbl⟩ := L0
  subst hR
  subst hargs
  subst hQ
  intro H locs la hP hD hS hl
  unfold i_lwret at h
  split at h
  · obtain ⟨rfl, h1, h2⟩ := h
    refine va_forget (fun q hq => ?_) (W.widen h1 h2 (lw_ret hx hb hr hlk hd))
    have := hS.2.2 q hq
    rw [hAe] at this
    exact this
  · exact h.elim
/-- the shared row is none of the pool's -/
theorem s_out (C0 : tk_C X cc nL own Ts) (E0 : tk_E1 Z X d mc ms) (h : Z.2.2.2.2.2.1 ∉ q_L S → tk_W X nL pc ls st S cs ss) : tk_W X nL pc ls st S cs ss := by
  obtain ⟨p, l, e, R, s, m, args, below, meth, c0, D, Y, V, A, Q⟩ := X
  obtain ⟨hx, hb, hml, hown, hts, hK, hA, hlk, hO⟩ := C0
  obtain ⟨hR, hZ⟩ := E0
  subst hZ
  intro H locs la hP hD hS hl
  refine h (fun z => ?_) H locs la hP hD hS hl
  obtain ⟨c, -, -, -, -, -, -, hn⟩ := hO.2.2.2.1
  obtain ⟨k, hk⟩ := tk_get (Y := Y) z
  exact hn (hD.2 k _ hk)
end LAWR

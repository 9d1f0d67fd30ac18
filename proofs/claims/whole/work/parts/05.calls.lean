/-! CONTRACTS over the pool, returns, calls -/
/-- every word of the tables that lasts -/
def tk_G : List Cond := lw_tbl.filter goodWord
theorem tk_inG (i : Nat) {w : Cond} (h : lw_tbl[i]? = some w) (g : goodWord w = true) : w ∈ tk_G := List.mem_filter.mpr ⟨List.mem_of_getElem? h, g⟩
/-- a method: name, code, locals, return -/
abbrev tk_Y : Type := MethodName × ByteArray × Nat × Option FieldType
def tk_code (y : tk_Y) : Cond := .code y.1 y.2.1 y.2.2.1 y.2.2.2
def tk_ws (y : tk_Y) : List Cond := tk_code y :: tk_G
theorem tk_good (y z : tk_Y) (h : tk_code z ∈ tk_G) : GoodIn (tk_ws y) (tk_ws z) := by
  intro w hw
  have hw2 : w ∈ tk_G := by
    rcases List.mem_cons.mp hw with rfl | h2
    · exact h
    · exact h2
  exact ⟨List.mem_cons_of_mem _ hw2, good_of_word (List.mem_filter.mp hw2).2⟩
abbrev tk_Z : Type := Launch × va_G × (Nat → ClassId) × tk_V
/-- the pool is in the state -/
def tk_B (D : va_G) (Y : Nat → ClassId) (A : Nat → Prop) (S : tk_S) (t : State) : Prop := va_P D vwCl (tk_pl Y S) t.heap ∧ va_K D vwCl (tk_tys Y) t ∧ va_D A (tk_pl Y S)
def tk_Q (D : va_G) (Y : Nat → ClassId) (S0 : tk_S) (sz : Nat) (QR : Option Value → tk_S → Prop) : Array Value → State → Outcome → State → Prop := fun _ st o t =>
  (∃ v S', o = .returned v ∧ QR v S' ∧ tk_B D Y (va_A (tk_pl Y S0) sz) S' t) ∧ va_F (va_A (tk_pl Y S0) sz) st t
def tk_XC (D : va_G) (Y : Nat → ClassId) (S0 : tk_S) (sz : Nat) (QX : String → tk_S → Prop) : String → State → State → Prop := fun E st t =>
  (∃ S', QX E S' ∧ tk_B D Y (va_A (tk_pl Y S0) sz) S' t) ∧ va_F (va_A (tk_pl Y S0) sz) st t
def tk_Pc (D : va_G) (Y : Nat → ClassId) (V : tk_V) (S0 : tk_S) (sz : Nat) (av : List Value) : Array Value → State → Prop := va_Pc av (fun U => U.heap.size = sz ∧ tk_B D Y (fun _ => True) S0 U ∧ tk_O V (va_A (tk_pl Y S0) sz) U U.heap)
/-- A METHOD'S CONTRACT: from the pool S it returns with QR, or throws with QX -/
def tk_M (Z : tk_Z) (y : tk_Y) (d mc ms : Nat) (av : List Value) (S : tk_S) (QR : Option Value → tk_S → Prop) (QX : String → tk_S → Prop) : Prop :=
  ∀ sz, vx_Met Z.1 y.1 (tk_ws y) (tk_rm d mc ms) (tk_Pc Z.2.1 Z.2.2.1 Z.2.2.2 S sz av) (tk_Q Z.2.1 Z.2.2.1 S sz QR) (tk_XC Z.2.1 Z.2.2.1 S sz QX) mc ms (va_A (tk_pl Z.2.2.1 S) sz)
def tk_noX : String → tk_S → Prop := fun _ _ => False
theorem tk_M.met {Z : tk_Z} {y : tk_Y} {d mc ms : Nat} {av : List Value} {S : tk_S} {QR : Option Value → tk_S → Prop} (h : tk_M Z y d mc ms av S QR tk_noX) (sz : Nat) :
    Met Z.1 y.1 (tk_ws y) (tk_rm d mc ms) (tk_Pc Z.2.1 Z.2.2.1 Z.2.2.2 S sz av) (tk_Q Z.2.1 Z.2.2.1 S sz QR) mc ms (va_A (tk_pl Z.2.2.1 S) sz) := by
  refine MetFree.mono (h sz) (fun _ _ h => h) (fun _ _ _ _ _ h => h) (fun a s o s' _ hq => ?_)
  rcases hq with hq | ⟨q, -, E, ce, L, ⟨⟨S', hS', -⟩, -⟩, -⟩
  · exact hq
  · exact hS'.elim
/-- what stands of a body: its room, its end -/
def tk_End (Z : tk_Z) (X : tk_X) (d mc ms : Nat) (ret : Option FieldType) (QR : Option Value → tk_S → Prop) (QX : String → tk_S → Prop) : Prop := match X with
  | (_, l, _, R, s, _, args, below, meth, _, D, Y, V, A, Q) => tk_rmLe R d mc ms ∧ meth.sig.returnType = ret ∧ (l, D, Y, V) = Z ∧ ∃ S0, A = va_A (tk_pl Y S0) s.heap.size ∧ Q = vx_MQ below (tk_Q D Y S0 s.heap.size QR) (tk_XC D Y S0 s.heap.size QX) args s mc ms A
theorem tk_End.rm {Z : tk_Z} {X : tk_X} {d mc ms : Nat} {ret : Option FieldType} {QR : Option Value → tk_S → Prop} {QX : String → tk_S → Prop} (h : tk_End Z X d mc ms ret QR QX) : tk_rmIs X d mc ms := by
  obtain ⟨p, l, e, R, s, m, args, below, meth, c, D, Y, V, A, Q⟩ := X
  exact h.1
/-- the room and the fixed things alone -/
def tk_E1 (Z : tk_Z) (X : tk_X) (d mc ms : Nat) : Prop := match X with
  | (_, l, _, R, _, _, _, _, _, _, D, Y, V, _, _) => tk_rmLe R d mc ms ∧ (l, D, Y, V) = Z
theorem tk_End.e1 {Z : tk_Z} {X : tk_X} {d mc ms : Nat} {ret : Option FieldType} {QR : Option Value → tk_S → Prop} {QX : String → tk_S → Prop} (h : tk_End Z X d mc ms ret QR QX) : tk_E1 Z X d mc ms := by
  obtain ⟨p, l, e, R, s, m, args, below, meth, c, D, Y, V, A, Q⟩ := X
  exact ⟨h.1, h.2.2.1⟩
abbrev tk_R : Type := Option Value → tk_S → Prop
def i_iret (mc ms : Nat) (ty : FieldType) (QR : tk_R) : tk_K := fun ls st S cs ss => match st with
  | [.int v] => narrow ty (.int v) = .int v ∧ cs ≤ mc ∧ ss ≤ ms ∧ QR (some (.int v)) S
  | _ => False
def i_lret (mc ms : Nat) (QR : tk_R) : tk_K := fun ls st S cs ss => match st with
  | [.long v] => cs ≤ mc ∧ ss ≤ ms ∧ QR (some (.long v)) S
  | _ => False
def i_aret (mc ms : Nat) (QR : tk_R) : tk_K := fun ls st S cs ss => match st with
  | [v] => tk_isR v ∧ cs ≤ mc ∧ ss ≤ ms ∧ QR (some v) S
  | _ => False
def i_vret (mc ms : Nat) (QR : tk_R) : tk_K := fun ls st S cs ss => match st with
  | [] => cs ≤ mc ∧ ss ≤ ms ∧ QR none S
  | _ => False
section CALLS
variable {Z : tk_Z} {X : tk_X} {cc : ByteArray} {nL : Nat} {own : String} {Ts : List Cond} {pc : Nat} {ls : List (Option Value)} {st : List Value} {S : tk_S} {cs ss : Nat} {K : tk_K} {d mc ms : Nat} {ret : Option FieldType} {QR : Option Value → tk_S → Prop} {QX : String → tk_S → Prop}
theorem s_iret {ty : FieldType} (C0 : tk_C X cc nL own Ts) (E0 : tk_End Z X d mc ms (some ty) QR QX) (hd : decode cc pc = .ok (.ireturn, 1)) (h : i_iret mc ms ty QR ls st S cs ss) : tk_W X nL pc ls st S cs ss := by
  obtain ⟨p, l, e, R, s, m, args, below, meth, c0, D, Y, V, A, Q⟩ := X
  obtain ⟨hx, hb, hml, hown, hts, hK, hA, hlk, hO⟩ := C0
  obtain ⟨hR, hr, hZ, S0, hA0, hQ⟩ := E0
  subst hQ
  intro H locs la hP hD hS hl
  unfold i_iret at h
  split at h
  · obtain ⟨hn, h1, h2, h⟩ := h
    refine W.widen h1 h2 (vx_ret (W.zret hx hb hr hn (fun t ht hW => ?_) hS.2.2 hd hlk))
    subst hA0
    exact ⟨⟨_, S, rfl, h, by rw [ht]; exact hP, va_K.moved hW.alike hK, hD⟩, hS.F ht⟩
  · exact h.elim
theorem s_lret (C0 : tk_C X cc nL own Ts) (E0 : tk_End Z X d mc ms (some .long) QR QX) (hd : decode cc pc = .ok (.lreturn, 1)) (h : i_lret mc ms QR ls st S cs ss) : tk_W X nL pc ls st S cs ss := by
  obtain ⟨p, l, e, R, s, m, args, below, meth, c0, D, Y, V, A, Q⟩ := X
  obtain ⟨hx, hb, hml, hown, hts, hK, hA, hlk, hO⟩ := C0
  obtain ⟨hR, hr, hZ, S0, hA0, hQ⟩ := E0
  subst hQ
  intro H locs la hP hD hS hl
  unfold i_lret at h
  split at h
  · obtain ⟨h1, h2, h⟩ := h
    refine W.widen h1 h2 (vx_ret (W.lret hx hb hr (fun t ht hW => ?_) hS.2.2 hd hlk))
    subst hA0
    exact ⟨⟨_, S, rfl, h, by rw [ht]; exact hP, va_K.moved hW.alike hK, hD⟩, hS.F ht⟩
  · exact h.elim
theorem s_aret {rt : FieldType} (C0 : tk_C X cc nL own Ts) (E0 : tk_End Z X d mc ms (some rt) QR QX) (hrt : refKind rt = true) (hd : decode cc pc = .ok (.areturn, 1)) (h : i_aret mc ms QR ls st S cs ss) : tk_W X nL pc ls st S cs ss := by
  obtain ⟨p, l, e, R, s, m, args, below, meth, c0, D, Y, V, A, Q⟩ := X
  obtain ⟨hx, hb, hml, hown, hts, hK, hA, hlk, hO⟩ := C0
  obtain ⟨hR, hr, hZ, S0, hA0, hQ⟩ := E0
  subst hQ
  intro H locs la hP hD hS hl
  unfold i_aret at h
  split at h
  · obtain ⟨hv, h1, h2, h⟩ := h
    refine W.widen h1 h2 (vx_ret (W.aret hx hb hr (by cases rt <;> first | exact Or.inl ⟨_, rfl⟩ | exact Or.inr ⟨_, rfl⟩ | cases hrt) hv (fun t ht hW => ?_) hS.2.2 hd hlk))
    subst hA0
    exact ⟨⟨_, S, rfl, h, by rw [ht]; exact hP, va_K.moved hW.alike hK, hD⟩, hS.F ht⟩
  · exact h.elim
theorem s_vret (C0 : tk_C X cc nL own Ts) (E0 : tk_End Z X d mc ms none QR QX) (hd : decode cc pc = .ok (.return_, 1)) (h : i_vret mc ms QR ls st S cs ss) : tk_W X nL pc ls st S cs ss := by
  obtain ⟨p, l, e, R, s, m, args, below, meth, c0, D, Y, V, A, Q⟩ := X
  obtain ⟨hx, hb, hml, hown, hts, hK, hA, hlk, hO⟩ := C0
  obtain ⟨hR, hr, hZ, S0, hA0, hQ⟩ := E0
  subst hQ
  intro H locs la hP hD hS hl
  unfold i_vret at h
  split at h
  · obtain ⟨h1, h2, h⟩ := h
    refine W.widen h1 h2 (vx_ret (W.vret hx hb hr (fun t ht hW => ?_) hS.2.2 hd hlk))
    subst hA0
    exact ⟨⟨_, S, rfl, h, by rw [ht]; exact hP, va_K.moved hW.alike hK, hD⟩, hS.F ht⟩
  · exact h.elim
/-- what a callee may change is ours -/
theorem tk_hF {Y : Nat → ClassId} {A : Nat → Prop} {H0 H : Heap} {locs : List Loc} (hD : va_D A (tk_pl Y S)) (hS : va_S A H0 H locs) (hA : ∀ q : Nat, H0.size ≤ q → A q) : ∀ q, va_A (tk_pl Y S) H.size q → A q := by
  intro q hq
  rcases hq with ⟨k, e9, h9⟩ | h9
  · exact hD.2 k (q, e9) h9
  · exact hA q (Nat.le_trans hS.1 h9)
/-- behind a call -/
theorem tk_after {p : Program} {l : Launch} {e : Env} {R : Room} {s : State} {m : MethodId} {args : Array Value} {below : List Frame} {meth : Method} {c : Code} {D : va_G} {Y : Nat → ClassId} {A : Nat → Prop} {Q : State → Prop} {mc1 ms1 : Nat} {la : Array Slot} {H : Heap} {locs : List Loc} {rest st0 : List Value} {av : Array Value} {QR1 : tk_R}
    (hr : va_Run p l e R s m args below meth c H locs cs ss mc1 ms1 (F0 m pc la st0) rest (tk_Q D Y S H.size QR1 av) (va_A (tk_pl Y S) H.size)) (hD : va_D A (tk_pl Y S)) (hS : va_S A s.heap H locs) (hA : ∀ q : Nat, s.heap.size ≤ q → A q)
    (kk : ∀ (v : Option Value) (S' : tk_S) (H1 : Heap) (locs1 : List Loc), QR1 v S' → va_P D vwCl (tk_pl Y S') H1 → va_D A (tk_pl Y S') → va_S A s.heap H1 locs1 → W p l e R s m args below meth c H1 locs1 (cs + mc1) (ss + ms1) Q (F0 m (pc + 3) la (v.toList ++ rest))) : W p l e R s m args below meth c H locs cs ss Q (F0 m pc la st0) := by
  intro T hT X0
  obtain ⟨v, st₀, t, T', L, h0, X', hL, e1, e2, ⟨⟨v', S', hv, hq, hP1, hK1, hD1⟩, hz, hk⟩, st1⟩ := hr T hT X0
  cases hv
  rw [h0] at hz hk
  have hF := tk_hF hD hS hA
  obtain ⟨t2, a1, b1⟩ := kk v S' T'.heap (locs ++ L) hq (by rw [e1]; exact hP1) (hD1.weaken (fun k q _ h => hF q.1 h))
    ⟨Nat.le_trans hS.1 (by rw [e1]; exact hz), fun q h1 h2 => by rw [e1, hk q (Nat.lt_of_lt_of_le h1 hS.1) (fun z => h2 (hF q z))]; exact hS.2.1 q h1 h2, fun q hq => by
      rcases List.mem_append.mp hq with h | h
      · exact hS.2.2 q h
      · exact hF _ (hL q h)⟩ T' rfl X'
  exact ⟨t2, st1 t2 a1, b1⟩
/-- a static call of the method y with n arguments -/
def i_callS (Z : tk_Z) (y : tk_Y) (n d mc ms : Nat) : tk_K → tk_K := fun K ls st S cs ss => n ≤ st.length ∧ ((st.drop n).map fun v => v.category).sum ≤ 8 ∧ ∃ d1 mc1 ms1, d1 < d ∧ cs + mc1 ≤ mc ∧ ss + ms1 ≤ ms ∧ tk_M Z y d1 mc1 ms1 (st.take n).reverse S (fun v S' => K ls (v.toList ++ st.drop n) S' (cs + mc1) (ss + ms1)) tk_noX
theorem tk_blind {D : va_G} {Y : Nat → ClassId} {V : tk_V} {S : tk_S} {sz : Nat} {av : List Value} : FrameBlind (tk_Pc D Y V S sz av) := fun a U g mk q => by
  obtain ⟨q0, q1, ⟨qP, qK, qD⟩, qO⟩ := q
  exact ⟨q0, q1, ⟨qP, va_K.moved (u := U) (U := U.calling g mk a) (Vm.Alike.refl U.vm) qK, qD⟩, tk_O.moved (u := U) (U := U.calling g mk a) (Vm.Alike.refl U.vm) (fun _ _ _ _ z => vk_R.same (u := U) (U := U.calling g mk a) rfl z) (fun w h z => va_Nw.same (tk_N_tab h) (u := U) (U := U.calling g mk a) rfl z) qO⟩
theorem tk_room {R : Room} {d1 d maxL mc1 ms1 mc ms : Nat} (hR : tk_rmLe R d mc ms) (h : d1 < d) (hm : maxL ≤ 20) : (tk_rm d1 mc1 ms1).frames + 1 ≤ R.frames ∧ 8 + (maxL + 11) + (tk_rm d1 mc1 ms1).locals ≤ R.locals := by
  obtain ⟨h1, h2, -, -⟩ := hR
  unfold tk_rm
  constructor
  · show d1 + 1 ≤ R.frames
    omega
  · show 8 + (maxL + 11) + 40 * d1 ≤ R.locals
    omega
theorem tk_args (st : List Value) (n : Nat) (h : n ≤ st.length) : st = (st.take n).reverse.reverse ++ st.drop n ∧ (st.take n).reverse.length = n := by
  rw [List.reverse_reverse, List.take_append_drop, List.length_reverse, List.length_take]
  exact ⟨rfl, by omega⟩
theorem s_callS {y0 y : tk_Y} {n index : Nat} (C0 : tk_C X cc nL own (tk_ws y0)) (E0 : tk_E1 Z X d mc ms) (hy : tk_code y ∈ tk_G) (hm : y.2.2.1 ≤ 20) (h1 : Cond.methodLink own index y.1 ∈ tk_G) (h2 : Cond.static y.1 ∈ tk_G) (h3 : Cond.initialized y.1.cls ∈ tk_G)
    (hn : y.1.cls ≠ "java/lang/invoke/MethodHandle" ∧ y.1.cls ≠ "java/lang/invoke/VarHandle" ∧ (parseMethodDescriptor y.1.desc).map (fun d => d.parameters.length) = some n) (hd : decode cc pc = .ok (.invokestatic index, 3))
    (h : i_callS Z y n d mc ms K ls st S cs ss) (k0 : ∀ ls st S cs ss, K ls st S cs ss → tk_W X nL (pc + 3) ls st S cs ss) : tk_W X nL pc ls st S cs ss := by
  obtain ⟨p, l, e, R, s, m, args, below, meth, c0, D, Y, V, A, Q⟩ := X
  obtain ⟨hx, hb, hml, hown, hts, hK, hA, hlk, hO⟩ := C0
  obtain ⟨hR, hZ⟩ := E0
  subst hZ
  intro H locs la hP hD hS hl
  obtain ⟨ha, hc, d1, mc1, ms1, hd1, hc1, hs1, hM⟩ := h
  obtain ⟨e1, e2⟩ := tk_args st n ha
  have cw : CallB R s args own index y.1 y.2.1 y.2.2.1 y.2.2.2 (tk_ws y) (tk_rm d1 mc1 ms1) mc1 ms1 n := callB_of n hts (tk_good y0 y hy) rfl rfl rfl (hts _ (List.mem_cons_of_mem _ h3)) (hts _ (List.mem_cons_of_mem _ h1)) hn (tk_room hR hd1 hm)
  refine tk_after (va_runS (As := (st.take n).reverse) (rest := st.drop n) ⟨hx, hb, hml, hown, hts⟩ (hM.met H.size) ⟨cw, hts _ (List.mem_cons_of_mem _ h2)⟩ ⟨tk_blind, fun U hU hW => ⟨rfl, by rw [hU], ⟨by rw [hU]; exact hP, va_K.moved hW.alike hK, hD.weaken (fun _ _ _ _ => trivial)⟩, hO.call hS (tk_hF hD hS hA) hU hW⟩⟩ rfl e2 hl.1 e1 (lv_room hc) hd ⟨Nat.le_trans hc1 hR.2.2.1, Nat.le_trans hs1 hR.2.2.2⟩) hD hS hA (fun v S' H1 locs1 hq hP1 hD1 hS1 => ?_)
  exact k0 _ _ _ _ _ hq H1 locs1 la hP1 hD1 hS1 hl
/-- a call on a receiver of class c -/
def i_callV (Z : tk_Z) (y : tk_Y) (c n d mc ms : Nat) : tk_K → tk_K := fun K ls st S cs ss => n ≤ st.length ∧ (match st.drop n with
  | .ref b :: r => b ∈ q_L S ∧ q_K S b = c ∧ (r.map fun v => v.category).sum ≤ 8 ∧ ∃ d1 mc1 ms1, d1 < d ∧ cs + mc1 ≤ mc ∧ ss + ms1 ≤ ms ∧ tk_M Z y d1 mc1 ms1 (.ref b :: (st.take n).reverse) S (fun v S' => K ls (v.toList ++ r) S' (cs + mc1) (ss + ms1)) tk_noX
  | _ => False)
theorem s_callV {y0 y : tk_Y} {C : String} {T : u_T} {N c n index : Nat} (C0 : tk_C X cc nL own (tk_ws y0)) (E0 : tk_E1 Z X d mc ms) (hy : tk_code y ∈ tk_G) (hm : y.2.2.1 ≤ 20) (hcl : vwCl[c]? = some (C, T, N)) (hc14 : c < 14) (h1 : Cond.methodLink own index y.1 ∈ tk_G) (h2 : Cond.instanceMethod y.1 ∈ tk_G) (h3 : Cond.initialized y.1.cls ∈ tk_G) (h4 : Cond.selects C y.1 y.1 ∈ tk_G)
    (hn : y.1.cls ≠ "java/lang/invoke/MethodHandle" ∧ y.1.cls ≠ "java/lang/invoke/VarHandle" ∧ (parseMethodDescriptor y.1.desc).map (fun d => d.parameters.length) = some n) (hd : decode cc pc = .ok (.invokevirtual index, 3))
    (h : i_callV Z y c n d mc ms K ls st S cs ss) (k0 : ∀ ls st S cs ss, K ls st S cs ss → tk_W X nL (pc + 3) ls st S cs ss) : tk_W X nL pc ls st S cs ss := by
  obtain ⟨p, l, e, R, s, m, args, below, meth, c0, D, Y, V, A, Q⟩ := X
  obtain ⟨hx, hb, hml, hown, hts, hK, hA, hlk, hO⟩ := C0
  obtain ⟨hR, hZ⟩ := E0
  subst hZ
  intro H locs la hP hD hS hl
  obtain ⟨ha, h⟩ := h
  obtain ⟨e1, e2⟩ := tk_args st n ha
  split at h
  · rename_i b r hbr
    rw [hbr] at e1
    obtain ⟨hbL, hbK, hc, d1, mc1, ms1, hd1, hc1, hs1, hM⟩ := h
    obtain ⟨i, hi⟩ := tk_get (Y := Y) hbL
    rw [tk_ent_o hbK hc14] at hi
    have cb : CallB R s args own index y.1 y.2.1 y.2.2.1 y.2.2.2 (tk_ws y) (tk_rm d1 mc1 ms1) mc1 ms1 n := callB_of n hts (tk_good y0 y hy) rfl rfl rfl (hts _ (List.mem_cons_of_mem _ h3)) (hts _ (List.mem_cons_of_mem _ h1)) hn (tk_room hR hd1 hm)
    refine tk_after (va_runV (As := (st.take n).reverse) (rest := r) ⟨hx, hb, hml, hown, hts⟩ (hM.met H.size) ⟨cb, hts _ (List.mem_cons_of_mem _ h2), hts _ (List.mem_cons_of_mem _ h4)⟩ ⟨tk_blind, va_recv hK hP hcl hi, fun U hU hW => ⟨rfl, by rw [hU], ⟨by rw [hU]; exact hP, va_K.moved hW.alike hK, hD.weaken (fun _ _ _ _ => trivial)⟩, hO.call hS (tk_hF hD hS hA) hU hW⟩⟩ rfl e2 hl.1 e1 (lv_room hc) hd ⟨Nat.le_trans hc1 hR.2.2.1, Nat.le_trans hs1 hR.2.2.2⟩) hD hS hA (fun v S' H1 locs1 hq hP1 hD1 hS1 => ?_)
    exact k0 _ _ _ _ _ hq H1 locs1 la hP1 hD1 hS1 hl
  · exact h.elim
/-- a constructor's call -/
def i_callI (Z : tk_Z) (y : tk_Y) (n d mc ms : Nat) : tk_K → tk_K := fun K ls st S cs ss => n ≤ st.length ∧ (match st.drop n with
  | .ref b :: r => (r.map fun v => v.category).sum ≤ 8 ∧ ∃ d1 mc1 ms1, d1 < d ∧ cs + mc1 ≤ mc ∧ ss + ms1 ≤ ms ∧ tk_M Z y d1 mc1 ms1 (.ref b :: (st.take n).reverse) S (fun v S' => K ls (v.toList ++ r) S' (cs + mc1) (ss + ms1)) tk_noX
  | _ => False)
theorem s_callI {y0 y : tk_Y} {n index : Nat} (C0 : tk_C X cc nL own (tk_ws y0)) (E0 : tk_E1 Z X d mc ms) (hy : tk_code y ∈ tk_G) (hm : y.2.2.1 ≤ 20) (hyr : y.2.2.2 = none) (hyn : y.1.name = "<init>") (h1 : Cond.methodLink own index y.1 ∈ tk_G) (h2 : Cond.instanceMethod y.1 ∈ tk_G) (h3 : Cond.initialized y.1.cls ∈ tk_G)
    (hn : y.1.cls ≠ "java/lang/invoke/MethodHandle" ∧ y.1.cls ≠ "java/lang/invoke/VarHandle" ∧ (parseMethodDescriptor y.1.desc).map (fun d => d.parameters.length) = some n) (hd : decode cc pc = .ok (.invokespecial index, 3))
    (h : i_callI Z y n d mc ms K ls st S cs ss) (k0 : ∀ ls st S cs ss, K ls st S cs ss → tk_W X nL (pc + 3) ls st S cs ss) : tk_W X nL pc ls st S cs ss := by
  obtain ⟨p, l, e, R, s, m, args, below, meth, c0, D, Y, V, A, Q⟩ := X
  obtain ⟨hx, hb, hml, hown, hts, hK, hA, hlk, hO⟩ := C0
  obtain ⟨hR, hZ⟩ := E0
  subst hZ
  intro H locs la hP hD hS hl
  obtain ⟨ha, h⟩ := h
  obtain ⟨e1, e2⟩ := tk_args st n ha
  split at h
  · rename_i b r hbr
    rw [hbr] at e1
    obtain ⟨hc, d1, mc1, ms1, hd1, hc1, hs1, hM⟩ := h
    have cb : CallB R s args own index y.1 y.2.1 y.2.2.1 none (tk_ws y) (tk_rm d1 mc1 ms1) mc1 ms1 n := callB_of n hts (tk_good y0 y hy) (by unfold tk_ws tk_code; rw [hyr]) rfl rfl (hts _ (List.mem_cons_of_mem _ h3)) (hts _ (List.mem_cons_of_mem _ h1)) hn (tk_room hR hd1 hm)
    refine tk_after (va_runI (As := (st.take n).reverse) (rest := r) ⟨hx, hb, hml, hown, hts⟩ (hM.met H.size) ⟨cb, hyn, hts _ (List.mem_cons_of_mem _ h2)⟩ ⟨tk_blind, fun U hU hW => ⟨rfl, by rw [hU], ⟨by rw [hU]; exact hP, va_K.moved hW.alike hK, hD.weaken (fun _ _ _ _ => trivial)⟩, hO.call hS (tk_hF hD hS hA) hU hW⟩⟩ rfl e2 hl.1 e1 (lv_room hc) hd ⟨Nat.le_trans hc1 hR.2.2.1, Nat.le_trans hs1 hR.2.2.2⟩) hD hS hA (fun v S' H1 locs1 hq hP1 hD1 hS1 => ?_)
    exact k0 _ _ _ _ _ hq H1 locs1 la hP1 hD1 hS1 hl
  · exact h.elim
/-- Object's own constructor -/
def i_oinit (d : Nat) : tk_K → tk_K := fun K ls st S cs ss => match st with
  | .ref _ :: r => 1 ≤ d ∧ (r.map fun v => v.category).sum ≤ 8 ∧ K ls r S cs ss
  | _ => False
theorem s_oinit {index : Nat} (C0 : tk_C X cc nL own Ts) (E0 : tk_End Z X d mc ms ret QR QX) (h1 : Cond.methodLink own index objectInit ∈ Ts) (h2 : Cond.instanceMethod objectInit ∈ Ts) (h3 : Cond.code objectInit ⟨#[0xb1]⟩ 1 none ∈ Ts) (hd : decode cc pc = .ok (.invokespecial index, 3))
    (h : i_oinit d K ls st S cs ss) (k0 : ∀ ls st S cs ss, K ls st S cs ss → tk_W X nL (pc + 3) ls st S cs ss) : tk_W X nL pc ls st S cs ss := by
  obtain ⟨p, l, e, R, s, m, args, below, meth, c0, D, Y, V, A, Q⟩ := X
  obtain ⟨hx, hb, hml, hown, hts, hK, hA, hlk, hO⟩ := C0
  obtain ⟨hR, -, hZ, -⟩ := E0
  intro H locs la hP hD hS hl
  unfold i_oinit at h
  split at h
  · rename_i a r
    obtain ⟨hd1, hc, h⟩ := h
    have hlo : 40 * d ≤ R.locals := hR.2.1
    refine W.objInit hx hb hown (hts _ h1) (hts _ h2) (hts _ h3) rfl (by rw [hml]; exact hl.1) rfl hd (Nat.le_trans hd1 hR.1) ?_ ?_
    · have h8 := lv_room (m := m) (pc := pc) (ls := la) (rest := .ref a :: r) hc
      omega
    · exact k0 _ _ _ _ _ h H locs la hP hD hS hl
  · exact h.elim
/-- FROM A BODY TO THE CONTRACT -/
def tk_ls (av : List Value) (nL : Nat) : List (Option Value) := (av.flatMap fun v => if v.category = 2 then [some v, none] else [some v]) ++ List.replicate (nL - (lg_sl av).length) none
theorem tk_ls_at (av : List Value) : (av.flatMap fun v => if v.category = 2 then [some v, none] else [some v]).length = (lg_sl av).length ∧ ∀ (i : Nat) (w : Value), (av.flatMap fun v => if v.category = 2 then [some v, none] else [some v])[i]? = some (some w) → (lg_sl av)[i]? = some (.val w) := by
  induction av with
  | nil => exact ⟨rfl, fun i w h => by simp at h⟩
  | cons v vs ih =>
    unfold lg_sl at ih ⊢
    simp only [List.flatMap_cons]
    by_cases hc : v.category = 2
    · simp only [hc, if_true]
      refine ⟨by simp only [List.length_append]; rw [ih.1]; rfl, fun i w h => ?_⟩
      match i, h with
      | 0, h => simpa using h
      | 1, h => simp at h
      | i + 2, h => exact ih.2 i w (by simpa using h)
    · simp only [hc, if_false]
      refine ⟨by simp only [List.length_append]; rw [ih.1]; rfl, fun i w h => ?_⟩
      match i, h with
      | 0, h => simpa using h
      | i + 1, h => exact ih.2 i w (by simpa using h)
theorem tk_HL_entry {av : List Value} {nL : Nat} (h : (lg_sl av).length ≤ nL) : tk_HL ((lg_sl av ++ List.replicate (nL - (lg_sl av).length) Slot.unset).toArray) nL (tk_ls av nL) := by
  have h1 := lv_entry av h
  obtain ⟨e1, e2⟩ := tk_ls_at av
  refine ⟨h1.1, h1.2.1, ?_, fun i v hi => ?_⟩
  · unfold tk_ls
    rw [List.length_append, e1, List.length_replicate]
    omega
  · unfold tk_ls at hi
    rw [List.getElem?_toArray]
    by_cases hlt : i < (lg_sl av).length
    · rw [List.getElem?_append_left (by omega)] at hi
      rw [List.getElem?_append_left hlt]
      exact e2 i v hi
    · rw [List.getElem?_append_right (by omega)] at hi
      have := List.eq_of_mem_replicate (List.mem_of_getElem? hi)
      cases this
/-- no handlers -/
def tk_noT (X : tk_X) : Prop := match X with
  | (_, _, _, _, _, _, _, _, _, c, _, _, _, _, _) => ∀ x ∈ c.exceptionTable.toList, False
theorem tk_ofE {Z : tk_Z} {y : tk_Y} {d mc ms : Nat} {av : List Value} {S : tk_S} {QR : tk_R} {QX : String → tk_S → Prop} (hy : plainName y.1.cls = true) (hav : (lg_sl av).length ≤ y.2.2.1)
    (body : ∀ X : tk_X, tk_C X y.2.1 y.2.2.1 y.1.cls (tk_ws y) → tk_End Z X d mc ms y.2.2.2 QR QX → (y.1.name = "<init>" → tk_ini X) → tk_noT X → tk_W X y.2.2.1 0 (tk_ls av y.2.2.1) [] S 0 0) : tk_M Z y d mc ms av S QR QX := by
  intro sz
  refine vx_ofW (cc := y.2.1) (maxL := y.2.2.1) (ret := y.2.2.2) hy rfl ?_
  intro p e s m args below meth c s₁ B hml hnt hv
  obtain ⟨rfl, hsz, ⟨hP, hK, hD0⟩, hO⟩ := hv
  subst hsz
  have hts := atoms_spec (ws := tk_ws y) B.pre
  have hown : s.vm.findClass y.1.cls = some m.cls := findClass_of_methodNamed B.named
  have hD := hD0.self (sz := s.heap.size)
  have hb := body (p, Z.1, e, tk_rm d mc ms, s, m, av.toArray, below, meth, c, Z.2.1, Z.2.2.1, Z.2.2.2, va_A (tk_pl Z.2.2.1 S) s.heap.size, vx_MQ below (tk_Q Z.2.1 Z.2.2.1 S s.heap.size QR) (tk_XC Z.2.1 Z.2.2.1 S s.heap.size QX) av.toArray s mc ms (va_A (tk_pl Z.2.2.1 S) s.heap.size))
    ⟨B.exec, B.bytes, hml, hown, hts, hK, fun q h => Or.inr h, B.notSynchronized, hO⟩ ⟨tk_rm_le d mc ms, B.returns, rfl, S, rfl, rfl⟩ (fun hi => (name_of_methodNamed B.named B.method).1.trans hi) hnt
  rw [lg_entry_eq]
  exact hb s.heap [] _ hP hD va_S.rf (tk_HL_entry hav)
end CALLS

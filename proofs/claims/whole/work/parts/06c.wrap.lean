/-! METHODS WITH HANDLERS: the law's own, round a call that may throw -/
def tk_codeW (y : tk_Y) (hh : List (Nat × Nat × Nat × Nat)) : Cond := .codeWith y.1 y.2.1 y.2.2.1 y.2.2.2 hh
def tk_wsW (y : tk_Y) (hh : List (Nat × Nat × Nat × Nat)) : List Cond := tk_codeW y hh :: tk_G
def tk_MW (Z : tk_Z) (y : tk_Y) (hh : List (Nat × Nat × Nat × Nat)) (d mc ms : Nat) (av : List Value) (S : tk_S) (QR : tk_R) : Prop :=
  ∀ sz, Met Z.1 y.1 (tk_wsW y hh) (tk_rm d mc ms) (tk_Pc Z.2.1 Z.2.2.1 Z.2.2.2 S sz av) (tk_Q Z.2.1 Z.2.2.1 S sz QR) mc ms (va_A (tk_pl Z.2.2.1 S) sz)
def tk_tab (X : tk_X) (hh : List (Nat × Nat × Nat × Nat)) : Prop := match X with
  | (_, _, _, _, _, _, _, _, _, c, _, _, _, _, _) => c.exceptionTable.toList = tableOf hh
theorem tk_ofEW {Z : tk_Z} {y : tk_Y} {hh : List (Nat × Nat × Nat × Nat)} {d mc ms : Nat} {av : List Value} {S : tk_S} {QR : tk_R} (hy : plainName y.1.cls = true) (hav : (lg_sl av).length ≤ y.2.2.1)
    (body : ∀ X : tk_X, tk_C X y.2.1 y.2.2.1 y.1.cls (tk_wsW y hh) → tk_End Z X d mc ms y.2.2.2 QR tk_noX → tk_tab X hh → tk_W X y.2.2.1 0 (tk_ls av y.2.2.1) [] S 0 0) : tk_MW Z y hh d mc ms av S QR := by
  intro sz
  have hm : vx_Met Z.1 y.1 (tk_wsW y hh) (tk_rm d mc ms) (tk_Pc Z.2.1 Z.2.2.1 Z.2.2.2 S sz av) (tk_Q Z.2.1 Z.2.2.1 S sz QR) (tk_XC Z.2.1 Z.2.2.1 S sz tk_noX) mc ms (va_A (tk_pl Z.2.2.1 S) sz) := by
    refine vx_ofWH (cc := y.2.1) (maxL := y.2.2.1) (ret := y.2.2.2) (hh := hh) hy rfl ?_
    intro p e s m args below meth c s₁ B hml hv
    obtain ⟨rfl, hsz, ⟨hP, hK, hD0⟩, hO⟩ := hv
    subst hsz
    have hts := atoms_spec (ws := tk_wsW y hh) B.pre
    have hown : s.vm.findClass y.1.cls = some m.cls := findClass_of_methodNamed B.named
    have hD := hD0.self (sz := s.heap.size)
    have hb := body (p, Z.1, e, tk_rm d mc ms, s, m, av.toArray, below, meth, c, Z.2.1, Z.2.2.1, Z.2.2.2, va_A (tk_pl Z.2.2.1 S) s.heap.size, vx_MQ below (tk_Q Z.2.1 Z.2.2.1 S s.heap.size QR) (tk_XC Z.2.1 Z.2.2.1 S s.heap.size tk_noX) av.toArray s mc ms (va_A (tk_pl Z.2.2.1 S) s.heap.size))
      ⟨B.exec, B.bytes, hml, hown, hts, hK, fun q h => Or.inr h, B.notSynchronized, hO⟩ ⟨tk_rm_le d mc ms, B.returns, rfl, S, rfl, rfl⟩ (vx_table (x := y.1) B (hts _ List.mem_cons_self))
    rw [lg_entry_eq]
    exact hb s.heap [] _ hP hD va_S.rf (tk_HL_entry hav)
  refine MetFree.mono hm (fun _ _ h => h) (fun _ _ _ _ _ h => h) (fun a s o s' _ hq => ?_)
  rcases hq with hq | ⟨q, -, E, ce, L, ⟨⟨S', hS', -⟩, -⟩, -⟩
  · exact hq
  · exact hS'.elim
/-- a call that returns or throws to one of the handlers hs -/
def i_callX (Z : tk_Z) (y : tk_Y) (c n d mc ms : Nat) (hs : List (String × tk_K)) : tk_K → tk_K := fun K ls st S cs ss => n ≤ st.length ∧ (match st.drop n with
  | .ref b :: r => b ∈ q_L S ∧ q_K S b = c ∧ (r.map fun v => v.category).sum ≤ 8 ∧ ∃ d1 mc1 ms1, d1 < d ∧ cs + mc1 ≤ mc ∧ ss + ms1 ≤ ms ∧ tk_M Z y d1 mc1 ms1 (.ref b :: (st.take n).reverse) S (fun v S' => K ls (v.toList ++ r) S' (cs + mc1) (ss + ms1)) (fun E S' => ∃ K', (E, K') ∈ hs ∧ ∀ q : Nat, K' ls [.ref q] S' (cs + mc1) (ss + ms1))
  | _ => False)
section WRAP
variable {Z : tk_Z} {X : tk_X} {cc : ByteArray} {nL : Nat} {own : String} {Ts : List Cond} {pc : Nat} {ls : List (Option Value)} {st : List Value} {S : tk_S} {cs ss : Nat} {K : tk_K} {d mc ms : Nat} {ret : Option FieldType} {QR : Option Value → tk_S → Prop} {QX : String → tk_S → Prop}
theorem tk_afterX {p : Program} {l : Launch} {e : Env} {R : Room} {s : State} {m : MethodId} {args : Array Value} {below : List Frame} {meth : Method} {c : Code} {D : va_G} {Y : Nat → ClassId} {A : Nat → Prop} {Q : State → Prop} {mc1 ms1 : Nat} {la : Array Slot} {H : Heap} {locs : List Loc} {rest st0 : List Value} {av : Array Value} {QR1 : tk_R} {QX1 : String → tk_S → Prop}
    (hr : vx_Run p l e R s m args below meth c H locs cs ss mc1 ms1 (F0 m pc la st0) rest (tk_Q D Y S H.size QR1 av) (tk_XC D Y S H.size QX1) (va_A (tk_pl Y S) H.size)) (hD : va_D A (tk_pl Y S)) (hS : va_S A s.heap H locs) (hA : ∀ q : Nat, s.heap.size ≤ q → A q)
    (kk : ∀ (v : Option Value) (S' : tk_S) (H1 : Heap) (locs1 : List Loc), QR1 v S' → va_P D vwCl (tk_pl Y S') H1 → va_D A (tk_pl Y S') → va_S A s.heap H1 locs1 → W p l e R s m args below meth c H1 locs1 (cs + mc1) (ss + ms1) Q (F0 m (pc + 3) la (v.toList ++ rest)))
    (kx : ∀ (E : String) (ce : Cell) (q : Nat) (S' : tk_S) (H1 : Heap) (locs1 : List Loc), QX1 E S' → va_P D vwCl (tk_pl Y S') H1 → va_D A (tk_pl Y S') → va_S A s.heap H1 locs1 → H1[q]? = some ce → ce.vm = .none → s.vm.findClass E = some ce.cls → vx_W p l e R s m args below meth c H1 locs1 (cs + mc1) (ss + ms1) Q (F0 m pc la rest) q) : W p l e R s m args below meth c H locs cs ss Q (F0 m pc la st0) := by
  intro T hT X0
  have hF := tk_hF hD hS hA
  rcases hr T hT X0 with ⟨v, st₀, t, T', L, h0, X', hL, e1, e2, ⟨⟨v', S', hv, hq, hP1, hK1, hD1⟩, hz, hk⟩, st1⟩ | ⟨q, st₀, t, T', L, E, ce, h0, X', hL, e1, e2, ⟨⟨S', hq, hP1, hK1, hD1⟩, hz, hk⟩, hce, hcv, hcl, st1⟩
  · cases hv
    rw [h0] at hz hk
    obtain ⟨t2, a1, b1⟩ := kk v S' T'.heap (locs ++ L) hq (by rw [e1]; exact hP1) (hD1.weaken (fun k q _ h => hF q.1 h))
      ⟨Nat.le_trans hS.1 (by rw [e1]; exact hz), fun q h1 h2 => by rw [e1, hk q (Nat.lt_of_lt_of_le h1 hS.1) (fun z => h2 (hF q z))]; exact hS.2.1 q h1 h2, fun q hq => by
        rcases List.mem_append.mp hq with h | h
        · exact hS.2.2 q h
        · exact hF _ (hL q h)⟩ T' rfl X'
    exact ⟨t2, st1 t2 a1, b1⟩
  · rw [h0] at hz hk
    obtain ⟨t2, a1, b1⟩ := kx E ce q S' T'.heap (locs ++ L) hq (by rw [e1]; exact hP1) (hD1.weaken (fun k q _ h => hF q.1 h))
      ⟨Nat.le_trans hS.1 (by rw [e1]; exact hz), fun q h1 h2 => by rw [e1, hk q (Nat.lt_of_lt_of_le h1 hS.1) (fun z => h2 (hF q z))]; exact hS.2.1 q h1 h2, fun q hq => by
        rcases List.mem_append.mp hq with h | h
        · exact hS.2.2 q h
        · exact hF _ (hL q h)⟩ (by rw [e1]; exact hce) hcv hcl T' rfl X'
    exact ⟨t2, st1.trans a1, b1⟩
/-- where the handlers of hs stand in the table -/
def tk_hnd (X : tk_X) (nL : Nat) (own : String) (hh : List (Nat × Nat × Nat × Nat)) (pc : Nat) (hs : List (String × tk_K)) : Prop :=
  ∀ E K', (E, K') ∈ hs → ∃ pre x suf, tableOf hh = pre ++ x :: suf ∧ (∀ z ∈ pre, covers z pc = false ∨ (z.catchType ≠ 0 ∧ ∃ nm : String, Cond.classLink own z.catchType nm ∈ tk_G ∧ (E, nm) ∈ tk_ncs)) ∧ covers x pc = true ∧ x.catchType ≠ 0 ∧ Cond.classLink own x.catchType E ∈ tk_G ∧ Cond.castable E E ∈ tk_N ∧
    ∀ ls st S cs ss, K' ls st S cs ss → tk_W X nL x.handlerPc ls st S cs ss
theorem s_callX {y0 y : tk_Y} {hh : List (Nat × Nat × Nat × Nat)} {hs : List (String × tk_K)} {C : String} {T : u_T} {N c n index : Nat} (C0 : tk_C X cc nL own (tk_wsW y0 hh)) (E0 : tk_End Z X d mc ms ret QR QX) (ht : tk_tab X hh) (hy : tk_code y ∈ tk_G) (hm : y.2.2.1 ≤ 20) (hcl : vwCl[c]? = some (C, T, N)) (hc14 : c < 14) (h1 : Cond.methodLink own index y.1 ∈ tk_G) (h2 : Cond.instanceMethod y.1 ∈ tk_G) (h3 : Cond.initialized y.1.cls ∈ tk_G) (h4 : Cond.selects C y.1 y.1 ∈ tk_G)
    (hn : y.1.cls ≠ "java/lang/invoke/MethodHandle" ∧ y.1.cls ≠ "java/lang/invoke/VarHandle" ∧ (parseMethodDescriptor y.1.desc).map (fun d => d.parameters.length) = some n) (hd : decode cc pc = .ok (.invokevirtual index, 3))
    (h : i_callX Z y c n d mc ms hs K ls st S cs ss) (hH : tk_hnd X nL own hh pc hs) (k0 : ∀ ls st S cs ss, K ls st S cs ss → tk_W X nL (pc + 3) ls st S cs ss) : tk_W X nL pc ls st S cs ss := by
  obtain ⟨p, l, e, R, s, m, args, below, meth, c0, D, Y, V, A, Q⟩ := X
  obtain ⟨hx, hb, hml, hown, hts, hK, hA, hlk, hO⟩ := C0
  obtain ⟨hR, -, hZ, -⟩ := E0
  subst hZ
  intro H locs la hP hD hS hl
  obtain ⟨ha, h⟩ := h
  obtain ⟨e1, e2⟩ := tk_args st n ha
  have hgood : GoodIn (tk_wsW y0 hh) (tk_ws y) := fun w hw => by
    have hw2 : w ∈ tk_G := by
      rcases List.mem_cons.mp hw with rfl | h2
      · exact hy
      · exact h2
    exact ⟨List.mem_cons_of_mem _ hw2, good_of_word (List.mem_filter.mp hw2).2⟩
  split at h
  · rename_i b r hbr
    rw [hbr] at e1
    obtain ⟨hbL, hbK, hc, d1, mc1, ms1, hd1, hc1, hs1, hM⟩ := h
    obtain ⟨i, hi⟩ := tk_get (Y := Y) hbL
    rw [tk_ent_o hbK hc14] at hi
    have cb : CallB R s args own index y.1 y.2.1 y.2.2.1 y.2.2.2 (tk_ws y) (tk_rm d1 mc1 ms1) mc1 ms1 n := callB_of n hts hgood rfl rfl rfl (hts _ (List.mem_cons_of_mem _ h3)) (hts _ (List.mem_cons_of_mem _ h1)) hn (tk_room hR hd1 hm)
    refine tk_afterX (vx_runV (As := (st.take n).reverse) (rest := r) ⟨hx, hb, hml, hown, hts⟩ (hM H.size) ⟨cb, hts _ (List.mem_cons_of_mem _ h2), hts _ (List.mem_cons_of_mem _ h4)⟩ ⟨tk_blind, va_recv hK hP hcl hi, fun U hU hW => ⟨rfl, by rw [hU], ⟨by rw [hU]; exact hP, va_K.moved hW.alike hK, hD.weaken (fun _ _ _ _ => trivial)⟩, hO.call hS (tk_hF hD hS hA) hU hW⟩⟩ rfl e2 hl.1 e1 (lv_room hc) hd ⟨Nat.le_trans hc1 hR.2.2.1, Nat.le_trans hs1 hR.2.2.2⟩) hD hS hA (fun v S' H1 locs1 hq hP1 hD1 hS1 => ?_) (fun E ce q S' H1 locs1 hq hP1 hD1 hS1 hce hcv hcl9 => ?_)
    · exact k0 _ _ _ _ _ hq H1 locs1 la hP1 hD1 hS1 hl
    · obtain ⟨K', hK', hq⟩ := hq
      obtain ⟨pre, x, suf, g1, g2, g3, g4, g5, g6, g7⟩ := hH E K' hK'
      have ht' : c0.exceptionTable.toList = tableOf hh := ht
      refine vx_catch (name := E) hown pre x suf (ht'.trans g1) (fun z hz => ?_) g3 g4 (hts _ (List.mem_cons_of_mem _ g5)) (va_Nw.use rfl (hO.2.2.2.2.2.2 _ g6)) hce hcv hcl9 (g7 _ _ _ _ _ (hq q) H1 locs1 la hP1 hD1 hS1 hl)
      rcases g2 z hz with g | ⟨g, nm, g8, g9⟩
      · exact Or.inl g
      · exact Or.inr ⟨g, nm, hts _ (List.mem_cons_of_mem _ g8), hO.2.2.2.2.1.2.2.2.2.2.2 _ g9⟩
  · exact h.elim
/-- a static call of a method with handlers -/
def i_callW (Z : tk_Z) (y : tk_Y) (hh : List (Nat × Nat × Nat × Nat)) (n d mc ms : Nat) : tk_K → tk_K := fun K ls st S cs ss => n ≤ st.length ∧ ((st.drop n).map fun v => v.category).sum ≤ 8 ∧ ∃ d1 mc1 ms1, d1 < d ∧ cs + mc1 ≤ mc ∧ ss + ms1 ≤ ms ∧ tk_MW Z y hh d1 mc1 ms1 (st.take n).reverse S (fun v S' => K ls (v.toList ++ st.drop n) S' (cs + mc1) (ss + ms1))
theorem s_callW {y : tk_Y} {hh : List (Nat × Nat × Nat × Nat)} {n index : Nat} (C0 : tk_C X cc nL own Ts) (hTs : ∀ w ∈ tk_G, w ∈ Ts) (E0 : tk_E1 Z X d mc ms) (hy : tk_codeW y hh ∈ tk_G) (hm : y.2.2.1 ≤ 20) (h1 : Cond.methodLink own index y.1 ∈ tk_G) (h2 : Cond.static y.1 ∈ tk_G) (h3 : Cond.initialized y.1.cls ∈ tk_G)
    (hn : y.1.cls ≠ "java/lang/invoke/MethodHandle" ∧ y.1.cls ≠ "java/lang/invoke/VarHandle" ∧ (parseMethodDescriptor y.1.desc).map (fun d => d.parameters.length) = some n) (hd : decode cc pc = .ok (.invokestatic index, 3))
    (h : i_callW Z y hh n d mc ms K ls st S cs ss) (k0 : ∀ ls st S cs ss, K ls st S cs ss → tk_W X nL (pc + 3) ls st S cs ss) : tk_W X nL pc ls st S cs ss := by
  obtain ⟨p, l, e, R, s, m, args, below, meth, c0, D, Y, V, A, Q⟩ := X
  obtain ⟨hx, hb, hml, hown, hts, hK, hA, hlk, hO⟩ := C0
  obtain ⟨hR, hZ⟩ := E0
  subst hZ
  intro H locs la hP hD hS hl
  obtain ⟨ha, hc, d1, mc1, ms1, hd1, hc1, hs1, hM⟩ := h
  obtain ⟨e1, e2⟩ := tk_args st n ha
  have hall : ∀ w ∈ tk_wsW y hh, w ∈ tk_G := fun w hw => by
    rcases List.mem_cons.mp hw with rfl | h2
    · exact hy
    · exact h2
  have hgood : GoodIn Ts (tk_wsW y hh) := fun w hw => ⟨hTs _ (hall w hw), good_of_word (List.mem_filter.mp (hall w hw)).2⟩
  have hr := tk_room (maxL := y.2.2.1) (mc1 := mc1) (ms1 := ms1) hR hd1 hm
  have cw : vx_CSW R s args own index y.1 y.2.1 y.2.2.1 y.2.2.2 hh (tk_wsW y hh) (tk_rm d1 mc1 ms1) mc1 ms1 n := by
    refine ⟨⟨rfl, rfl, hr.1, hr.2, pay_in hts hgood, List.mem_cons_self⟩, hts _ (hTs _ hy), hts _ (hTs _ h3), ⟨hn.1, hn.2.1⟩, fun sig h => ?_, hts _ (hTs _ h1), hts _ (hTs _ h2)⟩
    have h9 := hn.2.2
    rw [h] at h9
    exact (Option.some.inj h9).symm
  refine tk_after (vx_runSW (As := (st.take n).reverse) (rest := st.drop n) ⟨hx, hb, hml, hown, hts⟩ (hM H.size) cw ⟨tk_blind, fun U hU hW => ⟨rfl, by rw [hU], ⟨by rw [hU]; exact hP, va_K.moved hW.alike hK, hD.weaken (fun _ _ _ _ => trivial)⟩, hO.call hS (tk_hF hD hS hA) hU hW⟩⟩ rfl e2 hl.1 e1 (lv_room hc) hd ⟨Nat.le_trans hc1 hR.2.2.1, Nat.le_trans hs1 hR.2.2.2⟩) hD hS hA (fun v S' H1 locs1 hq hP1 hD1 hS1 => ?_)
  exact k0 _ _ _ _ _ hq H1 locs1 la hP1 hD1 hS1 hl
end WRAP

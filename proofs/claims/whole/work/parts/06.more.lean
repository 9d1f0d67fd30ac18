/-! MORE INSTRUCTIONS: Math, casts, switches, String constants, throws -/
theorem tk_u1 {y : tk_Y} {w : Cond} (h : w ∈ tk_G) : w ∈ tk_ws y := List.mem_cons_of_mem _ h
theorem tk_uL {y : tk_Y} {C : String} {T : u_T} {N : Nat} (h : ∀ w ∈ u_ws C T N, w ∈ tk_G) : ∀ w ∈ u_ws C T N, w ∈ tk_ws y := fun w hw => List.mem_cons_of_mem _ (h w hw)
theorem tk_inL (ws : List Cond) (ps : List Nat) (hp : ws = ps.filterMap (fun i => lw_tbl[i]?)) (hg : ws.all goodWord = true) : ∀ w ∈ ws, w ∈ tk_G := by
  intro w hw
  have h1 := List.all_eq_true.mp hg w hw
  rw [hp] at hw
  obtain ⟨i, -, hi⟩ := List.mem_filterMap.mp hw
  exact tk_inG i hi h1
def i_mmin (d mc ms : Nat) : tk_K → tk_K := fun K ls st S cs ss => 1 ≤ d ∧ cs ≤ mc ∧ ss ≤ ms ∧ match st with
  | .int y :: .int x :: r => (r.map fun v => v.category).sum ≤ 8 ∧ K ls (.int (if y < x then y else x) :: r) S cs ss
  | _ => False
def i_mmax (d mc ms : Nat) : tk_K → tk_K := fun K ls st S cs ss => 1 ≤ d ∧ cs ≤ mc ∧ ss ≤ ms ∧ match st with
  | .int y :: .int x :: r => (r.map fun v => v.category).sum ≤ 8 ∧ K ls (.int (if x < y then y else x) :: r) S cs ss
  | _ => False
def i_lmin (d mc ms : Nat) : tk_K → tk_K := fun K ls st S cs ss => 1 ≤ d ∧ cs ≤ mc ∧ ss ≤ ms ∧ match st with
  | .long y :: .long x :: r => (r.map fun v => v.category).sum ≤ 8 ∧ K ls (.long (if y < x then y else x) :: r) S cs ss
  | _ => False
section MORE
variable {Z : tk_Z} {X : tk_X} {cc : ByteArray} {nL : Nat} {own : String} {Ts : List Cond} {pc : Nat} {ls : List (Option Value)} {st : List Value} {S : tk_S} {cs ss : Nat} {K : tk_K} {d mc ms : Nat} {ret : Option FieldType} {QR : Option Value → tk_S → Prop} {QX : String → tk_S → Prop}
/-- what a state's counts keep to -/
theorem tk_W_room (C0 : tk_C X cc nL own Ts) (E0 : tk_End Z X d mc ms ret QR QX) (h : cs ≤ mc ∧ ss ≤ ms → tk_W X nL pc ls st S cs ss) (h1 : cs ≤ mc) (h2 : ss ≤ ms) : tk_W X nL pc ls st S cs ss := h ⟨h1, h2⟩
theorem s_mmin {index : Nat} (C0 : tk_C X cc nL own Ts) (E0 : tk_End Z X d mc ms ret QR QX) (h1 : Cond.methodLink own index Lib.Math.min.name ∈ Ts) (h2 : Cond.static Lib.Math.min.name ∈ Ts) (h3 : Cond.initialized "java/lang/Math" ∈ Ts) (h4 : Cond.code Lib.Math.min.name Lib.Math.min.code 2 (some .int) ∈ Ts)
    (hd : decode cc pc = .ok (.invokestatic index, 3)) (h : i_mmin d mc ms K ls st S cs ss) (k0 : ∀ ls st S cs ss, K ls st S cs ss → tk_W X nL (pc + 3) ls st S cs ss) : tk_W X nL pc ls st S cs ss := by
  obtain ⟨p, l, e, R, s, m, args, below, meth, c0, D, Y, V, A, Q⟩ := X
  obtain ⟨hx, hb, hml, hown, hts, hK, hA, hlk, hO⟩ := C0
  obtain ⟨hR, -, hZ, -⟩ := E0
  intro H locs la hP hD hS hl
  obtain ⟨hd1, hc, hs, h⟩ := h
  split at h
  · refine va_mmin hx hb (hml.trans hl.1.symm) hown (hts _ h1) (hts _ h2) (hts _ h3) (hts _ h4) (Nat.le_trans hd1 hR.1) ?_ (Nat.le_trans hc hR.2.2.1) (Nat.le_trans hs hR.2.2.2) hd (k0 _ _ _ _ _ h.2 H locs la hP hD hS hl)
    have h8 := h.1
    have h9 := hR.2.1
    omega
  · exact h.elim
theorem s_mmax {index : Nat} (C0 : tk_C X cc nL own Ts) (E0 : tk_End Z X d mc ms ret QR QX) (h1 : Cond.methodLink own index Lib.Math.max.name ∈ Ts) (h2 : Cond.static Lib.Math.max.name ∈ Ts) (h3 : Cond.initialized "java/lang/Math" ∈ Ts) (h4 : Cond.code Lib.Math.max.name Lib.Math.max.code 2 (some .int) ∈ Ts)
    (hd : decode cc pc = .ok (.invokestatic index, 3)) (h : i_mmax d mc ms K ls st S cs ss) (k0 : ∀ ls st S cs ss, K ls st S cs ss → tk_W X nL (pc + 3) ls st S cs ss) : tk_W X nL pc ls st S cs ss := by
  obtain ⟨p, l, e, R, s, m, args, below, meth, c0, D, Y, V, A, Q⟩ := X
  obtain ⟨hx, hb, hml, hown, hts, hK, hA, hlk, hO⟩ := C0
  obtain ⟨hR, -, hZ, -⟩ := E0
  intro H locs la hP hD hS hl
  obtain ⟨hd1, hc, hs, h⟩ := h
  split at h
  · refine va_mmax hx hb (hml.trans hl.1.symm) hown (hts _ h1) (hts _ h2) (hts _ h3) (hts _ h4) (Nat.le_trans hd1 hR.1) ?_ (Nat.le_trans hc hR.2.2.1) (Nat.le_trans hs hR.2.2.2) hd (k0 _ _ _ _ _ h.2 H locs la hP hD hS hl)
    have h8 := h.1
    have h9 := hR.2.1
    omega
  · exact h.elim
theorem s_lmin {index : Nat} (C0 : tk_C X cc nL own Ts) (E0 : tk_End Z X d mc ms ret QR QX) (h1 : Cond.methodLink own index Lib.MathLoose.min_long.x ∈ Ts) (h2 : Cond.static Lib.MathLoose.min_long.x ∈ Ts) (h3 : Cond.initialized "java/lang/Math" ∈ Ts) (h4 : Cond.code Lib.MathLoose.min_long.x Lib.MathLoose.min_long.code 4 (some .long) ∈ Ts)
    (hd : decode cc pc = .ok (.invokestatic index, 3)) (h : i_lmin d mc ms K ls st S cs ss) (k0 : ∀ ls st S cs ss, K ls st S cs ss → tk_W X nL (pc + 3) ls st S cs ss) : tk_W X nL pc ls st S cs ss := by
  obtain ⟨p, l, e, R, s, m, args, below, meth, c0, D, Y, V, A, Q⟩ := X
  obtain ⟨hx, hb, hml, hown, hts, hK, hA, hlk, hO⟩ := C0
  obtain ⟨hR, -, hZ, -⟩ := E0
  intro H locs la hP hD hS hl
  obtain ⟨hd1, hc, hs, h⟩ := h
  split at h
  · refine va_mmin_long hx hb (hml.trans hl.1.symm) hown (hts _ h1) (hts _ h2) (hts _ h3) (hts _ h4) (Nat.le_trans hd1 hR.1) ?_ (Nat.le_trans hc hR.2.2.1) (Nat.le_trans hs hR.2.2.2) hd (k0 _ _ _ _ _ h.2 H locs la hP hD hS hl)
    have h8 := h.1
    have h9 := hR.2.1
    omega
  · exact h.elim
/-- a cast to the class c of what is of it -/
def i_cast (c : Nat) : tk_K → tk_K := fun K ls st S cs ss => match st with
  | .ref a :: r => a ∈ q_L S ∧ q_K S a = c ∧ K ls (.ref a :: r) S cs ss
  | _ => False
theorem s_cast {C : String} {T : u_T} {N c index : Nat} (C0 : tk_C X cc nL own Ts) (hcl : vwCl[c]? = some (C, T, N)) (hc14 : c < 14) (h1 : Cond.classLink own index C ∈ Ts) (hd : decode cc pc = .ok (.checkcast index, 3)) (h : i_cast c K ls st S cs ss) (k0 : ∀ ls st S cs ss, K ls st S cs ss → tk_W X nL (pc + 3) ls st S cs ss) : tk_W X nL pc ls st S cs ss := by
  obtain ⟨p, l, e, R, s, m, args, below, meth, c0, D, Y, V, A, Q⟩ := X
  obtain ⟨hx, hb, hml, hown, hts, hK, hA, hlk, hO⟩ := C0
  intro H locs la hP hD hS hl
  unfold i_cast at h
  split at h
  · obtain ⟨ha, hKa, h⟩ := h
    obtain ⟨i, hi⟩ := tk_get (Y := Y) ha
    rw [tk_ent_o hKa hc14] at hi
    exact va_castE hx hb hown (hts _ h1) (va_recv hK hP hcl hi) hd (k0 _ _ _ _ _ h H locs la hP hD hS hl)
  · exact h.elim
/-- a switch by a table -/
def i_cases (x : Int32) : List (Int32 × tk_K) → tk_K → tk_K
  | [], Kd => Kd
  | (v, K) :: r, Kd => fun ls st S cs ss => (x = v → K ls st S cs ss) ∧ (¬ x = v → i_cases x r Kd ls st S cs ss)
def i_tsw (Ks : List (Int32 × tk_K)) (Kd : tk_K) : tk_K := fun ls st S cs ss => match st with
  | .int x :: r => i_cases x Ks Kd ls r S cs ss
  | _ => False
def tk_TS (X : tk_X) (nL pc : Nat) (lo : Int) (offs : Array Int) : Nat → List (Int32 × tk_K) → Prop
  | _, [] => True
  | j, (v, K) :: r => (∃ tgt : Nat, v = Int32.ofInt (lo + j) ∧ offs[j]? = some ((tgt : Int) - pc) ∧ ∀ ls st S cs ss, K ls st S cs ss → tk_W X nL tgt ls st S cs ss) ∧ tk_TS X nL pc lo offs (j + 1) r
theorem tk_ts_go {lo : Int} {offs : Array Int} {x : Int32} {Kd : tk_K} (hin : ∀ j : Nat, ∀ off : Int, offs[j]? = some off → x.toInt = lo + j → ∀ tgt : Nat, off = (tgt : Int) - pc → (tk_W X nL tgt ls st S cs ss → tk_W X nL pc ls (.int x :: st) S cs ss))
    (h32 : ∀ j : Nat, j < offs.size → (Int32.ofInt (lo + j)).toInt = lo + j) (hout : (x.toInt < lo ∨ lo + offs.size ≤ x.toInt) → Kd ls st S cs ss → tk_W X nL pc ls (.int x :: st) S cs ss) :
    ∀ (Ks : List (Int32 × tk_K)) (j : Nat), Ks.length + j = offs.size → tk_TS X nL pc lo offs j Ks → (∀ i : Nat, i < j → ¬ x.toInt = lo + i) → i_cases x Ks Kd ls st S cs ss → tk_W X nL pc ls (.int x :: st) S cs ss := by
  intro Ks
  induction Ks with
  | nil =>
    intro j hj _ hno h
    refine hout ?_ h
    by_cases h1 : x.toInt < lo
    · exact Or.inl h1
    · right
      by_cases h2 : lo + offs.size ≤ x.toInt
      · exact h2
      · have := hno (x.toInt - lo).toNat (by simp at hj; omega)
        omega
  | cons q r ih =>
    obtain ⟨v, K⟩ := q
    intro j hj hT hno h
    obtain ⟨⟨tgt, hv, ho, hk⟩, hT2⟩ := hT
    have hjs : j < offs.size := by simp at hj; omega
    by_cases hxv : x = v
    · refine hin j _ ho ?_ tgt rfl (hk _ _ _ _ _ (h.1 hxv))
      rw [hxv, hv]
      exact h32 j hjs
    · refine ih (j + 1) (by simp at hj; omega) hT2 (fun i hi => ?_) (h.2 hxv)
      by_cases hij : i = j
      · subst hij
        intro hx
        apply hxv
        rw [hv]
        apply Int32.toInt_inj.mp
        rw [hx, h32 i hjs]
      · exact hno i (by omega)
theorem s_tsw {lo hi dflt : Int} {offs : Array Int} {len dt : Nat} {Ks : List (Int32 × tk_K)} {Kd : tk_K} (C0 : tk_C X cc nL own Ts) (hd : decode cc pc = .ok (.tableswitch dflt lo hi offs, len)) (hsz : (lo + offs.size = hi + 1 ∧ Ks.length = offs.size) ∧ -1000 ≤ lo ∧ hi ≤ 1000) (hdt : (pc : Int) + dflt = (dt : Int))
    (hT : tk_TS X nL pc lo offs 0 Ks) (h : i_tsw Ks Kd ls st S cs ss) (kd : ∀ ls st S cs ss, Kd ls st S cs ss → tk_W X nL dt ls st S cs ss) : tk_W X nL pc ls st S cs ss := by
  unfold i_tsw at h
  split at h
  · rename_i x r
    refine tk_ts_go (lo := lo) (offs := offs) (Kd := Kd) ?_ ?_ ?_ Ks 0 (by rw [hsz.1.2]; rfl) hT (fun i hi => absurd hi (by omega)) h
    · intro j off ho hx tgt ht k
      obtain ⟨p, l, e, R, s, m, args, below, meth, c0, D, Y, V, A, Q⟩ := X
      obtain ⟨hx1, hb, hml, hown, hts, hK, hA, hlk, hO⟩ := C0
      intro H locs la hP hD hS hl
      have hj := (Array.getElem?_eq_some_iff.mp ho).1
      refine lv_tableIn (off := off) hx1 hb hd (by omega) (by omega) ?_ (by omega) (k H locs la hP hD hS hl)
      rw [show (x.toInt - lo).toNat = j by omega]
      exact ho
    · intro j hj
      rw [Int32.toInt_ofInt_of_le (by omega) (by omega)]
    · intro ho hk
      obtain ⟨p, l, e, R, s, m, args, below, meth, c0, D, Y, V, A, Q⟩ := X
      obtain ⟨hx1, hb, hml, hown, hts, hK, hA, hlk, hO⟩ := C0
      intro H locs la hP hD hS hl
      exact lv_tableOut hx1 hb hd (by omega) hdt (kd _ _ _ _ _ hk H locs la hP hD hS hl)
  · exact h.elim
/-- the i-th String constant -/
theorem s_ldcS {index i : Nat} {tx : String} (C0 : tk_C X cc nL own Ts) (E0 : tk_End Z X d mc ms ret QR QX) (hi : i < tk_nS) (h1 : tk_sO.getD i "" = own) (h2 : tk_sI.getD i 0 = index) (h3 : tk_sT.getD i "" = tx) (hd : decode cc pc = .ok (.ldc index, 2))
    (h : i_push (.ref (Z.2.2.2.1 i)) K ls st S cs ss) (k0 : ∀ ls st S cs ss, K ls st S cs ss → tk_W X nL (pc + 2) ls st S cs ss) : tk_W X nL pc ls st S cs ss := by
  obtain ⟨p, l, e, R, s, m, args, below, meth, c0, D, Y, V, A, Q⟩ := X
  obtain ⟨hx, hb, hml, hown, hts, hK, hA, hlk, hO⟩ := C0
  obtain ⟨hR, -, hZ, -⟩ := E0
  subst hZ
  intro H locs la hP hD hS hl
  have hr := hO.2.2.2.2.2.1 i hi
  rw [h1, h2, h3] at hr
  exact va_ldcS hx hb hown hr hd (k0 _ _ _ _ _ h H locs la hP hD hS hl)
/-- throw new E(text) -/
def i_throw (mc ms : Nat) (E : String) (QX : String → tk_S → Prop) : tk_K := fun _ st S cs ss => (st.map fun v => v.category).sum ≤ 8 ∧ cs + 1 ≤ mc ∧ ss + 6 ≤ ms ∧ QX E S
/-- the words that a throw of E by own asks for -/
def tk_thr (own E : String) (ic : Nat) (names : List String) : Prop := Bundle.fit E = true ∧ (∀ n ∈ names, Bundle.fit n = true) ∧ (∀ w ∈ (vx_atS own ic E names).filter goodWord, w ∈ tk_G) ∧ (∀ w ∈ (vx_atS own ic E names).filter (fun w => !goodWord w), w ∈ tk_N) ∧ (∀ w ∈ vx_atS own ic E names, vx_ot w = true) ∧ names.length ≤ 4
theorem s_throw {E : String} {names : List String} {ik is ic i : Nat} {tx : String} {y : tk_Y} (C0 : tk_C X cc nL own (tk_ws y)) (E0 : tk_End Z X d mc ms ret QR QX) (hst : Z.1.stackTraces = false) (hnx : tk_noT X) (hd8 : 8 ≤ d)
    (ht : tk_thr own E ic names) (hk : Cond.classLink own ik E ∈ tk_G) (hini : Cond.initialized E ∈ tk_G) (hg : vx_ot (Cond.classLink own ik E) = true ∧ vx_ot (Cond.initialized E) = true) (hi : i < tk_nS) (e1 : tk_sO.getD i "" = own) (e2 : tk_sI.getD i 0 = is) (e3 : tk_sT.getD i "" = tx)
    (d0 : decode cc pc = .ok (.new ik, 3)) (d3 : decode cc (pc + 3) = .ok (.dup, 1)) (d4 : decode cc (pc + 4) = .ok (.ldc is, 2)) (d6 : decode cc (pc + 6) = .ok (.invokespecial ic, 3)) (d9 : decode cc (pc + 9) = .ok (.athrow, 1)) (h : i_throw mc ms E QX ls st S cs ss) : tk_W X nL pc ls st S cs ss := by
  obtain ⟨p, l, e, R, s, m, args, below, meth, c0, D, Y, V, A, Q⟩ := X
  obtain ⟨hx, hb, hml, hown, hts, hK, hA, hlk, hO⟩ := C0
  obtain ⟨hR, -, hZ, S0, hA0, hQ⟩ := E0
  subst hZ
  subst hQ
  obtain ⟨t1, t2, t3, t4, t5, t6⟩ := ht
  obtain ⟨hc, hc1, hs1, hq⟩ := h
  intro H locs la hP hD hS hl
  have hr := hO.2.2.2.2.2.1 i hi
  rw [e1, e2, e3] at hr
  have hlo : 40 * d ≤ R.locals := hR.2.1
  have hfr : d ≤ R.frames := hR.1
  refine vx_throwS (A := A) hx hb hst hown t1 t2 (hts _ (tk_u1 hk)) (hts _ (tk_u1 hini)) hr
    (vx_hat (fun w hw => hts _ (tk_u1 (t3 w hw))) t4 (fun w hw => va_Nw.use (tk_N_tab (List.mem_filter.mp hw).2) (hO.2.2.2.2.2.2 w hw)))
    (fun w hw => ?_) hO.1 hO.2.1 hS (hl.1.trans hml.symm) d0 d3 d4 d6 d9 (fun x hx9 => (hnx x hx9).elim) (by omega) (by omega) (Nat.le_trans hc1 hR.2.2.1) (Nat.le_trans hs1 hR.2.2.2) hlk (fun t hal hsz hk9 => ?_) hS.2.2 hc1 hs1
  · rcases List.mem_cons.mp hw with rfl | hw
    · exact hg.1
    · rcases List.mem_cons.mp hw with rfl | hw
      · exact hg.2
      · exact t5 w hw
  · subst hA0
    refine ⟨⟨S, hq, hP.kept (fun k q hk8 => hk9 _ (hP k q hk8).lt), va_K.moved hal hK, hD⟩, Nat.le_trans hS.1 hsz, fun q h1 h2 => ?_⟩
    rw [hk9 q (Nat.lt_of_lt_of_le h1 hS.1)]
    exact hS.2.1 q h1 h2
theorem s_throwW {E : String} {names : List String} {ik is ic i : Nat} {tx : String} {y : tk_Y} (C0 : tk_C X cc nL own (tk_ws y)) (E0 : tk_End Z X d mc ms ret QR QX) (hst : Z.1.stackTraces = false) (hnx : tk_noT X) (hd8 : 8 ≤ d)
    (ht : tk_thr own E ic names) (hk : Cond.classLink own ik E ∈ tk_G) (hini : Cond.initialized E ∈ tk_G) (hg : vx_ot (Cond.classLink own ik E) = true ∧ vx_ot (Cond.initialized E) = true) (hi : i < tk_nS) (e1 : tk_sO.getD i "" = own) (e2 : tk_sI.getD i 0 = is) (e3 : tk_sT.getD i "" = tx)
    (d0 : decode cc pc = .ok (.new ik, 3)) (d3 : decode cc (pc + 3) = .ok (.dup, 1)) (d4 : decode cc (pc + 4) = .ok (.ldc_w is, 3)) (d7 : decode cc (pc + 7) = .ok (.invokespecial ic, 3)) (d10 : decode cc (pc + 10) = .ok (.athrow, 1)) (h : i_throw mc ms E QX ls st S cs ss) : tk_W X nL pc ls st S cs ss := by
  obtain ⟨p, l, e, R, s, m, args, below, meth, c0, D, Y, V, A, Q⟩ := X
  obtain ⟨hx, hb, hml, hown, hts, hK, hA, hlk, hO⟩ := C0
  obtain ⟨hR, -, hZ, S0, hA0, hQ⟩ := E0
  subst hZ
  subst hQ
  obtain ⟨t1, t2, t3, t4, t5, t6⟩ := ht
  obtain ⟨hc, hc1, hs1, hq⟩ := h
  intro H locs la hP hD hS hl
  have hr := hO.2.2.2.2.2.1 i hi
  rw [e1, e2, e3] at hr
  have hlo : 40 * d ≤ R.locals := hR.2.1
  have hfr : d ≤ R.frames := hR.1
  refine vx_throwSW (A := A) hx hb hst hown t1 t2 (hts _ (tk_u1 hk)) (hts _ (tk_u1 hini)) hr
    (vx_hat (fun w hw => hts _ (tk_u1 (t3 w hw))) t4 (fun w hw => va_Nw.use (tk_N_tab (List.mem_filter.mp hw).2) (hO.2.2.2.2.2.2 w hw)))
    (fun w hw => ?_) hO.1 hO.2.1 hS (hl.1.trans hml.symm) d0 d3 d4 d7 d10 (fun x hx9 => (hnx x hx9).elim) (by omega) (by omega) (Nat.le_trans hc1 hR.2.2.1) (Nat.le_trans hs1 hR.2.2.2) hlk (fun t hal hsz hk9 => ?_) hS.2.2 hc1 hs1
  · rcases List.mem_cons.mp hw with rfl | hw
    · exact hg.1
    · rcases List.mem_cons.mp hw with rfl | hw
      · exact hg.2
      · exact t5 w hw
  · subst hA0
    refine ⟨⟨S, hq, hP.kept (fun k q hk8 => hk9 _ (hP k q hk8).lt), va_K.moved hal hK, hD⟩, Nat.le_trans hS.1 hsz, fun q h1 h2 => ?_⟩
    rw [hk9 q (Nat.lt_of_lt_of_le h1 hS.1)]
    exact hS.2.1 q h1 h2
theorem s_callIN {y0 y : tk_Y} {n index : Nat} {host : String} (C0 : tk_C X cc nL own (tk_ws y0)) (E0 : tk_End Z X d mc ms ret QR QX) (hy : tk_code y ∈ tk_G) (hm : y.2.2.1 ≤ 20) (hyr : y.2.2.2 = none) (hyn : y.1.name = "<init>") (h1 : Cond.methodLinkNest own index y.1 host ∈ tk_N) (h2 : Cond.instanceMethod y.1 ∈ tk_G) (h3 : Cond.initialized y.1.cls ∈ tk_G)
    (hn : y.1.cls ≠ "java/lang/invoke/MethodHandle" ∧ y.1.cls ≠ "java/lang/invoke/VarHandle" ∧ (parseMethodDescriptor y.1.desc).map (fun d => d.parameters.length) = some n) (hd : decode cc pc = .ok (.invokespecial index, 3))
    (h : i_callI Z y n d mc ms K ls st S cs ss) (k0 : ∀ ls st S cs ss, K ls st S cs ss → tk_W X nL (pc + 3) ls st S cs ss) : tk_W X nL pc ls st S cs ss := by
  obtain ⟨p, l, e, R, s, m, args, below, meth, c0, D, Y, V, A, Q⟩ := X
  obtain ⟨hx, hb, hml, hown, hts, hK, hA, hlk, hO⟩ := C0
  obtain ⟨hR, -, hZ, -⟩ := E0
  subst hZ
  intro H locs la hP hD hS hl
  obtain ⟨ha, h⟩ := h
  obtain ⟨e1, e2⟩ := tk_args st n ha
  split at h
  · rename_i b r hbr
    rw [hbr] at e1
    obtain ⟨hc, d1, mc1, ms1, hd1, hc1, hs1, hM⟩ := h
    have cb : va_CN R s args own index y.1 host y.2.1 y.2.2.1 none (tk_ws y) (tk_rm d1 mc1 ms1) mc1 ms1 n := va_cnB n hts (tk_good y0 y hy) (by unfold tk_ws tk_code; rw [hyr]) rfl rfl (hO.2.2.2.2.2.2 _ h1) (hts _ (List.mem_cons_of_mem _ h3)) hn (tk_room hR hd1 hm)
    refine tk_after (va_runIN (As := (st.take n).reverse) (rest := r) ⟨hx, hb, hml, hown, hts⟩ (hM.met H.size) ⟨cb, hyn, hts _ (List.mem_cons_of_mem _ h2)⟩ ⟨tk_blind, fun U hU hW => ⟨rfl, by rw [hU], ⟨by rw [hU]; exact hP, va_K.moved hW.alike hK, hD.weaken (fun _ _ _ _ => trivial)⟩, hO.call hS (tk_hF hD hS hA) hU hW⟩⟩ rfl e2 hl.1 e1 (lv_room hc) hd ⟨Nat.le_trans hc1 hR.2.2.1, Nat.le_trans hs1 hR.2.2.2⟩) hD hS hA (fun v S' H1 locs1 hq hP1 hD1 hS1 => ?_)
    exact k0 _ _ _ _ _ hq H1 locs1 la hP1 hD1 hS1 hl
  · exact h.elim
theorem tk_inT (L : List Cond) (h : L.all (fun w => decide (w ∈ lw_tbl)) = true) (g : L.all goodWord = true) : ∀ w ∈ L, w ∈ tk_G := fun w hw => List.mem_filter.mpr ⟨of_decide_eq_true (List.all_eq_true.mp h w hw), List.all_eq_true.mp g w hw⟩
theorem tk_inN (L : List Cond) (h : L.all (fun w => decide (w ∈ lw_tbl)) = true) (g : L.all tk_isN = true) : ∀ w ∈ L, w ∈ tk_N := fun w hw => List.mem_filter.mpr ⟨of_decide_eq_true (List.all_eq_true.mp h w hw), List.all_eq_true.mp g w hw⟩
theorem tk_inN1 (i : Nat) {w : Cond} (h : lw_tbl[i]? = some w) (g : tk_isN w = true) : w ∈ tk_N := List.mem_filter.mpr ⟨List.mem_of_getElem? h, g⟩
end MORE

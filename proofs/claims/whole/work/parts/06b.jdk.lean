/-! THE JDK's OWN INSTRUCTIONS: statics, rows of references, copies, String constants' fields -/
/-- what no run comes to -/
def i_no : tk_K := fun _ _ _ _ _ => False
theorem s_no {X : tk_X} {nL pc : Nat} {ls : List (Option Value)} {st : List Value} {S : tk_S} {cs ss : Nat} (h : i_no ls st S cs ss) : tk_W X nL pc ls st S cs ss := h.elim
def i_acmp : tk_K → tk_K → tk_K := fun Kt Kf ls st S cs ss => match st with
  | v :: w :: r => tk_isR v ∧ tk_isR w ∧ (w = v → Kt ls r S cs ss) ∧ (¬ w = v → Kf ls r S cs ss)
  | _ => False
theorem tk_rf_of {v : Value} (h : tk_isR v) : ∃ r, v = va_rf r := by
  rcases h with rfl | ⟨a, rfl⟩
  · exact ⟨none, rfl⟩
  · exact ⟨some a, rfl⟩
theorem tk_rf_inj {a b : Option Nat} (h : va_rf a = va_rf b) : a = b := by
  cases a <;> cases b <;> simp [va_rf] at h ⊢
  exact h
def i_alenZ (Z : tk_Z) : tk_K → tk_K := fun K ls st S cs ss => match st with
  | .ref a :: r => (a = Z.2.2.2.2.2.1 ∧ K ls (.int 0 :: r) S cs ss) ∨ (i_alen K ls (.ref a :: r) S cs ss)
  | _ => False
def i_newq (mc ms : Nat) : tk_K → tk_K := fun K ls st S cs ss => match st with
  | .int n :: r => ¬ n < 0 ∧ n.toNatClampNeg ≤ 1000000 ∧ cs + 1 ≤ mc ∧ ss + n.toNatClampNeg ≤ ms ∧ ∀ a, a ∉ q_L S → K ls (.ref a :: r) (s_arr S 18 a n.toNatClampNeg) (cs + 1) (ss + n.toNatClampNeg)
  | _ => False
def i_aast : tk_K → tk_K := fun K ls st S cs ss => match st with
  | .null :: .int i :: .ref a :: r => a ∈ q_L S ∧ q_K S a = 18 ∧ vp_in i (q_n S a) ∧ K ls r (s_aR S a (va_up (q_aR S a) i.toNatClampNeg none)) cs ss
  | .ref v :: .int i :: .ref a :: r => a ∈ q_L S ∧ q_K S a = 18 ∧ vp_in i (q_n S a) ∧ v ∈ q_L S ∧ q_K S v < 14 ∧ K ls r (s_aR S a (va_up (q_aR S a) i.toNatClampNeg (some v))) cs ss
  | _ => False
/-- arraycopy between two rows of kind c -/
def i_cpy (d c : Nat) : tk_K → tk_K := fun K ls st S cs ss => match st with
  | .int n :: .int dp :: .ref b :: .int sp :: .ref a :: r => 1 ≤ d ∧ (r.map fun v => v.category).sum ≤ 8 ∧ a ∈ q_L S ∧ b ∈ q_L S ∧ q_K S a = c ∧ q_K S b = c ∧ ¬ sp < 0 ∧ ¬ dp < 0 ∧ ¬ n < 0 ∧ sp.toNatClampNeg + n.toNatClampNeg ≤ q_n S a ∧ dp.toNatClampNeg + n.toNatClampNeg ≤ q_n S b ∧
      K ls r (if c = 15 then s_aI S b (va_cpy (q_aI S a) (q_aI S b) sp.toNatClampNeg dp.toNatClampNeg n.toNatClampNeg) else s_aJ S b (va_cpy (q_aJ S a) (q_aJ S b) sp.toNatClampNeg dp.toNatClampNeg n.toNatClampNeg)) cs ss
  | _ => False
/-- .. of references, to objects of one class k -/
def i_cpyR (d : Nat) : tk_K → tk_K := fun K ls st S cs ss => match st with
  | .int n :: .int dp :: .ref b :: .int sp :: .ref a :: r => 1 ≤ d ∧ (r.map fun v => v.category).sum ≤ 8 ∧ a ∈ q_L S ∧ b ∈ q_L S ∧ q_K S a = 18 ∧ q_K S b = 18 ∧ ¬ sp < 0 ∧ ¬ dp < 0 ∧ ¬ n < 0 ∧ sp.toNatClampNeg + n.toNatClampNeg ≤ q_n S a ∧ dp.toNatClampNeg + n.toNatClampNeg ≤ q_n S b ∧
      (∃ k, k < 14 ∧ ∀ i, i < n.toNatClampNeg → ∀ y, q_aR S a (sp.toNatClampNeg + i) = some y → y ∈ q_L S ∧ q_K S y = k) ∧
      K ls r (s_aR S b (va_cpy (q_aR S a) (q_aR S b) sp.toNatClampNeg dp.toNatClampNeg n.toNatClampNeg)) cs ss
  | _ => False
def i_getC (Z : tk_Z) (d : Nat) : tk_K → tk_K := fun K ls st S cs ss => match st with
  | .ref a :: r => 1 ≤ d ∧ (r.map fun v => v.category).sum ≤ 8 ∧ a ∈ q_L S ∧ q_K S a = 18 ∧ K ls (.ref Z.2.2.2.2.2.2 :: r) S cs ss
  | _ => False
def i_castA : tk_K → tk_K := fun K ls st S cs ss => match st with
  | .ref a :: r => a ∈ q_L S ∧ q_K S a = 18 ∧ K ls (.ref a :: r) S cs ss
  | _ => False
/-- some reference -/
def i_anyR : tk_K → tk_K := fun K ls st S cs ss => ∀ v, tk_isR v → K ls (v :: st) S cs ss
def i_sval (Z : tk_Z) : tk_K → tk_K := fun K ls st S cs ss => match st with
  | .ref a :: r => ∃ i, i < tk_nS ∧ a = Z.2.2.2.1 i ∧ K ls (.ref (Z.2.2.2.2.1 i) :: r) S cs ss
  | _ => False
def i_scod (Z : tk_Z) : tk_K → tk_K := fun K ls st S cs ss => match st with
  | .ref a :: r => ∃ i, i < tk_nS ∧ a = Z.2.2.2.1 i ∧ K ls (.int 0 :: r) S cs ss
  | _ => False
def i_slen (Z : tk_Z) : tk_K → tk_K := fun K ls st S cs ss => match st with
  | .ref a :: r => ∃ i, i < tk_nS ∧ a = Z.2.2.2.2.1 i ∧ K ls (.int (nI (tk_sB.getD i []).length) :: r) S cs ss
  | _ => False
def i_sbald (Z : tk_Z) : tk_K → tk_K := fun K ls st S cs ss => match st with
  | .int j :: .ref a :: r => ∃ i, i < tk_nS ∧ a = Z.2.2.2.2.1 i ∧ vp_in j (tk_sB.getD i []).length ∧ K ls (.int ((tk_sB.getD i []).getD j.toNatClampNeg 0) :: r) S cs ss
  | _ => False
section JDK
variable {Z : tk_Z} {X : tk_X} {cc : ByteArray} {nL : Nat} {own : String} {Ts : List Cond} {pc : Nat} {ls : List (Option Value)} {st : List Value} {S : tk_S} {cs ss : Nat} {K Kt Kf : tk_K} {d mc ms : Nat} {ret : Option FieldType} {QR : Option Value → tk_S → Prop} {QX : String → tk_S → Prop}
theorem s_acmp_eq {off : Int} {tgt : Nat} (C0 : tk_C X cc nL own Ts) (hd : decode cc pc = .ok (.if_acmp .eq off, 3)) (ht : (pc : Int) + off = (tgt : Int)) (h : i_acmp Kt Kf ls st S cs ss) (kt : ∀ ls st S cs ss, Kt ls st S cs ss → tk_W X nL tgt ls st S cs ss) (kf : ∀ ls st S cs ss, Kf ls st S cs ss → tk_W X nL (pc + 3) ls st S cs ss) : tk_W X nL pc ls st S cs ss := by
  obtain ⟨p, l, e, R, s, m, args, below, meth, c0, D, Y, V, A, Q⟩ := X
  obtain ⟨hx, hb, hml, hown, hts, hK, hA, hlk, hO⟩ := C0
  intro H locs la hP hD hS hl
  unfold i_acmp at h
  split at h
  · obtain ⟨h1, h2, h3, h4⟩ := h
    obtain ⟨rv, rfl⟩ := tk_rf_of h1
    obtain ⟨rw_, rfl⟩ := tk_rf_of h2
    exact lv_acmp_eq hx hb hd ht (fun q => kt _ _ _ _ _ (h3 (by rw [q])) H locs la hP hD hS hl) (fun q => kf _ _ _ _ _ (h4 (fun z => q (tk_rf_inj z))) H locs la hP hD hS hl)
  · exact h.elim
theorem s_acmp_ne {off : Int} {tgt : Nat} (C0 : tk_C X cc nL own Ts) (hd : decode cc pc = .ok (.if_acmp .ne off, 3)) (ht : (pc : Int) + off = (tgt : Int)) (h : i_acmp Kf Kt ls st S cs ss) (kt : ∀ ls st S cs ss, Kt ls st S cs ss → tk_W X nL tgt ls st S cs ss) (kf : ∀ ls st S cs ss, Kf ls st S cs ss → tk_W X nL (pc + 3) ls st S cs ss) : tk_W X nL pc ls st S cs ss := by
  obtain ⟨p, l, e, R, s, m, args, below, meth, c0, D, Y, V, A, Q⟩ := X
  obtain ⟨hx, hb, hml, hown, hts, hK, hA, hlk, hO⟩ := C0
  intro H locs la hP hD hS hl
  unfold i_acmp at h
  split at h
  · obtain ⟨h1, h2, h3, h4⟩ := h
    obtain ⟨rv, rfl⟩ := tk_rf_of h1
    obtain ⟨rw_, rfl⟩ := tk_rf_of h2
    exact lv_acmp_ne hx hb hd ht (fun q => kt _ _ _ _ _ (h4 (fun z => q (tk_rf_inj z))) H locs la hP hD hS hl) (fun q => kf _ _ _ _ _ (h3 (by rw [q])) H locs la hP hD hS hl)
  · exact h.elim
theorem s_alenZ (C0 : tk_C X cc nL own Ts) (E0 : tk_End Z X d mc ms ret QR QX) (hd : decode cc pc = .ok (.arraylength, 1)) (h : i_alenZ Z K ls st S cs ss) (k0 : ∀ ls st S cs ss, K ls st S cs ss → tk_W X nL (pc + 1) ls st S cs ss) : tk_W X nL pc ls st S cs ss := by
  unfold i_alenZ at h
  split at h
  · rcases h with ⟨rfl, h⟩ | h
    · obtain ⟨p, l, e, R, s, m, args, below, meth, c0, D, Y, V, A, Q⟩ := X
      obtain ⟨hx, hb, hml, hown, hts, hK, hA, hlk, hO⟩ := C0
      obtain ⟨hR, -, hZ, -⟩ := E0
      subst hZ
      intro H locs la hP hD hS hl
      exact va_tlen hx hb hO.2.2.2.1 hS rfl hd (k0 _ _ _ _ _ h H locs la hP hD hS hl)
    · exact s_alen C0 hd h k0
  · exact h.elim
theorem s_getsD {index : Nat} (C0 : tk_C X cc nL own Ts) (E0 : tk_End Z X d mc ms ret QR QX) (h1 : Cond.fieldLink own index "java/util/ArrayList" "DEFAULTCAPACITY_EMPTY_ELEMENTDATA" "[Ljava/lang/Object;" ∈ Ts) (hd : decode cc pc = .ok (.getstatic index, 3)) (h : i_push (.ref Z.2.2.2.2.2.1) K ls st S cs ss) (k0 : ∀ ls st S cs ss, K ls st S cs ss → tk_W X nL (pc + 3) ls st S cs ss) : tk_W X nL pc ls st S cs ss := by
  obtain ⟨p, l, e, R, s, m, args, below, meth, c0, D, Y, V, A, Q⟩ := X
  obtain ⟨hx, hb, hml, hown, hts, hK, hA, hlk, hO⟩ := C0
  obtain ⟨hR, -, hZ, -⟩ := E0
  subst hZ
  intro H locs la hP hD hS hl
  exact va_gets hx hb hO.2.2.1 hS hown (hts _ h1) (fun _ h => h) hd (k0 _ _ _ _ _ h H locs la hP hD hS hl)
theorem s_getsC {index : Nat} (C0 : tk_C X cc nL own Ts) (h1 : Cond.fieldLink own index "java/lang/String" "COMPACT_STRINGS" "Z" ∈ Ts) (hd : decode cc pc = .ok (.getstatic index, 3)) (h : i_push (.int 1) K ls st S cs ss) (k0 : ∀ ls st S cs ss, K ls st S cs ss → tk_W X nL (pc + 3) ls st S cs ss) : tk_W X nL pc ls st S cs ss := by
  obtain ⟨p, l, e, R, s, m, args, below, meth, c0, D, Y, V, A, Q⟩ := X
  obtain ⟨hx, hb, hml, hown, hts, hK, hA, hlk, hO⟩ := C0
  intro H locs la hP hD hS hl
  exact va_gets hx hb hO.2.2.2.2.1.2.1 hS hown (hts _ h1) (fun _ h => h) hd (k0 _ _ _ _ _ h H locs la hP hD hS hl)
theorem s_getsq {index : Nat} (C0 : tk_C X cc nL own Ts) (h1 : Cond.fieldLink own index "jdk/internal/util/Preconditions" "SIOOBE_FORMATTER" "Ljava/util/function/BiFunction;" ∈ Ts) (hd : decode cc pc = .ok (.getstatic index, 3)) (h : i_anyR K ls st S cs ss) (k0 : ∀ ls st S cs ss, K ls st S cs ss → tk_W X nL (pc + 3) ls st S cs ss) : tk_W X nL pc ls st S cs ss := by
  obtain ⟨p, l, e, R, s, m, args, below, meth, c0, D, Y, V, A, Q⟩ := X
  obtain ⟨hx, hb, hml, hown, hts, hK, hA, hlk, hO⟩ := C0
  intro H locs la hP hD hS hl
  rcases hO.2.2.2.2.1.2.2.2.2.2.1 with hz | ⟨t, hz⟩
  · exact va_gets hx hb hz hS hown (hts _ h1) (fun _ h => h) hd (k0 _ _ _ _ _ (h _ tk_isR_null) H locs la hP hD hS hl)
  · exact va_gets hx hb hz hS hown (hts _ h1) (fun _ h => h) hd (k0 _ _ _ _ _ (h _ (tk_isR_ref t)) H locs la hP hD hS hl)
theorem s_newq {index : Nat} (C0 : tk_C X cc nL own Ts) (hR : tk_rmIs X d mc ms) (h1 : Cond.classLink own index "java/lang/Object" ∈ Ts) (hd : decode cc pc = .ok (.anewarray index, 3)) (h : i_newq mc ms K ls st S cs ss) (k0 : ∀ ls st S cs ss, K ls st S cs ss → tk_W X nL (pc + 3) ls st S cs ss) : tk_W X nL pc ls st S cs ss := by
  obtain ⟨p, l, e, R, s, m, args, below, meth, c0, D, Y, V, A, Q⟩ := X
  obtain ⟨hx, hb, hml, hown, hts, hK, hA, hlk, hO⟩ := C0
  have hR : tk_rmLe R d mc ms := hR
  intro H locs la hP hD hS hl
  unfold i_newq at h
  split at h
  · rename_i n r
    obtain ⟨hn0, hn1, hc1, hs1, h⟩ := h
    refine va_newq hx hb hown (hts _ h1) hO.2.2.2.2.1.2.2.1 hK hP hD hS hA hn0 rfl (by omega) (Nat.le_trans hc1 hR.2.2.1) (Nat.le_trans hs1 hR.2.2.2) hd (fun q cA H1 hK1 hP1 hD1 hS1 => ?_)
    have hq : q ∉ q_L S := va_pl_fresh2 (X := []) (L := q_L S) (f := tk_ent Y S) (by simpa [tk_pl] using hD1)
    have hY : cA = Y 18 := by
      obtain ⟨kA, comp, z1, z2, z3, z4⟩ := (hK1.2 5 (cA, .object "java/lang/Object") rfl).2
      obtain ⟨kA2, comp2, y1, y2, y3, y4⟩ := (hK.2 4 (Y 18, .object "java/lang/Object") rfl).2
      exact Option.some.inj (z4.symm.trans y4)
    subst hY
    have es := tk_push (S' := s_arr S 18 q n.toNatClampNeg) hq rfl (tk_ent_arr (Y := Y) (by decide) rfl)
    exact k0 _ _ _ _ _ (h q hq) H1 locs la (es ▸ hP1) (es ▸ hD1) hS1 hl
  · exact h.elim
theorem s_aast (C0 : tk_C X cc nL own Ts) (hcs : ∀ (c : Nat) (r : vw_C), vwCl[c]? = some r → Cond.castable r.1 "java/lang/Object" ∈ tk_N) (hd : decode cc pc = .ok (.aastore, 1)) (h : i_aast K ls st S cs ss) (k0 : ∀ ls st S cs ss, K ls st S cs ss → tk_W X nL (pc + 1) ls st S cs ss) : tk_W X nL pc ls st S cs ss := by
  obtain ⟨p, l, e, R, s, m, args, below, meth, c0, D, Y, V, A, Q⟩ := X
  obtain ⟨hx, hb, hml, hown, hts, hK, hA, hlk, hO⟩ := C0
  intro H locs la hP hD hS hl
  unfold i_aast at h
  split at h
  · rename_i i a r
    obtain ⟨ha, hKa, hin, h⟩ := h
    obtain ⟨j, hj0⟩ := tk_get (Y := Y) ha
    have hj := hj0
    rw [tk_ent_r hKa] at hj
    exact va_astqN hx hb hK hP hD hS j 4 hj rfl hin hd (fun H1 locs1 hP1 hD1 hS1 => by
      have es := tk_set (S' := s_aR S a (va_up (q_aR S a) i.toNatClampNeg none)) hD ha hj0 rfl (tk_ent_saR hKa)
      exact k0 _ _ _ _ _ h H1 locs1 la (es ▸ hP1) (es ▸ hD1) hS1 hl)
  · rename_i v i a r
    obtain ⟨ha, hKa, hin, hv, hKv, h⟩ := h
    obtain ⟨j, hj0⟩ := tk_get (Y := Y) ha
    have hj := hj0
    rw [tk_ent_r hKa] at hj
    obtain ⟨jv, hjv⟩ := tk_get (Y := Y) hv
    rw [tk_ent_o rfl hKv] at hjv
    obtain ⟨r0, hr0, -⟩ := hP jv _ hjv
    exact va_astqO hx hb hK hP hD hS j 4 jv (q_K S v) hj rfl (hO.2.2.2.2.2.2 _ (hcs _ _ hr0)) hjv hr0 hin hd (fun H1 locs1 hP1 hD1 hS1 => by
      have es := tk_set (S' := s_aR S a (va_up (q_aR S a) i.toNatClampNeg (some v))) hD ha hj0 rfl (tk_ent_saR hKa)
      exact k0 _ _ _ _ _ h H1 locs1 la (es ▸ hP1) (es ▸ hD1) hS1 hl)
  · exact h.elim
theorem s_cpyI {index : Nat} (C0 : tk_C X cc nL own Ts) (E0 : tk_End Z X d mc ms ret QR QX) (h1 : Cond.methodLink own index arraycopyName ∈ Ts) (h2 : Cond.native arraycopyName ∈ Ts) (h3 : Cond.static arraycopyName ∈ Ts) (h4 : Cond.initialized "java/lang/System" ∈ Ts) (hd : decode cc pc = .ok (.invokestatic index, 3)) (h : i_cpy d 15 K ls st S cs ss) (k0 : ∀ ls st S cs ss, K ls st S cs ss → tk_W X nL (pc + 3) ls st S cs ss) : tk_W X nL pc ls st S cs ss := by
  obtain ⟨p, l, e, R, s, m, args, below, meth, c0, D, Y, V, A, Q⟩ := X
  obtain ⟨hx, hb, hml, hown, hts, hK, hA, hlk, hO⟩ := C0
  obtain ⟨hR, -, hZ, -⟩ := E0
  intro H locs la hP hD hS hl
  unfold i_cpy at h
  split at h
  · rename_i n dp b sp a r
    obtain ⟨hd1, hc8, ha, hbL, hKa, hKb, z1, z2, z3, z4, z5, h⟩ := h
    obtain ⟨ja, hja⟩ := tk_get (Y := Y) ha
    rw [tk_ent_i hKa (by omega)] at hja
    obtain ⟨jb, hjb0⟩ := tk_get (Y := Y) hbL
    have hjb := hjb0
    rw [tk_ent_i hKb (by omega)] at hjb
    refine va_copyi hx hb (hml.trans hl.1.symm) hown (hts _ h1) (hts _ h2) (hts _ h3) (hts _ h4) hK hP hD hS ja jb 1 1 hja hjb rfl rfl rfl z1 z2 z3 z4 z5 (fun _ _ => rfl) (Nat.le_trans hd1 hR.1) ?_ hd (fun H1 locs1 hP1 hD1 hS1 => ?_)
    · have hw : nativeFrameWords "java/lang/System" "arraycopy" 5 ≤ 20 := by decide
      have h9 := hR.2.1
      omega
    · have es := tk_set (S' := s_aI S b (va_cpy (q_aI S a) (q_aI S b) sp.toNatClampNeg dp.toNatClampNeg n.toNatClampNeg)) hD hbL hjb0 rfl (tk_ent_saI hKb (by omega))
      rw [if_pos rfl] at h
      exact k0 _ _ _ _ _ h H1 locs1 la (es ▸ hP1) (es ▸ hD1) hS1 hl
  · exact h.elim
theorem s_cpyJ {index : Nat} (C0 : tk_C X cc nL own Ts) (E0 : tk_End Z X d mc ms ret QR QX) (h1 : Cond.methodLink own index arraycopyName ∈ Ts) (h2 : Cond.native arraycopyName ∈ Ts) (h3 : Cond.static arraycopyName ∈ Ts) (h4 : Cond.initialized "java/lang/System" ∈ Ts) (hd : decode cc pc = .ok (.invokestatic index, 3)) (h : i_cpy d 16 K ls st S cs ss) (k0 : ∀ ls st S cs ss, K ls st S cs ss → tk_W X nL (pc + 3) ls st S cs ss) : tk_W X nL pc ls st S cs ss := by
  obtain ⟨p, l, e, R, s, m, args, below, meth, c0, D, Y, V, A, Q⟩ := X
  obtain ⟨hx, hb, hml, hown, hts, hK, hA, hlk, hO⟩ := C0
  obtain ⟨hR, -, hZ, -⟩ := E0
  intro H locs la hP hD hS hl
  unfold i_cpy at h
  split at h
  · rename_i n dp b sp a r
    obtain ⟨hd1, hc8, ha, hbL, hKa, hKb, z1, z2, z3, z4, z5, h⟩ := h
    obtain ⟨ja, hja⟩ := tk_get (Y := Y) ha
    rw [tk_ent_j hKa] at hja
    obtain ⟨jb, hjb0⟩ := tk_get (Y := Y) hbL
    have hjb := hjb0
    rw [tk_ent_j hKb] at hjb
    refine va_copyl hx hb (hml.trans hl.1.symm) hown (hts _ h1) (hts _ h2) (hts _ h3) (hts _ h4) hK hP hD hS ja jb 2 2 hja hjb rfl rfl rfl z1 z2 z3 z4 z5 (fun _ _ => rfl) (Nat.le_trans hd1 hR.1) ?_ hd (fun H1 locs1 hP1 hD1 hS1 => ?_)
    · have hw : nativeFrameWords "java/lang/System" "arraycopy" 5 ≤ 20 := by decide
      have h9 := hR.2.1
      omega
    · have es := tk_set (S' := s_aJ S b (va_cpy (q_aJ S a) (q_aJ S b) sp.toNatClampNeg dp.toNatClampNeg n.toNatClampNeg)) hD hbL hjb0 rfl (tk_ent_saJ hKb)
      rw [if_neg (by decide)] at h
      exact k0 _ _ _ _ _ h H1 locs1 la (es ▸ hP1) (es ▸ hD1) hS1 hl
  · exact h.elim
theorem s_cpyR {index : Nat} (C0 : tk_C X cc nL own Ts) (E0 : tk_End Z X d mc ms ret QR QX) (hcs : ∀ (c : Nat) (r : vw_C), vwCl[c]? = some r → Cond.castable r.1 "java/lang/Object" ∈ tk_N) (h1 : Cond.methodLink own index arraycopyName ∈ Ts) (h2 : Cond.native arraycopyName ∈ Ts) (h3 : Cond.static arraycopyName ∈ Ts) (h4 : Cond.initialized "java/lang/System" ∈ Ts) (hd : decode cc pc = .ok (.invokestatic index, 3)) (h : i_cpyR d K ls st S cs ss) (k0 : ∀ ls st S cs ss, K ls st S cs ss → tk_W X nL (pc + 3) ls st S cs ss) : tk_W X nL pc ls st S cs ss := by
  obtain ⟨p, l, e, R, s, m, args, below, meth, c0, D, Y, V, A, Q⟩ := X
  obtain ⟨hx, hb, hml, hown, hts, hK, hA, hlk, hO⟩ := C0
  obtain ⟨hR, -, hZ, -⟩ := E0
  intro H locs la hP hD hS hl
  unfold i_cpyR at h
  split at h
  · rename_i n dp b sp a r
    obtain ⟨hd1, hc8, ha, hbL, hKa, hKb, z1, z2, z3, z4, z5, ⟨k, hk14, hel⟩, h⟩ := h
    obtain ⟨ja, hja⟩ := tk_get (Y := Y) ha
    rw [tk_ent_r hKa] at hja
    obtain ⟨jb, hjb0⟩ := tk_get (Y := Y) hbL
    have hjb := hjb0
    rw [tk_ent_r hKb] at hjb
    have hr0 : ∃ r0, vwCl[k]? = some r0 := ⟨vwCl[k]'(by show k < 14; exact hk14), List.getElem?_eq_getElem _⟩
    obtain ⟨r0, hr0⟩ := hr0
    obtain ⟨f0, t0, f1, f2, f3⟩ := Cond.castable_spec (va_Nw.use (A := args) rfl (hO.2.2.2.2.2.2 _ (hcs _ _ hr0)))
    refine va_copyq (C := r0.1) hx hb (hml.trans hl.1.symm) hown (hts _ h1) (hts _ h2) (hts _ h3) (hts _ h4) hK hP hD hS ja jb 4 4 hja hjb rfl rfl z1 z2 z3 z4 z5 (fun i hi y hy => ?_) (fun comp c1 g1 g2 => ?_) (Nat.le_trans hd1 hR.1) ?_ hd (fun H1 locs1 hP1 hD1 hS1 => ?_)
    · obtain ⟨hyL, hyK⟩ := hel i hi y hy
      obtain ⟨jy, hjy⟩ := tk_get (Y := Y) hyL
      rw [tk_ent_o hyK hk14] at hjy
      exact va_recv hK hP hr0 hjy
    · cases g2.symm.trans f1
      cases g1.symm.trans f2
      exact f3
    · have hw : nativeFrameWords "java/lang/System" "arraycopy" 5 ≤ 20 := by decide
      have h9 := hR.2.1
      omega
    · have es := tk_set (S' := s_aR S b (va_cpy (q_aR S a) (q_aR S b) sp.toNatClampNeg dp.toNatClampNeg n.toNatClampNeg)) hD hbL hjb0 rfl (tk_ent_saR hKb)
      exact k0 _ _ _ _ _ h H1 locs1 la (es ▸ hP1) (es ▸ hD1) hS1 hl
  · exact h.elim
theorem s_getC {index : Nat} (C0 : tk_C X cc nL own Ts) (E0 : tk_End Z X d mc ms ret QR QX) (h1 : Cond.methodLink own index ⟨"java/lang/Object", "getClass", "()Ljava/lang/Class;"⟩ ∈ Ts) (h2 : Cond.selects "[Ljava/lang/Object;" ⟨"java/lang/Object", "getClass", "()Ljava/lang/Class;"⟩ ⟨"java/lang/Object", "getClass", "()Ljava/lang/Class;"⟩ ∈ Ts) (h3 : Cond.instanceMethod ⟨"java/lang/Object", "getClass", "()Ljava/lang/Class;"⟩ ∈ Ts) (h4 : Cond.native ⟨"java/lang/Object", "getClass", "()Ljava/lang/Class;"⟩ ∈ Ts) (hd : decode cc pc = .ok (.invokevirtual index, 3)) (h : i_getC Z d K ls st S cs ss) (k0 : ∀ ls st S cs ss, K ls st S cs ss → tk_W X nL (pc + 3) ls st S cs ss) : tk_W X nL pc ls st S cs ss := by
  obtain ⟨p, l, e, R, s, m, args, below, meth, c0, D, Y, V, A, Q⟩ := X
  obtain ⟨hx, hb, hml, hown, hts, hK, hA, hlk, hO⟩ := C0
  obtain ⟨hR, -, hZ, -⟩ := E0
  subst hZ
  intro H locs la hP hD hS hl
  unfold i_getC at h
  split at h
  · rename_i a r
    obtain ⟨hd1, hc8, ha, hKa, h⟩ := h
    obtain ⟨ja, hja⟩ := tk_get (Y := Y) ha
    rw [tk_ent_r hKa] at hja
    refine va_getC hx hb (hml.trans hl.1.symm) hown (hts _ h1) (va_Dc.use hO.2.2.2.2.1.2.2.2.2.1) (hts _ h2) (hts _ h3) (hts _ h4) hO.2.2.2.2.1.2.2.2.1 ⟨_, hP ja _ hja, rfl, va_nmO (hK.2 4 (Y 18, .object "java/lang/Object") rfl).2 rfl⟩ (Nat.le_trans hd1 hR.1) ?_ hd (k0 _ _ _ _ _ h H locs la hP hD hS hl)
    have h9 := hR.2.1
    omega
  · exact h.elim
theorem s_ldcM {index : Nat} (C0 : tk_C X cc nL own Ts) (E0 : tk_End Z X d mc ms ret QR QX) (h1 : Cond.classLink own index "[Ljava/lang/Object;" ∈ Ts) (hd : decode cc pc = .ok (.ldc index, 2)) (h : i_push (.ref Z.2.2.2.2.2.2) K ls st S cs ss) (k0 : ∀ ls st S cs ss, K ls st S cs ss → tk_W X nL (pc + 2) ls st S cs ss) : tk_W X nL pc ls st S cs ss := by
  obtain ⟨p, l, e, R, s, m, args, below, meth, c0, D, Y, V, A, Q⟩ := X
  obtain ⟨hx, hb, hml, hown, hts, hK, hA, hlk, hO⟩ := C0
  obtain ⟨hR, -, hZ, -⟩ := E0
  subst hZ
  intro H locs la hP hD hS hl
  exact va_ldcM hx hb hown (hts _ h1) hO.2.2.2.2.1.2.2.2.1 hd (k0 _ _ _ _ _ h H locs la hP hD hS hl)
theorem s_castA {index : Nat} (C0 : tk_C X cc nL own Ts) (h1 : Cond.classLink own index "[Ljava/lang/Object;" ∈ Ts) (hd : decode cc pc = .ok (.checkcast index, 3)) (h : i_castA K ls st S cs ss) (k0 : ∀ ls st S cs ss, K ls st S cs ss → tk_W X nL (pc + 3) ls st S cs ss) : tk_W X nL pc ls st S cs ss := by
  obtain ⟨p, l, e, R, s, m, args, below, meth, c0, D, Y, V, A, Q⟩ := X
  obtain ⟨hx, hb, hml, hown, hts, hK, hA, hlk, hO⟩ := C0
  intro H locs la hP hD hS hl
  unfold i_castA at h
  split at h
  · rename_i a r
    obtain ⟨ha, hKa, h⟩ := h
    obtain ⟨ja, hja⟩ := tk_get (Y := Y) ha
    rw [tk_ent_r hKa] at hja
    exact va_castA hx hb hown (hts _ h1) hP ja hja (va_nmO (hK.2 4 (Y 18, .object "java/lang/Object") rfl).2 rfl) hd (k0 _ _ _ _ _ h H locs la hP hD hS hl)
  · exact h.elim
theorem s_sval {index : Nat} (C0 : tk_C X cc nL own Ts) (E0 : tk_End Z X d mc ms ret QR QX) (h1 : Cond.fieldLink own index "java/lang/String" "value" "[B" ∈ Ts) (hd : decode cc pc = .ok (.getfield index, 3)) (h : i_sval Z K ls st S cs ss) (k0 : ∀ ls st S cs ss, K ls st S cs ss → tk_W X nL (pc + 3) ls st S cs ss) : tk_W X nL pc ls st S cs ss := by
  obtain ⟨p, l, e, R, s, m, args, below, meth, c0, D, Y, V, A, Q⟩ := X
  obtain ⟨hx, hb, hml, hown, hts, hK, hA, hlk, hO⟩ := C0
  obtain ⟨hR, -, hZ, -⟩ := E0
  subst hZ
  intro H locs la hP hD hS hl
  unfold i_sval at h
  split at h
  · obtain ⟨i, hi, rfl, h⟩ := h
    exact vk_getf hx hb (hO.2.2.2.2.1.1 i hi).2.2.1 hS hown (hts _ h1) (fun _ h => h) hd (k0 _ _ _ _ _ h H locs la hP hD hS hl)
  · exact h.elim
theorem s_scod {index : Nat} (C0 : tk_C X cc nL own Ts) (E0 : tk_End Z X d mc ms ret QR QX) (h1 : Cond.fieldLink own index "java/lang/String" "coder" "B" ∈ Ts) (hd : decode cc pc = .ok (.getfield index, 3)) (h : i_scod Z K ls st S cs ss) (k0 : ∀ ls st S cs ss, K ls st S cs ss → tk_W X nL (pc + 3) ls st S cs ss) : tk_W X nL pc ls st S cs ss := by
  obtain ⟨p, l, e, R, s, m, args, below, meth, c0, D, Y, V, A, Q⟩ := X
  obtain ⟨hx, hb, hml, hown, hts, hK, hA, hlk, hO⟩ := C0
  obtain ⟨hR, -, hZ, -⟩ := E0
  subst hZ
  intro H locs la hP hD hS hl
  unfold i_scod at h
  split at h
  · obtain ⟨i, hi, rfl, h⟩ := h
    exact vk_getf hx hb (hO.2.2.2.2.1.1 i hi).2.1 hS hown (hts _ h1) (fun _ h => h) hd (k0 _ _ _ _ _ h H locs la hP hD hS hl)
  · exact h.elim
theorem s_slen (C0 : tk_C X cc nL own Ts) (E0 : tk_End Z X d mc ms ret QR QX) (hd : decode cc pc = .ok (.arraylength, 1)) (h : i_slen Z K ls st S cs ss) (k0 : ∀ ls st S cs ss, K ls st S cs ss → tk_W X nL (pc + 1) ls st S cs ss) : tk_W X nL pc ls st S cs ss := by
  obtain ⟨p, l, e, R, s, m, args, below, meth, c0, D, Y, V, A, Q⟩ := X
  obtain ⟨hx, hb, hml, hown, hts, hK, hA, hlk, hO⟩ := C0
  obtain ⟨hR, -, hZ, -⟩ := E0
  subst hZ
  intro H locs la hP hD hS hl
  unfold i_slen at h
  split at h
  · obtain ⟨i, hi, rfl, h⟩ := h
    exact va_tlen hx hb (hO.2.2.2.2.1.1 i hi).2.2.2 hS rfl hd (k0 _ _ _ _ _ h H locs la hP hD hS hl)
  · exact h.elim
theorem s_sbald (C0 : tk_C X cc nL own Ts) (E0 : tk_End Z X d mc ms ret QR QX) (hd : decode cc pc = .ok (.baload, 1)) (h : i_sbald Z K ls st S cs ss) (k0 : ∀ ls st S cs ss, K ls st S cs ss → tk_W X nL (pc + 1) ls st S cs ss) : tk_W X nL pc ls st S cs ss := by
  obtain ⟨p, l, e, R, s, m, args, below, meth, c0, D, Y, V, A, Q⟩ := X
  obtain ⟨hx, hb, hml, hown, hts, hK, hA, hlk, hO⟩ := C0
  obtain ⟨hR, -, hZ, -⟩ := E0
  subst hZ
  intro H locs la hP hD hS hl
  unfold i_sbald at h
  split at h
  · obtain ⟨i, hi, rfl, hin, h⟩ := h
    exact va_tb hx hb (hO.2.2.2.2.1.1 i hi).2.2.2 hS hin rfl hd (k0 _ _ _ _ _ h H locs la hP hD hS hl)
  · exact h.elim
/-- a call on a String constant -/
def i_callVS (Z : tk_Z) (y : tk_Y) (n d mc ms : Nat) : tk_K → tk_K := fun K ls st S cs ss => n ≤ st.length ∧ (match st.drop n with
  | .ref b :: r => (∃ i, i < tk_nS ∧ b = Z.2.2.2.1 i) ∧ (r.map fun v => v.category).sum ≤ 8 ∧ ∃ d1 mc1 ms1, d1 < d ∧ cs + mc1 ≤ mc ∧ ss + ms1 ≤ ms ∧ tk_M Z y d1 mc1 ms1 (.ref b :: (st.take n).reverse) S (fun v S' => K ls (v.toList ++ r) S' (cs + mc1) (ss + ms1)) tk_noX
  | _ => False)
theorem s_callVS {y0 y : tk_Y} {n index : Nat} (C0 : tk_C X cc nL own (tk_ws y0)) (E0 : tk_End Z X d mc ms ret QR QX) (hy : tk_code y ∈ tk_G) (hm : y.2.2.1 ≤ 20) (h1 : Cond.methodLink own index y.1 ∈ tk_G) (h2 : Cond.instanceMethod y.1 ∈ tk_G) (h3 : Cond.initialized y.1.cls ∈ tk_G) (h4 : Cond.selects "java/lang/String" y.1 y.1 ∈ tk_G)
    (hn : y.1.cls ≠ "java/lang/invoke/MethodHandle" ∧ y.1.cls ≠ "java/lang/invoke/VarHandle" ∧ (parseMethodDescriptor y.1.desc).map (fun d => d.parameters.length) = some n) (hd : decode cc pc = .ok (.invokevirtual index, 3))
    (h : i_callVS Z y n d mc ms K ls st S cs ss) (k0 : ∀ ls st S cs ss, K ls st S cs ss → tk_W X nL (pc + 3) ls st S cs ss) : tk_W X nL pc ls st S cs ss := by
  obtain ⟨p, l, e, R, s, m, args, below, meth, c0, D, Y, V, A, Q⟩ := X
  obtain ⟨hx, hb, hml, hown, hts, hK, hA, hlk, hO⟩ := C0
  obtain ⟨hR, -, hZ, -⟩ := E0
  subst hZ
  intro H locs la hP hD hS hl
  obtain ⟨ha, h⟩ := h
  obtain ⟨e1, e2⟩ := tk_args st n ha
  split at h
  · rename_i b r hbr
    rw [hbr] at e1
    obtain ⟨⟨i, hi, rfl⟩, hc, d1, mc1, ms1, hd1, hc1, hs1, hM⟩ := h
    have cb : CallB R s args own index y.1 y.2.1 y.2.2.1 y.2.2.2 (tk_ws y) (tk_rm d1 mc1 ms1) mc1 ms1 n := callB_of n hts (tk_good y0 y hy) rfl rfl rfl (hts _ (List.mem_cons_of_mem _ h3)) (hts _ (List.mem_cons_of_mem _ h1)) hn (tk_room hR hd1 hm)
    have hrv : ∃ cell : Cell, H[V.1 i]? = some cell ∧ cell.vm.isStatics = false ∧ s.vm.findClass "java/lang/String" = some cell.cls := by
      obtain ⟨cell, z1, z2, z3, -⟩ := (hO.2.2.2.2.1.1 i hi).1.kept hS.2.1
      exact ⟨cell, z1, z2, z3⟩
    refine tk_after (va_runV (As := (st.take n).reverse) (rest := r) ⟨hx, hb, hml, hown, hts⟩ (hM.met H.size) ⟨cb, hts _ (List.mem_cons_of_mem _ h2), hts _ (List.mem_cons_of_mem _ h4)⟩ ⟨tk_blind, hrv, fun U hU hW => ⟨rfl, by rw [hU], ⟨by rw [hU]; exact hP, va_K.moved hW.alike hK, hD.weaken (fun _ _ _ _ => trivial)⟩, hO.call hS (tk_hF hD hS hA) hU hW⟩⟩ rfl e2 hl.1 e1 (lv_room hc) hd ⟨Nat.le_trans hc1 hR.2.2.1, Nat.le_trans hs1 hR.2.2.2⟩) hD hS hA (fun v S' H1 locs1 hq hP1 hD1 hS1 => ?_)
    exact k0 _ _ _ _ _ hq H1 locs1 la hP1 hD1 hS1 hl
  · exact h.elim
end JDK

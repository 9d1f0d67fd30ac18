/-! a String constant by a wide index -/
theorem s_ldcSW {Z : tk_Z} {X : tk_X} {cc : ByteArray} {nL : Nat} {own : String} {Ts : List Cond} {pc : Nat} {ls : List (Option Value)} {st : List Value} {S : tk_S} {cs ss : Nat} {K : tk_K} {d mc ms : Nat} {ret : Option FieldType} {QR : Option Value → tk_S → Prop} {QX : String → tk_S → Prop} {index i : Nat} {tx : String} (C0 : tk_C X cc nL own Ts) (E0 : tk_End Z X d mc ms ret QR QX) (hi : i < tk_nS) (h1 : tk_sO.getD i "" = own) (h2 : tk_sI.getD i 0 = index) (h3 : tk_sT.getD i "" = tx) (hd : decode cc pc = .ok (.ldc_w index, 3))
    (h : i_push (.ref (Z.2.2.2.1 i)) K ls st S cs ss) (k0 : ∀ ls st S cs ss, K ls st S cs ss → tk_W X nL (pc + 3) ls st S cs ss) : tk_W X nL pc ls st S cs ss := by
  obtain ⟨p, l, e, R, s, m, args, below, meth, c0, D, Y, V, A, Q⟩ := X
  obtain ⟨hx, hb, hml, hown, hts, hK, hA, hlk, hO⟩ := C0
  obtain ⟨hR, -, hZ, -⟩ := E0
  subst hZ
  intro H locs la hP hD hS hl
  have hr := hO.2.2.2.2.2.1 i hi
  rw [h1, h2, h3] at hr
  intro T hT X0
  obtain ⟨t, a1, b1⟩ := k0 _ _ _ _ _ h H locs la hP hD hS hl T hT X0
  exact ⟨t, X0.ldcStringW hx hown (text := tx) hr.1 hr.2 (g := F0 m pc la st) rfl (by rw [hb]; exact hd) t a1, b1⟩
theorem s_tsw2 {X : tk_X} {cc : ByteArray} {nL : Nat} {own : String} {Ts : List Cond} {pc : Nat} {ls : List (Option Value)} {st : List Value} {S : tk_S} {cs ss : Nat} {lo hi dflt : Int} {offs : Array Int} {len dt : Nat} {Ks : List (Int32 × tk_K)} {Kd : tk_K} (C0 : tk_C X cc nL own Ts) (hd : decode cc pc = .ok (.tableswitch dflt lo hi offs, len)) (hdt : (pc : Int) + dflt = (dt : Int)) (h : i_tsw Ks Kd ls st S cs ss)
    (h1 : lo + offs.size = hi + 1) (h2 : Ks.length = offs.size) (h3 : -1000 ≤ lo ∧ hi ≤ 1000) (hT : tk_TS X nL pc lo offs 0 Ks) (kd : ∀ ls st S cs ss, Kd ls st S cs ss → tk_W X nL dt ls st S cs ss) : tk_W X nL pc ls st S cs ss := s_tsw C0 hd ⟨⟨h1, h2⟩, h3⟩ hdt hT h kd

/-! THE WORLD AT THE LAW'S ENTRY, out of what the Statement gives -/
section WORLD
variable {s : State} {b : Nat}
theorem tk_Gt {w : Cond} (h : w ∈ tk_G) : w ∈ lw_tbl := (List.mem_filter.mp h).1
theorem wo_K (hts : ∀ w ∈ lw_tbl, w.before #[Value.ref b] s = true) : ∃ (D : va_G) (Y : Nat → ClassId), va_K D vwCl (tk_tys Y) s := by
  obtain ⟨c0, i0, k0⟩ := u_known hts (fun w hw => tk_Gt (in_0 w hw)) (hts _ (tk_Gt wd_219))
  obtain ⟨c1, i1, k1⟩ := u_known hts (fun w hw => tk_Gt (in_1 w hw)) (hts _ (tk_Gt wd_405))
  obtain ⟨c2, i2, k2⟩ := u_known hts (fun w hw => tk_Gt (in_2 w hw)) (hts _ (tk_Gt wd_1117))
  obtain ⟨c3, i3, k3⟩ := u_known hts (fun w hw => tk_Gt (in_3 w hw)) (hts _ (tk_Gt wd_188))
  obtain ⟨c4, i4, k4⟩ := u_known hts (fun w hw => tk_Gt (in_4 w hw)) (hts _ (tk_Gt wd_568))
  obtain ⟨c5, i5, k5⟩ := u_known hts (fun w hw => tk_Gt (in_5 w hw)) (hts _ (tk_Gt wd_1089))
  obtain ⟨c6, i6, k6⟩ := u_known hts (fun w hw => tk_Gt (in_6 w hw)) (hts _ (tk_Gt wd_781))
  obtain ⟨c7, i7, k7⟩ := u_known hts (fun w hw => tk_Gt (in_7 w hw)) (hts _ (tk_Gt wd_1181))
  obtain ⟨c8, i8, k8⟩ := u_known hts (fun w hw => tk_Gt (in_8 w hw)) (hts _ (tk_Gt wd_113))
  obtain ⟨c9, i9, k9⟩ := u_known hts (fun w hw => tk_Gt (in_9 w hw)) (hts _ (tk_Gt wd_158))
  obtain ⟨c10, i10, k10⟩ := u_known hts (fun w hw => tk_Gt (in_10 w hw)) (hts _ (tk_Gt wd_737))
  obtain ⟨c11, i11, k11⟩ := u_known hts (fun w hw => tk_Gt (in_11 w hw)) (hts _ (tk_Gt wd_847))
  obtain ⟨c12, i12, k12⟩ := u_known hts (fun w hw => tk_Gt (in_12 w hw)) (hts _ (tk_Gt wl_105))
  obtain ⟨c13, i13, k13⟩ := u_known hts (fun w hw => tk_Gt (in_13 w hw)) (hts _ (tk_Gt wl_1265))
  have h0 : ∀ c : Nat, ∃ z : ClassId × (Nat → Nat), ∀ q : vw_C, vwCl[c]? = some q → u_Kn s q.1 q.2.1 q.2.2 z.1 z.2 := by
    intro c
    match c with
    | 0 => exact ⟨(c0, i0), fun q hq => by cases hq; exact k0⟩
    | 1 => exact ⟨(c1, i1), fun q hq => by cases hq; exact k1⟩
    | 2 => exact ⟨(c2, i2), fun q hq => by cases hq; exact k2⟩
    | 3 => exact ⟨(c3, i3), fun q hq => by cases hq; exact k3⟩
    | 4 => exact ⟨(c4, i4), fun q hq => by cases hq; exact k4⟩
    | 5 => exact ⟨(c5, i5), fun q hq => by cases hq; exact k5⟩
    | 6 => exact ⟨(c6, i6), fun q hq => by cases hq; exact k6⟩
    | 7 => exact ⟨(c7, i7), fun q hq => by cases hq; exact k7⟩
    | 8 => exact ⟨(c8, i8), fun q hq => by cases hq; exact k8⟩
    | 9 => exact ⟨(c9, i9), fun q hq => by cases hq; exact k9⟩
    | 10 => exact ⟨(c10, i10), fun q hq => by cases hq; exact k10⟩
    | 11 => exact ⟨(c11, i11), fun q hq => by cases hq; exact k11⟩
    | 12 => exact ⟨(c12, i12), fun q hq => by cases hq; exact k12⟩
    | 13 => exact ⟨(c13, i13), fun q hq => by cases hq; exact k13⟩
    | c + 14 => exact ⟨(c0, i0), fun q hq => by simp at hq⟩
  obtain ⟨f, hf⟩ := Classical.axiomOfChoice h0
  obtain ⟨a1, b1, e1, f1, g1, h1⟩ := Cond.arrayClass_spec (hts _ (tk_Gt wd_155))
  obtain ⟨a2, b2, e2, f2, g2, h2⟩ := Cond.arrayClass_spec (hts _ (tk_Gt wd_156))
  obtain ⟨a3, b3, e3, f3, g3, h3⟩ := Cond.arrayClass_spec (hts _ (tk_Gt wd_217))
  obtain ⟨a4, b4, e4, f4, g4, h4⟩ := Cond.arrayClass_spec (hts _ (tk_Gt wd_1457))
  obtain ⟨e5, a5, b5, f5, -, g5, h5, j5⟩ := Cond.arrayOver_spec (hts (.arrayOver (.object "java/lang/Object")) (by decide +kernel))
  refine ⟨(fun c => (f c).1, fun c => (f c).2), fun j => if j = 14 then a1 else if j = 15 then a2 else if j = 16 then a3 else if j = 17 then a4 else a5, fun c q hq => hf c q hq, fun k q hq => ?_⟩
  match k with
  | 0 => cases hq; exact ⟨fun n z => ⟨fun k h => (by cases h), b1, g1, e1, h1⟩, f1⟩
  | 1 => cases hq; exact ⟨fun n z => ⟨fun k h => (by cases h), b2, g2, e2, h2⟩, f2⟩
  | 2 => cases hq; exact ⟨fun n z => ⟨fun k h => (by cases h), b3, g3, e3, h3⟩, f3⟩
  | 3 => cases hq; exact ⟨fun n z => ⟨fun k h => (by cases h), b4, g4, e4, h4⟩, f4⟩
  | 4 => cases hq; exact ⟨fun n z => ⟨fun k h => (by cases h), b5, g5, e5, h5⟩, b5, e5, g5, h5, f5, j5⟩
  | k + 5 => simp [tk_tys] at hq
/-- the String constants' premises, constant by constant -/
def tk_tmS (i : Nat) : Term := .string (tk_sO.getD i "") (tk_sI.getD i 0)
def tk_vaS (i : Nat) : Term := .field (tk_tmS i) "java/lang/String" "value" "[B"
def tk_blk (i : Nat) : List Cond := .exactly (tk_tmS i) "java/lang/String" :: .eq (.field (tk_tmS i) "java/lang/String" "code\x72" "B") (.int 0) :: .arrayOf (tk_vaS i) .byte :: .eq (.length (tk_vaS i)) (.int (Int32.ofNat (tk_sB.getD i []).length)) :: (List.range (tk_sB.getD i []).length).map (fun j => .eq (.elem (tk_vaS i) (.int (Int32.ofNat j))) (.int ((tk_sB.getD i []).getD j 0)))
theorem tk_blk_ok : (List.range tk_nS).flatMap tk_blk = (flatC (Jvm.Cond.and given_1 narrow_1)).drop 64 := by decide +kernel
theorem tk_blk_in {i : Nat} (hi : i < tk_nS) {w : Cond} (h : w ∈ tk_blk i) : w ∈ flatC (Jvm.Cond.and given_1 narrow_1) := by
  refine List.mem_of_mem_drop (i := 64) ?_
  rw [← tk_blk_ok]
  exact List.mem_flatMap.mpr ⟨i, List.mem_range.mpr hi, h⟩
theorem tk_blk_len : ∀ i, i < tk_nS → (tk_sB.getD i []).length < 1000 := by decide +kernel
theorem wo_S {A : Nat → Prop} (hs : ∀ w ∈ flatC (Jvm.Cond.and given_1 narrow_1), w.before #[Value.ref b] s = true) (hA : ∀ a : Nat, a < s.heap.size → ¬ A a) : ∃ adK adV : Nat → Nat, ∀ i, i < tk_nS → (tk_tmS i).eval #[Value.ref b] s none [] s = some (.ref (adK i)) ∧ va_O "java/lang/String" (adK i) A s s.heap ∧ va_OF "java/lang/String" "code\x72" "B" (.int 0) (adK i) A s s.heap ∧ va_OF "java/lang/String" "value" "[B" (.ref (adV i)) (adK i) A s s.heap ∧ va_T .byte (adV i) (tk_sB.getD i []).length (fun j => .int ((tk_sB.getD i []).getD j 0)) A s s.heap := by
  have h0 : ∀ i : Nat, ∃ q : Nat × Nat, i < tk_nS → (tk_tmS i).eval #[Value.ref b] s none [] s = some (.ref q.1) ∧ va_O "java/lang/String" q.1 A s s.heap ∧ va_OF "java/lang/String" "code\x72" "B" (.int 0) q.1 A s s.heap ∧ va_OF "java/lang/String" "value" "[B" (.ref q.2) q.1 A s s.heap ∧ va_T .byte q.2 (tk_sB.getD i []).length (fun j => .int ((tk_sB.getD i []).getD j 0)) A s s.heap := by
    intro i
    by_cases hi : i < tk_nS
    · have w0 := hs _ (tk_blk_in hi (w := .exactly (tk_tmS i) "java/lang/String") List.mem_cons_self)
      have w1 := hs _ (tk_blk_in hi (w := .eq (.field (tk_tmS i) "java/lang/String" "code\x72" "B") (.int 0)) (List.mem_cons_of_mem _ List.mem_cons_self))
      have w2 := hs _ (tk_blk_in hi (w := .arrayOf (tk_vaS i) .byte) (List.mem_cons_of_mem _ (List.mem_cons_of_mem _ List.mem_cons_self)))
      have w3 := hs _ (tk_blk_in hi (w := .eq (.length (tk_vaS i)) (.int (Int32.ofNat (tk_sB.getD i []).length))) (List.mem_cons_of_mem _ (List.mem_cons_of_mem _ (List.mem_cons_of_mem _ List.mem_cons_self))))
      have w4 : ∀ j, j < (tk_sB.getD i []).length → (Cond.eq (.elem (tk_vaS i) (.int (Int32.ofNat j))) (.int ((tk_sB.getD i []).getD j 0))).before #[Value.ref b] s = true := fun j hj => hs _ (tk_blk_in hi (List.mem_cons_of_mem _ (List.mem_cons_of_mem _ (List.mem_cons_of_mem _ (List.mem_cons_of_mem _ (List.mem_map.mpr ⟨j, List.mem_range.mpr hj, rfl⟩))))))
      obtain ⟨a, c, cA, kA, q1, q2, q3, q4, q5, q6, -⟩ := Cond.exactly_spec (args := #[Value.ref b]) (first := s) (o := none) (s := s) (idx := []) (t := tk_tmS i) (cls := "java/lang/String") w0
      obtain ⟨t, ht, hT⟩ := va_Tof (f := fun j => .int ((tk_sB.getD i []).getD j 0)) (A := A) (Nat.lt_trans (tk_blk_len i hi) (by decide)) w2 (va_eqt w3) (fun j hj => va_eqt (w4 j hj)) hA
      exact ⟨(a, t), fun _ => ⟨q1, ⟨cA, q3, q5, by rw [q6]; exact q2, hA a (Array.getElem?_eq_some_iff.mp q3).1⟩, vk_OFof q1 (va_eqt w1) hA, vk_OFof q1 ht hA, hT⟩⟩
    · exact ⟨(0, 0), fun h => absurd h hi⟩
  obtain ⟨ad, had⟩ := Classical.axiomOfChoice h0
  exact ⟨fun i => (ad i).1, fun i => (ad i).2, fun i hi => had i hi⟩
theorem tk_ref_in : ∀ i, i < tk_nS → Cond.stringRef (tk_sO.getD i "") (tk_sI.getD i 0) (tk_sT.getD i "") ∈ lw_tbl := by decide +kernel
theorem wo_O (hts : ∀ w ∈ lw_tbl, w.before #[Value.ref b] s = true) (hgv : (Jvm.Cond.and given_1 narrow_1).before #[Value.ref b] s = true) : ∃ V : tk_V, tk_O V (fun q => s.heap.size ≤ q) s s.heap := by
  have hs := flat_of_before _ hgv
  have hA : ∀ a : Nat, a < s.heap.size → ¬ (fun q : Nat => s.heap.size ≤ q) a := fun a h => Nat.not_le.mpr h
  obtain ⟨adK, adV, hS⟩ := wo_S hs hA
  obtain ⟨t, ht, hT⟩ := va_Tof (tm := .static "java/util/ArrayList" "DEFAULTCAPACITY_EMPTY_ELEMENTDATA" "[Ljava/lang/Object;") (ty := .object "java/lang/Object") (N := 0) (f := fun _ => .null) (by decide) (hs _ (by decide +kernel)) (va_eqt (hs (.eq (.length (.static "java/util/ArrayList" "DEFAULTCAPACITY_EMPTY_ELEMENTDATA" "[Ljava/lang/Object;")) (.int 0)) (by decide +kernel))) (fun j hj => absurd hj (Nat.not_lt_zero _)) hA
  obtain ⟨mi, hmi⟩ := va_Mi.of (hs (.isRef (.mirror "[Ljava/lang/Object;")) (by decide +kernel))
  refine ⟨(adK, adV, t, mi), ?_, ?_, ?_, hT, ⟨fun i hi => (hS i hi).2, ?_, ?_, hmi, ?_, ?_, ?_⟩, fun i hi => vk_R.of (hts _ (tk_ref_in i hi)) (hS i hi).1, fun w hw => va_Nw.of (tk_N_tab (List.mem_filter.mp hw).2) (hts w (List.mem_filter.mp hw).1)⟩
  · exact vx_Zqof (hts _ (by decide +kernel)) (hts _ (by decide +kernel)) (hs _ (by decide +kernel)) hA
  · exact vx_Zqof (hts _ (by decide +kernel)) (hts _ (by decide +kernel)) (hs _ (by decide +kernel)) hA
  · exact va_Zof (hts _ (by decide +kernel)) (hts _ (by decide +kernel)) ht hA
  · exact va_Zof (hts _ (by decide +kernel)) (hts _ (by decide +kernel)) (va_eqi (hs _ (by decide +kernel))) hA
  · exact va_AO.of (hts (.arrayOver (.object "java/lang/Object")) (by decide +kernel))
  · exact va_Dc.of (hts (.declares ⟨"java/lang/Object", "getClass", "()Ljava/lang/Class;"⟩) (by decide +kernel))
  · exact va_Zqof (hts _ (by decide +kernel)) (hts _ (by decide +kernel)) (hs _ (by decide +kernel)) hA
  · have nc : ∀ q ∈ tk_ncs, Cond.not (.castable q.1 q.2) ∈ flatC (Jvm.Cond.and given_1 narrow_1) := by decide +kernel
    exact fun q hq => va_Nc.of (hs _ (nc q hq))
end WORLD

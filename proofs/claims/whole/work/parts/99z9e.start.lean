/-! FROM THE LAW'S ENTRY TO ITS END -/
section START
theorem whole_start {p : Program} {e : Env} {s : State} {m : MethodId} {below : List Frame} {meth : Method} {c : Code} (l : Launch) (hflags : l.flags = flags0) {b L : Nat} {xs : Nat → Int32} (hL : L ≤ 3072) (C0 : lw_At p s m meth c b L xs) : W p l e room_1 s m #[Value.ref b] below meth c s.heap [] 0 0 (lw_Z below #[Value.ref b] s) (entryFrame m ([Value.ref b] : List Value).toArray 8) := by
  obtain ⟨hx, hb, hr, hml, hown, hts, hX, hbl, hlocks, hgv⟩ := C0
  obtain ⟨D, Y, hK⟩ := wo_K hts
  obtain ⟨V, hO⟩ := wo_O hts hgv
  have hst : l.stackTraces = false := by
    unfold Launch.stackTraces
    rw [hflags]
    decide +kernel
  have hws : ∀ w ∈ tk_ws mX12_thrown, w.before #[Value.ref b] s = true := fun w hw => by
    rcases List.mem_cons.mp hw with rfl | hw
    · exact hts _ (tk_Gt wl_1461)
    · exact hts _ (tk_Gt hw)
  have hE := c_Law (Z := (l, D, Y, V)) (X := (p, l, e, room_1, s, m, #[Value.ref b], below, meth, c, D, Y, V, (fun q : Nat => s.heap.size ≤ q), lw_Z below #[Value.ref b] s)) (d := 2000) (mc := 601024) (ms := 7293034) (b := b) (L := L) (xs := xs) ⟨hx, hb, hml, hown, hws, hK, fun _ h => h, hlocks, hO⟩ ⟨⟨by decide, by decide, by decide, by decide⟩, rfl⟩ ⟨rfl, rfl, rfl, rfl, hr, hX, hbl⟩
  have g := law_start hE rfl rfl rfl hst hL
  have e0 : tk_pl Y S00 = [] := rfl
  have hP : va_P D vwCl (tk_pl Y S00) s.heap := by
    rw [e0]
    exact fun k q h => by simp at h
  have hD : va_D (fun q : Nat => s.heap.size ≤ q) (tk_pl Y S00) := by
    rw [e0]
    exact ⟨fun i j p q h => by simp at h, fun k q h => by simp at h⟩
  rw [lg_entry_eq]
  exact g s.heap [] _ hP hD va_S.rf (tk_HL_entry (av := [Value.ref b]) (nL := 8) (Nat.le_of_ble_eq_true rfl))
end START

/-! THE TRUST'S OWN METHODS: leases -/
section PRIV3
variable {Z : tk_Z} {d mc ms : Nat} {S : tk_S} {QR : tk_R}
abbrev mJ : Type := Nat × Int64 × (Nat → Int32) × (Nat → Int32) × (Nat → Int32) × (Nat → Int64) × (Nat → Int64)
def cJ' (ρ : Nat → Nat) (S : tk_S) (x : Nat) (J : mJ) : Prop := cJ ρ S x J.1 J.2.1 J.2.2.1 J.2.2.2.1 J.2.2.2.2.1 J.2.2.2.2.2.1 J.2.2.2.2.2.2
/-- a line more -/
def lineM (J : mJ) (a b c : Int32) (amt : Int64) : mJ := (J.1 + 1, J.2.1 + amt, upd J.2.2.1 J.1 a, upd J.2.2.2.1 J.1 b, upd J.2.2.2.2.1 J.1 c, vp_updL J.2.2.2.2.2.1 J.1 amt, vp_updL J.2.2.2.2.2.2 J.1 (J.2.1 + amt))
abbrev mK : Type := (Nat → Int64) × (Nat → Option Nat) × (Nat → Nat) × (Nat → Nat) × mJ
/-- what is due today of gate i, let to f -/
def keepM (td : Nat) (re su : Nat → Int32) (i f : Nat) (k : mK) : mK :=
  if k.2.2.2.1 i = 0 then (vp_updL k.1 f (k.1 f + (su i).toInt64), va_up k.2.1 i none, k.2.2.1, k.2.2.2.1, k.2.2.2.2)
  else if k.1 f < (re i).toInt64 then (k.1, va_up k.2.1 i none, k.2.2.1, k.2.2.2.1, lineM k.2.2.2.2 (nI td) 2 (nI i) (su i).toInt64)
  else (vp_updL k.1 f (k.1 f - (re i).toInt64), k.2.1, va_up k.2.2.1 i (k.2.2.1 i + 91), va_up k.2.2.2.1 i (k.2.2.2.1 i - 1), lineM k.2.2.2.2 (nI td) 1 (nI i) (re i).toInt64)
/-- behind a call too: the shared empty row is none of the pool's -/
theorem tk_M.out {y : tk_Y} {av : List Value} {QX : String → tk_S → Prop} (h : tk_M Z y d mc ms av S (fun v S' => Z.2.2.2.2.2.1 ∉ q_L S' → QR v S') QX) : tk_M Z y d mc ms av S QR QX := by
  intro sz
  refine MetFree.mono (h sz) (fun _ _ h => h) (fun _ _ _ _ _ h => h) (fun a s o s' hp hq => ?_)
  rcases hq with ⟨⟨⟨v, S', ho, hQ, hB⟩, hF⟩, hL⟩ | hx
  · refine Or.inl ⟨⟨⟨v, S', ho, hQ (fun z => ?_), hB⟩, hF⟩, hL⟩
    obtain ⟨-, -, -, hO⟩ := hp
    obtain ⟨c, -, -, -, -, -, -, hn⟩ := hO.2.2.2.1
    obtain ⟨k, hk⟩ := tk_get (Y := Z.2.2.1) z
    exact hn (hB.2.2.2 k _ hk)
  · exact Or.inr hx
/-- an object's cell is another's neighbour -/
theorem ne_of_role {ρ : Nat → Nat} {a b r s : Nat} (h1 : ρ a = r) (h2 : ρ b = s) (h : r ≠ s) : a ≠ b := fun z => h (by rw [← h1, z, h2])
/-- one field or one object's fields change: a step that touches the cell a alone -/
theorem sm_one {ρ : Nat → Nat} {S' : tk_S} {a r : Nat} {R : List Nat} (ha : ρ a = r) (hr : r ∉ R) (h : ∀ b, b ∈ q_L S → b ≠ a → sameAt S S' b) : sm ρ S S' R := fun b hb hR => h b hb (fun z => hr (by rw [← ha, ← z]; exact hR))
theorem sm.trans {ρ ρ1 : Nat → Nat} {S1 S2 : tk_S} {R : List Nat} (h : sm ρ S S1 R) (hg : gr S S1) (hρ : rx ρ ρ1 S) (g : sm ρ1 S1 S2 R) : sm ρ S S2 R := fun b hb hR => (h b hb hR).trans (g b (hg b hb) (by rw [hρ b hb]; exact hR))
theorem rx.trans {ρ ρ1 ρ2 : Nat → Nat} {S1 : tk_S} (h : rx ρ ρ1 S) (hg : gr S S1) (g : rx ρ1 ρ2 S1) : rx ρ ρ2 S := fun b hb => (g b (hg b hb)).trans (h b hb)
theorem rx.rfl' {ρ : Nat → Nat} : rx ρ ρ S := fun _ _ => rfl
/-- a farmer's purse is set -/
theorem cF.put {ρ : Nat → Nat} {x n f : Nat} {fF : Nat → Nat} {mo : Nat → Int64} {v : Int64} (h : cF Z ρ S x fF n mo) (hf : f < n) : cF Z ρ (s_J S 5 1 (fF f) v) x fF n (vp_updL mo f v) := by
  obtain ⟨l, e, h1, h2, h3, h4, h5⟩ := h
  refine ⟨l, e, h1, h2, h3, h4, fun i hi => ⟨(h5 i hi).1, ?_⟩⟩
  simp -implicitDefEqProofs only [z_q_L_s_I, z_q_K_s_I, z_q_I_s_I, z_q_J_s_I, z_q_R_s_I, z_q_n_s_I, z_q_aI_s_I, z_q_aJ_s_I, z_q_aR_s_I, z_q_L_s_J, z_q_K_s_J, z_q_I_s_J, z_q_J_s_J, z_q_R_s_J, z_q_n_s_J, z_q_aI_s_J, z_q_aJ_s_J, z_q_aR_s_J, z_q_L_s_R, z_q_K_s_R, z_q_I_s_R, z_q_J_s_R, z_q_R_s_R, z_q_n_s_R, z_q_aI_s_R, z_q_aJ_s_R, z_q_aR_s_R, z_q_L_s_aI, z_q_K_s_aI, z_q_I_s_aI, z_q_J_s_aI, z_q_R_s_aI, z_q_n_s_aI, z_q_aI_s_aI, z_q_aJ_s_aI, z_q_aR_s_aI, z_q_L_s_aJ, z_q_K_s_aJ, z_q_I_s_aJ, z_q_J_s_aJ, z_q_R_s_aJ, z_q_n_s_aJ, z_q_aI_s_aJ, z_q_aJ_s_aJ, z_q_aR_s_aJ, z_q_L_s_aR, z_q_K_s_aR, z_q_I_s_aR, z_q_J_s_aR, z_q_R_s_aR, z_q_n_s_aR, z_q_aI_s_aR, z_q_aJ_s_aR, z_q_aR_s_aR, z_q_L_s_new, z_q_K_s_new, z_q_I_s_new, z_q_J_s_new, z_q_R_s_new, z_q_n_s_new, z_q_aI_s_new, z_q_aJ_s_new, z_q_aR_s_new, z_q_L_s_arr, z_q_K_s_arr, z_q_I_s_arr, z_q_J_s_arr, z_q_R_s_arr, z_q_n_s_arr, z_q_aI_s_arr, z_q_aJ_s_arr, z_q_aR_s_arr]
  by_cases hif : i = f
  · subst hif
    rw [pk_uLs]
    simp
  · rw [if_neg (fun z => hif (h3 i f hi hf z.2.2)), pk_uLn hif]
    exact (h5 i hi).2
theorem s_J_same {c k a b : Nat} {v : Int64} (hb : b ∈ q_L S) (h : b ≠ a) : sameAt S (s_J S c k a v) b := by
  simp -implicitDefEqProofs [sameAt, z_q_L_s_I, z_q_K_s_I, z_q_I_s_I, z_q_J_s_I, z_q_R_s_I, z_q_n_s_I, z_q_aI_s_I, z_q_aJ_s_I, z_q_aR_s_I, z_q_L_s_J, z_q_K_s_J, z_q_I_s_J, z_q_J_s_J, z_q_R_s_J, z_q_n_s_J, z_q_aI_s_J, z_q_aJ_s_J, z_q_aR_s_J, z_q_L_s_R, z_q_K_s_R, z_q_I_s_R, z_q_J_s_R, z_q_R_s_R, z_q_n_s_R, z_q_aI_s_R, z_q_aJ_s_R, z_q_aR_s_R, z_q_L_s_aI, z_q_K_s_aI, z_q_I_s_aI, z_q_J_s_aI, z_q_R_s_aI, z_q_n_s_aI, z_q_aI_s_aI, z_q_aJ_s_aI, z_q_aR_s_aI, z_q_L_s_aJ, z_q_K_s_aJ, z_q_I_s_aJ, z_q_J_s_aJ, z_q_R_s_aJ, z_q_n_s_aJ, z_q_aI_s_aJ, z_q_aJ_s_aJ, z_q_aR_s_aJ, z_q_L_s_aR, z_q_K_s_aR, z_q_I_s_aR, z_q_J_s_aR, z_q_R_s_aR, z_q_n_s_aR, z_q_aI_s_aR, z_q_aJ_s_aR, z_q_aR_s_aR, z_q_L_s_new, z_q_K_s_new, z_q_I_s_new, z_q_J_s_new, z_q_R_s_new, z_q_n_s_new, z_q_aI_s_new, z_q_aJ_s_new, z_q_aR_s_new, z_q_L_s_arr, z_q_K_s_arr, z_q_I_s_arr, z_q_J_s_arr, z_q_R_s_arr, z_q_n_s_arr, z_q_aI_s_arr, z_q_aJ_s_arr, z_q_aR_s_arr, hb, h]
theorem s_I_same {c k a b : Nat} {v : Int32} (hb : b ∈ q_L S) (h : b ≠ a) : sameAt S (s_I S c k a v) b := by
  simp -implicitDefEqProofs [sameAt, z_q_L_s_I, z_q_K_s_I, z_q_I_s_I, z_q_J_s_I, z_q_R_s_I, z_q_n_s_I, z_q_aI_s_I, z_q_aJ_s_I, z_q_aR_s_I, z_q_L_s_J, z_q_K_s_J, z_q_I_s_J, z_q_J_s_J, z_q_R_s_J, z_q_n_s_J, z_q_aI_s_J, z_q_aJ_s_J, z_q_aR_s_J, z_q_L_s_R, z_q_K_s_R, z_q_I_s_R, z_q_J_s_R, z_q_R_s_R, z_q_n_s_R, z_q_aI_s_R, z_q_aJ_s_R, z_q_aR_s_R, z_q_L_s_aI, z_q_K_s_aI, z_q_I_s_aI, z_q_J_s_aI, z_q_R_s_aI, z_q_n_s_aI, z_q_aI_s_aI, z_q_aJ_s_aI, z_q_aR_s_aI, z_q_L_s_aJ, z_q_K_s_aJ, z_q_I_s_aJ, z_q_J_s_aJ, z_q_R_s_aJ, z_q_n_s_aJ, z_q_aI_s_aJ, z_q_aJ_s_aJ, z_q_aR_s_aJ, z_q_L_s_aR, z_q_K_s_aR, z_q_I_s_aR, z_q_J_s_aR, z_q_R_s_aR, z_q_n_s_aR, z_q_aI_s_aR, z_q_aJ_s_aR, z_q_aR_s_aR, z_q_L_s_new, z_q_K_s_new, z_q_I_s_new, z_q_J_s_new, z_q_R_s_new, z_q_n_s_new, z_q_aI_s_new, z_q_aJ_s_new, z_q_aR_s_new, z_q_L_s_arr, z_q_K_s_arr, z_q_I_s_arr, z_q_J_s_arr, z_q_R_s_arr, z_q_n_s_arr, z_q_aI_s_arr, z_q_aJ_s_arr, z_q_aR_s_arr, hb, h]
theorem s_R_same {c k a b : Nat} {v : Option Nat} (hb : b ∈ q_L S) (h : b ≠ a) : sameAt S (s_R S c k a v) b := by
  simp -implicitDefEqProofs [sameAt, z_q_L_s_I, z_q_K_s_I, z_q_I_s_I, z_q_J_s_I, z_q_R_s_I, z_q_n_s_I, z_q_aI_s_I, z_q_aJ_s_I, z_q_aR_s_I, z_q_L_s_J, z_q_K_s_J, z_q_I_s_J, z_q_J_s_J, z_q_R_s_J, z_q_n_s_J, z_q_aI_s_J, z_q_aJ_s_J, z_q_aR_s_J, z_q_L_s_R, z_q_K_s_R, z_q_I_s_R, z_q_J_s_R, z_q_R_s_R, z_q_n_s_R, z_q_aI_s_R, z_q_aJ_s_R, z_q_aR_s_R, z_q_L_s_aI, z_q_K_s_aI, z_q_I_s_aI, z_q_J_s_aI, z_q_R_s_aI, z_q_n_s_aI, z_q_aI_s_aI, z_q_aJ_s_aI, z_q_aR_s_aI, z_q_L_s_aJ, z_q_K_s_aJ, z_q_I_s_aJ, z_q_J_s_aJ, z_q_R_s_aJ, z_q_n_s_aJ, z_q_aI_s_aJ, z_q_aJ_s_aJ, z_q_aR_s_aJ, z_q_L_s_aR, z_q_K_s_aR, z_q_I_s_aR, z_q_J_s_aR, z_q_R_s_aR, z_q_n_s_aR, z_q_aI_s_aR, z_q_aJ_s_aR, z_q_aR_s_aR, z_q_L_s_new, z_q_K_s_new, z_q_I_s_new, z_q_J_s_new, z_q_R_s_new, z_q_n_s_new, z_q_aI_s_new, z_q_aJ_s_new, z_q_aR_s_new, z_q_L_s_arr, z_q_K_s_arr, z_q_I_s_arr, z_q_J_s_arr, z_q_R_s_arr, z_q_n_s_arr, z_q_aI_s_arr, z_q_aJ_s_arr, z_q_aR_s_arr, hb, h]
/-- a gate's cell has changed alone -/
theorem cG.put {ρ : Nat → Nat} {S' : tk_S} {x nS nF n g : Nat} {fG fS fF bl os du le nb bf : Nat → Nat} {ps re su br bs : Nat → Int32} {ls : Nat → Option Nat} {du' le' : Nat → Nat} {ps' re' su' : Nat → Int32} {ls' : Nat → Option Nat} (h : cG Z ρ S x fG fS fF bl nS nF n os ps ls re su du le nb bf br bs) (hZ : Z.2.2.2.2.2.1 ∉ q_L S) (hg : g < n) (hxr : xr S S' x) (hL : gr S S') (hs : ∀ b, b ∈ q_L S → b ≠ fG g → sameAt S S' b) (hk : q_K S' (fG g) = 6)
    (ho : ∀ i, i ≠ g → ps' i = ps i ∧ ls' i = ls i ∧ re' i = re i ∧ su' i = su i ∧ du' i = du i ∧ le' i = le i) (h1 : cG1 S' fS fF nS nF (fG g) (bl g) g os ps' ls' re' su' du' le') : cG Z ρ S' x fG fS fF bl nS nF n os ps' ls' re' su' du' le' nb bf br bs := by
  obtain ⟨l, e, g1, g2, g3, g31, g4, g5⟩ := h
  have hgr := g2.2.2.2 g hg
  have hne : ∀ b r, ρ b = r → r ≠ 41 → b ≠ fG g := fun b r h1 h2 => ne_of_role h1 hgr h2
  have he : e ∈ q_L S → sameAt S S' e := fun z => by
    rcases g2.2.2.1 with ⟨-, y⟩ | ⟨-, -, y⟩
    · exact absurd (y ▸ z) hZ
    · exact hs e z (hne e 13 y (by decide))
  have hf : ∀ i, i < n → fG i ∈ q_L S' ∧ q_K S' (fG i) = 6 := fun i hi => by
    by_cases hig : i = g
    · rw [hig]
      exact ⟨hL _ (g2.1.2.2.2.2.2.2.1 g hg).1, hk⟩
    · have := hs (fG i) (g2.1.2.2.2.2.2.2.1 i hi).1 (fun z => hig (g3 i g hi hg z))
      exact ⟨this.1, this.2.1.trans (g2.1.2.2.2.2.2.2.1 i hi).2⟩
  have hsl := hs l g2.1.1 (hne l 7 g2.2.1 (by decide))
  refine ⟨l, e, (hxr.2.2 5).trans g1, ⟨?_, g2.2.1, ?_, g2.2.2.2⟩, g3, g31, g4, fun i hi => ?_⟩
  · obtain ⟨k1, k2, k3, k4, k5, k6, k7, k8⟩ := g2.1
    obtain ⟨a1, a2, a3, a4, a5, a6, a7, a8, a9⟩ := hsl
    refine ⟨a1, a2.trans k2, (a3 _ _).trans k3, (a5 _ _).trans k4, k5, k6, hf, ?_⟩
    rcases k8 with k8 | ⟨b1, b2, b3, b4, b5, b6⟩
    · exact Or.inl k8
    · obtain ⟨c1, c2, c3, c4, c5, c6, c7, c8, c9⟩ := he b1
      exact Or.inr ⟨c1, c2.trans b2, by rw [c6]; exact b3, by rw [c6]; exact b4, by rw [c6]; exact b5, fun i hi => by rw [c9]; exact b6 i hi⟩
  · rcases g2.2.2.1 with y | ⟨y1, y2, y3⟩
    · exact Or.inl y
    · exact Or.inr ⟨(he y1).1, (he y1).2.1.trans y2, y3⟩
  · obtain ⟨b1, b2⟩ := g5 i hi
    have hB : cB Z ρ S' fF nF i (bl i) (nb i) bf br bs := by
      refine b2.same (R := [44, 50, 51, 52, 53, 54, 55, 56, 57, 60, 61, 62, 63, 64, 65, 66, 67]) hZ (fun b hb hr => hs b hb (fun z => ?_)) rx.rfl' (by simp; omega) (by simp; omega) (by simp)
      rw [z, hgr] at hr
      simp at hr
    refine ⟨?_, hB⟩
    by_cases hig : i = g
    · rw [hig]; exact h1
    · obtain ⟨o1, o2, o3, o4, o5, o6⟩ := ho i hig
      have b1' := b1.same (hs (fG i) (g2.1.2.2.2.2.2.2.1 i hi).1 (fun z => hig (g3 i g hi hg z)))
      obtain ⟨k1, k2, k3, k4, k5⟩ := b1'
      refine ⟨k1, k2, k3, by rw [o1]; exact k4, ?_⟩
      rw [o2, o3, o4, o5, o6]
      exact k5
set_option maxHeartbeats 4000000 in
theorem m_keepLease {ρ : Nat → Nat} {x nS nF n i f td : Nat} {fG fS fF bl os du le nb bf : Nat → Nat} {ps re su br bs : Nat → Int32} {ls : Nat → Option Nat} {mo : Nat → Int64} {J : mJ} (hd : 4 ≤ d) (hZ : Z.2.2.2.2.2.1 ∉ q_L S) (hx : x ∈ q_L S) (hk : q_K S x = 12) (hρ : ρ x = 1) (htd : q_I S 12 9 x = nI td) (hG : cG Z ρ S x fG fS fF bl nS nF n os ps ls re su du le nb bf br bs) (hF : cF Z ρ S x fF nF mo) (hJ : cJ' ρ S x J) (hi : i < n) (hls : ls i = some f) (hle : le i ≤ 1000) (hJn : J.1 < 12000)
    (hmc : 5 * (lvl (keepM td re su i f (mo, ls, du, le, J)).2.2.2.2.1 - lvl J.1) ≤ mc) (hms : 60000 * (lvl (keepM td re su i f (mo, ls, du, le, J)).2.2.2.2.1 - lvl J.1) ≤ ms)
    (H : ∀ S' ρ', gr S S' → rx ρ ρ' S → (∀ b, b ∈ q_L S → ρ b ∉ [4, 21, 41, 48] → sameAt S S' b) → cG Z ρ' S' x fG fS fF bl nS nF n os ps (keepM td re su i f (mo, ls, du, le, J)).2.1 re su (keepM td re su i f (mo, ls, du, le, J)).2.2.1 (keepM td re su i f (mo, ls, du, le, J)).2.2.2.1 nb bf br bs → cF Z ρ' S' x fF nF (keepM td re su i f (mo, ls, du, le, J)).1 → cJ' ρ' S' x (keepM td re su i f (mo, ls, du, le, J)).2.2.2.2 → QR none S') : tk_M Z mX11_keepLease d mc ms [.ref x, .ref (fG i)] S QR tk_noX := by
  refine M_X11_keepLease (Nat.le_of_ble_eq_true rfl) (fun E hE => hE _ _ _ _ _ ?_)
  show t_X11_keepLease_0 Z d mc ms QR E [some (.ref x), some (.ref (fG i)), none] [] S 0 0
  have hG0 := hG
  have hF0 := hF
  obtain ⟨l, e, g1, g2, g3, g31, g4, g5⟩ := hG0
  obtain ⟨lF, eF, f1, f2, f3, f4, f5⟩ := hF0
  obtain ⟨c1, cB1⟩ := g5 i hi
  obtain ⟨a1, a2⟩ := g2.1.2.2.2.2.2.2.1 i hi
  have hga := g2.2.2.2 i hi
  obtain ⟨u1, ⟨u2, u3⟩, u4, u5, u6⟩ := c1
  rcases u6 with ⟨y, -⟩ | ⟨f', y1, y2, y3, y4, y5, y6, y7⟩
  · rw [hls] at y; cases y
  have ef : f' = f := by rw [hls] at y1; exact (Option.some.inj y1).symm
  subst ef
  obtain ⟨b1, b2⟩ := f2.1.2.2.2.2.2.2.1 f' y2
  have hfr := f2.2.2.2 f' y2
  obtain ⟨v1, v2⟩ := f5 f' y2
  have hJ0 := hJ
  obtain ⟨bx, r2, r3, r4, r5, r6, j1, j2, jB, -⟩ := hJ0
  have jb := jB.1.1
  have jk := jB.1.2.1
  have hxG : x ≠ fG i := ne_of_role hρ hga (by decide)
  have hxF : x ≠ fF f' := ne_of_role hρ hfr (by decide)
  unfold keepM at H hmc hms
  dsimp only at H hmc hms
  have hnx : ∀ {a b r t : Nat}, ρ a = r → ρ b = t → r ≠ t → a ≠ b := fun h1 h2 h => ne_of_role h1 h2 h
  simp -implicitDefEqProofs [t_X11_keepLease_0, i_aload, i_iload, i_lload, i_istore, i_lstore, i_astore, i_iinc, i_push, i_getI, i_getJ, i_getR, i_putI, i_putJ, i_putR, i_iadd, i_isub, i_imul, i_iand, i_ior, i_ixor, i_ishl, i_ishr, i_iushr, i_idiv, i_irem, i_ladd, i_lsub, i_lmul, i_land, i_lor, i_lxor, i_ldiv, i_lrem, i_lshl, i_lshr, i_lcmp, i_ineg, i_lneg, i_i2l, i_l2i, i_i2b, i_i2c, i_dup, i_pop, i_dup_x1, i_dup2, i_icmp_eq, i_icmp_lt, i_icmp_ge, i_icmp_gt, i_icmp_le, i_if_eq, i_if_lt, i_if_ge, i_if_gt, i_if_le, i_goto, i_ifnull, i_iald, i_bald, i_zald, i_lald, i_aald, i_iast, i_bast, i_zast, i_last, i_alen, i_iret, i_lret, i_aret, i_vret, i_oinit, i_cast, i_tsw, i_cases, i_mmin, i_mmax, i_lmin, i_throw, nb0, nb1, nint, nby0, rf_s, rf_n, of_r, of_n, tk_orf_rf, tk_c2, tk_ls, Value.category, tk_isR_ref, tk_isR_rf, tk_isR_null, z_q_L_s_I, z_q_K_s_I, z_q_I_s_I, z_q_J_s_I, z_q_R_s_I, z_q_n_s_I, z_q_aI_s_I, z_q_aJ_s_I, z_q_aR_s_I, z_q_L_s_J, z_q_K_s_J, z_q_I_s_J, z_q_J_s_J, z_q_R_s_J, z_q_n_s_J, z_q_aI_s_J, z_q_aJ_s_J, z_q_aR_s_J, z_q_L_s_R, z_q_K_s_R, z_q_I_s_R, z_q_J_s_R, z_q_R_s_R, z_q_n_s_R, z_q_aI_s_R, z_q_aJ_s_R, z_q_aR_s_R, z_q_L_s_aI, z_q_K_s_aI, z_q_I_s_aI, z_q_J_s_aI, z_q_R_s_aI, z_q_n_s_aI, z_q_aI_s_aI, z_q_aJ_s_aI, z_q_aR_s_aI, z_q_L_s_aJ, z_q_K_s_aJ, z_q_I_s_aJ, z_q_J_s_aJ, z_q_R_s_aJ, z_q_n_s_aJ, z_q_aI_s_aJ, z_q_aJ_s_aJ, z_q_aR_s_aJ, z_q_L_s_aR, z_q_K_s_aR, z_q_I_s_aR, z_q_J_s_aR, z_q_R_s_aR, z_q_n_s_aR, z_q_aI_s_aR, z_q_aJ_s_aR, z_q_aR_s_aR, z_q_L_s_new, z_q_K_s_new, z_q_I_s_new, z_q_J_s_new, z_q_R_s_new, z_q_n_s_new, z_q_aI_s_new, z_q_aJ_s_new, z_q_aR_s_new, z_q_L_s_arr, z_q_K_s_arr, z_q_I_s_arr, z_q_J_s_arr, z_q_R_s_arr, z_q_n_s_arr, z_q_aI_s_arr, z_q_aJ_s_arr, z_q_aR_s_arr, a1, a2, y3, y4, y5, y6, y7, b1, b2, v2, hx, hk, lg_cmp_lt, lg_cmp_ge, j1, htd, u1]
  have hleI : (0 < nI (le i) ↔ 0 < le i) := nI_ltI (a := 0) (by omega) (by omega)
  have x1 : xr S (s_J S 5 1 (fF f') 0) x := ⟨hx, rfl, fun _ => rfl⟩
  have oth : ∀ v, ∀ b, b ∈ q_L S → b ≠ fF f' → sameAt S (s_J S 5 1 (fF f') v) b := fun v b hb hn => s_J_same hb hn
  have n41 : ∀ {S1 S' : tk_S} {ρ1 : Nat → Nat}, (∀ b, b ∈ q_L S1 → ρ1 b ∉ [4, 21] → sameAt S1 S' b) → ∀ {a r}, a ∈ q_L S1 → ρ1 a = r → r ∉ [4, 21] → sameAt S1 S' a := fun h a r ha hr hn => h a ha (by rw [hr]; exact hn)
  refine ⟨fun w => ⟨fun w1 => ?_, fun w1 => ?_⟩, fun w => ?_⟩
  · -- paid
    have hl0 : le i ≠ 0 := by have := hleI.mp w; omega
    rw [if_neg hl0, if_neg (Int64.not_lt.mpr w1)] at H hmc hms
    dsimp only [lineM] at H hmc hms
    have xr1 : xr S (s_J S 5 1 (fF f') (mo f' - (re i).toInt64)) x := ⟨hx, rfl, fun _ => rfl⟩
    have hJ1 : cJ' ρ (s_J S 5 1 (fF f') (mo f' - (re i).toInt64)) x J := hJ.same xr1 (sm_one hfr (by simp) (oth _)) rx.rfl'
    have hG1 := hG.same hZ xr1 (sm_one hfr (by simp) (oth (mo f' - (re i).toInt64))) (rx.rfl' (ρ := ρ))
    have hF1 := hF.put (v := mo f' - (re i).toInt64) y2
    refine ⟨by simp, jb, jk, by simp [Value.category], 3, 5 * (lvl (J.1 + 1) - lvl J.1), 60000 * (lvl (J.1 + 1) - lvl J.1), by omega, by omega, by omega, ?_⟩
    refine tk_M.out (m_line (Nat.le_refl 3) hJ1 hx hk hρ j1 hJn (Nat.le_refl _) (Nat.le_refl _) (fun S2 ρ' g2' s2 r2' hJ2 hZ2 => ?_))
    have sg := n41 s2 a1 hga (by simp)
    have sx := n41 s2 hx hρ (by simp)
    have e8 : q_I S2 6 8 (fG i) = nI (le i) := (sg.2.2.1 6 8).trans y7
    have e7 : q_I S2 6 7 (fG i) = nI (du i) := (sg.2.2.1 6 7).trans y6
    have k2 := sg.2.1.trans a2
    have L2 := sg.1
    have m1 : nI (le i) - 1 = nI (le i - 1) := by
      rw [show (1 : Int32) = nI 1 from rfl, pk_sub (by omega)]
    have m2 : nI (du i) + 91 = nI (du i + 91) := nI_add _ 91
    simp -implicitDefEqProofs [i_aload, i_iload, i_lload, i_istore, i_lstore, i_astore, i_iinc, i_push, i_getI, i_getJ, i_getR, i_putI, i_putJ, i_putR, i_iadd, i_isub, i_imul, i_iand, i_ior, i_ixor, i_ishl, i_ishr, i_iushr, i_idiv, i_irem, i_ladd, i_lsub, i_lmul, i_land, i_lor, i_lxor, i_ldiv, i_lrem, i_lshl, i_lshr, i_lcmp, i_ineg, i_lneg, i_i2l, i_l2i, i_i2b, i_i2c, i_dup, i_pop, i_dup_x1, i_dup2, i_icmp_eq, i_icmp_lt, i_icmp_ge, i_icmp_gt, i_icmp_le, i_if_eq, i_if_lt, i_if_ge, i_if_gt, i_if_le, i_goto, i_ifnull, i_iald, i_bald, i_zald, i_lald, i_aald, i_iast, i_bast, i_zast, i_last, i_alen, i_iret, i_lret, i_aret, i_vret, i_oinit, i_cast, i_tsw, i_cases, i_mmin, i_mmax, i_lmin, i_throw, nb0, nb1, nint, nby0, rf_s, rf_n, of_r, of_n, tk_orf_rf, tk_c2, tk_ls, Value.category, tk_isR_ref, tk_isR_rf, tk_isR_null, z_q_L_s_I, z_q_K_s_I, z_q_I_s_I, z_q_J_s_I, z_q_R_s_I, z_q_n_s_I, z_q_aI_s_I, z_q_aJ_s_I, z_q_aR_s_I, z_q_L_s_J, z_q_K_s_J, z_q_I_s_J, z_q_J_s_J, z_q_R_s_J, z_q_n_s_J, z_q_aI_s_J, z_q_aJ_s_J, z_q_aR_s_J, z_q_L_s_R, z_q_K_s_R, z_q_I_s_R, z_q_J_s_R, z_q_R_s_R, z_q_n_s_R, z_q_aI_s_R, z_q_aJ_s_R, z_q_aR_s_R, z_q_L_s_aI, z_q_K_s_aI, z_q_I_s_aI, z_q_J_s_aI, z_q_R_s_aI, z_q_n_s_aI, z_q_aI_s_aI, z_q_aJ_s_aI, z_q_aR_s_aI, z_q_L_s_aJ, z_q_K_s_aJ, z_q_I_s_aJ, z_q_J_s_aJ, z_q_R_s_aJ, z_q_n_s_aJ, z_q_aI_s_aJ, z_q_aJ_s_aJ, z_q_aR_s_aJ, z_q_L_s_aR, z_q_K_s_aR, z_q_I_s_aR, z_q_J_s_aR, z_q_R_s_aR, z_q_n_s_aR, z_q_aI_s_aR, z_q_aJ_s_aR, z_q_aR_s_aR, z_q_L_s_new, z_q_K_s_new, z_q_I_s_new, z_q_J_s_new, z_q_R_s_new, z_q_n_s_new, z_q_aI_s_new, z_q_aJ_s_new, z_q_aR_s_new, z_q_L_s_arr, z_q_K_s_arr, z_q_I_s_arr, z_q_J_s_arr, z_q_R_s_arr, z_q_n_s_arr, z_q_aI_s_arr, z_q_aJ_s_arr, z_q_aR_s_arr, L2, k2, e8, e7, m1, m2]
    refine ⟨by omega, by omega, ?_⟩
    have hG2 := hG1.same hZ (xr.of sx) (sm.no s2 (by simp)) r2'
    have hF2 := hF1.same hZ (xr.of sx) (sm.no s2 (by simp)) r2'
    generalize hS3 : s_I (s_I S2 6 8 (fG i) (nI (le i - 1))) 6 7 (fG i) (nI (du i + 91)) = S3
    have s3 : ∀ b, b ∈ q_L S2 → b ≠ fG i → sameAt S2 S3 b := fun b hb hn => by
      rw [← hS3]
      simp -implicitDefEqProofs [sameAt, z_q_L_s_I, z_q_K_s_I, z_q_I_s_I, z_q_J_s_I, z_q_R_s_I, z_q_n_s_I, z_q_aI_s_I, z_q_aJ_s_I, z_q_aR_s_I, z_q_L_s_J, z_q_K_s_J, z_q_I_s_J, z_q_J_s_J, z_q_R_s_J, z_q_n_s_J, z_q_aI_s_J, z_q_aJ_s_J, z_q_aR_s_J, z_q_L_s_R, z_q_K_s_R, z_q_I_s_R, z_q_J_s_R, z_q_R_s_R, z_q_n_s_R, z_q_aI_s_R, z_q_aJ_s_R, z_q_aR_s_R, z_q_L_s_aI, z_q_K_s_aI, z_q_I_s_aI, z_q_J_s_aI, z_q_R_s_aI, z_q_n_s_aI, z_q_aI_s_aI, z_q_aJ_s_aI, z_q_aR_s_aI, z_q_L_s_aJ, z_q_K_s_aJ, z_q_I_s_aJ, z_q_J_s_aJ, z_q_R_s_aJ, z_q_n_s_aJ, z_q_aI_s_aJ, z_q_aJ_s_aJ, z_q_aR_s_aJ, z_q_L_s_aR, z_q_K_s_aR, z_q_I_s_aR, z_q_J_s_aR, z_q_R_s_aR, z_q_n_s_aR, z_q_aI_s_aR, z_q_aJ_s_aR, z_q_aR_s_aR, z_q_L_s_new, z_q_K_s_new, z_q_I_s_new, z_q_J_s_new, z_q_R_s_new, z_q_n_s_new, z_q_aI_s_new, z_q_aJ_s_new, z_q_aR_s_new, z_q_L_s_arr, z_q_K_s_arr, z_q_I_s_arr, z_q_J_s_arr, z_q_R_s_arr, z_q_n_s_arr, z_q_aI_s_arr, z_q_aJ_s_arr, z_q_aR_s_arr, hb, hn]
    have hρ41 : ρ' (fG i) = 41 := (r2' _ a1).trans hga
    have sx3 := s3 x sx.1 hxG
    have c1' := (hG2.choose_spec.choose_spec.2.2.2.2.2 i hi).1
    refine H S3 ρ' (fun b hb => ?_) r2' (fun b hb hn => ?_) ?_ (hF2.same hZ2 (xr.of sx3) (sm_one hρ41 (by simp) s3) rx.rfl') (hJ2.same (xr.of sx3) (sm_one hρ41 (by simp) s3) rx.rfl')
    · rw [← hS3]
      exact g2' b hb
    · have hb1 : b ≠ fF f' := fun z => hn (by rw [z, hfr]; simp)
      have hb2 : b ≠ fG i := fun z => hn (by rw [z, hga]; simp)
      have t1 := oth (mo f' - (re i).toInt64) b hb hb1
      have t2 := s2 b hb (fun z => hn (by
        simp only [List.mem_cons, List.not_mem_nil, or_false] at z ⊢
        omega))
      exact (t1.trans t2).trans (s3 b t2.1 hb2)
    · refine hG2.put hZ2 hi (xr.of sx3) (fun b hb => by rw [← hS3]; exact hb) s3 (by rw [← hS3]; exact k2) (fun j hj => ⟨rfl, rfl, rfl, rfl, va_up_ne _ _ hj, va_up_ne _ _ hj⟩) ?_
      obtain ⟨p1, p2, p3, p4, p5⟩ := c1'
      rw [← hS3]
      refine ⟨by simp -implicitDefEqProofs [z_q_L_s_I, z_q_K_s_I, z_q_I_s_I, z_q_J_s_I, z_q_R_s_I, z_q_n_s_I, z_q_aI_s_I, z_q_aJ_s_I, z_q_aR_s_I, z_q_L_s_J, z_q_K_s_J, z_q_I_s_J, z_q_J_s_J, z_q_R_s_J, z_q_n_s_J, z_q_aI_s_J, z_q_aJ_s_J, z_q_aR_s_J, z_q_L_s_R, z_q_K_s_R, z_q_I_s_R, z_q_J_s_R, z_q_R_s_R, z_q_n_s_R, z_q_aI_s_R, z_q_aJ_s_R, z_q_aR_s_R, z_q_L_s_aI, z_q_K_s_aI, z_q_I_s_aI, z_q_J_s_aI, z_q_R_s_aI, z_q_n_s_aI, z_q_aI_s_aI, z_q_aJ_s_aI, z_q_aR_s_aI, z_q_L_s_aJ, z_q_K_s_aJ, z_q_I_s_aJ, z_q_J_s_aJ, z_q_R_s_aJ, z_q_n_s_aJ, z_q_aI_s_aJ, z_q_aJ_s_aJ, z_q_aR_s_aJ, z_q_L_s_aR, z_q_K_s_aR, z_q_I_s_aR, z_q_J_s_aR, z_q_R_s_aR, z_q_n_s_aR, z_q_aI_s_aR, z_q_aJ_s_aR, z_q_aR_s_aR, z_q_L_s_new, z_q_K_s_new, z_q_I_s_new, z_q_J_s_new, z_q_R_s_new, z_q_n_s_new, z_q_aI_s_new, z_q_aJ_s_new, z_q_aR_s_new, z_q_L_s_arr, z_q_K_s_arr, z_q_I_s_arr, z_q_J_s_arr, z_q_R_s_arr, z_q_n_s_arr, z_q_aI_s_arr, z_q_aJ_s_arr, z_q_aR_s_arr, p1], p2, p3, by simp -implicitDefEqProofs [z_q_L_s_I, z_q_K_s_I, z_q_I_s_I, z_q_J_s_I, z_q_R_s_I, z_q_n_s_I, z_q_aI_s_I, z_q_aJ_s_I, z_q_aR_s_I, z_q_L_s_J, z_q_K_s_J, z_q_I_s_J, z_q_J_s_J, z_q_R_s_J, z_q_n_s_J, z_q_aI_s_J, z_q_aJ_s_J, z_q_aR_s_J, z_q_L_s_R, z_q_K_s_R, z_q_I_s_R, z_q_J_s_R, z_q_R_s_R, z_q_n_s_R, z_q_aI_s_R, z_q_aJ_s_R, z_q_aR_s_R, z_q_L_s_aI, z_q_K_s_aI, z_q_I_s_aI, z_q_J_s_aI, z_q_R_s_aI, z_q_n_s_aI, z_q_aI_s_aI, z_q_aJ_s_aI, z_q_aR_s_aI, z_q_L_s_aJ, z_q_K_s_aJ, z_q_I_s_aJ, z_q_J_s_aJ, z_q_R_s_aJ, z_q_n_s_aJ, z_q_aI_s_aJ, z_q_aJ_s_aJ, z_q_aR_s_aJ, z_q_L_s_aR, z_q_K_s_aR, z_q_I_s_aR, z_q_J_s_aR, z_q_R_s_aR, z_q_n_s_aR, z_q_aI_s_aR, z_q_aJ_s_aR, z_q_aR_s_aR, z_q_L_s_new, z_q_K_s_new, z_q_I_s_new, z_q_J_s_new, z_q_R_s_new, z_q_n_s_new, z_q_aI_s_new, z_q_aJ_s_new, z_q_aR_s_new, z_q_L_s_arr, z_q_K_s_arr, z_q_I_s_arr, z_q_J_s_arr, z_q_R_s_arr, z_q_n_s_arr, z_q_aI_s_arr, z_q_aJ_s_arr, z_q_aR_s_arr, p4], Or.inr ⟨f', hls, y2, ?_, ?_, ?_, ?_, ?_⟩⟩
      · exact (sg.2.2.2.2.1 6 4).trans y3
      · simp -implicitDefEqProofs [z_q_L_s_I, z_q_K_s_I, z_q_I_s_I, z_q_J_s_I, z_q_R_s_I, z_q_n_s_I, z_q_aI_s_I, z_q_aJ_s_I, z_q_aR_s_I, z_q_L_s_J, z_q_K_s_J, z_q_I_s_J, z_q_J_s_J, z_q_R_s_J, z_q_n_s_J, z_q_aI_s_J, z_q_aJ_s_J, z_q_aR_s_J, z_q_L_s_R, z_q_K_s_R, z_q_I_s_R, z_q_J_s_R, z_q_R_s_R, z_q_n_s_R, z_q_aI_s_R, z_q_aJ_s_R, z_q_aR_s_R, z_q_L_s_aI, z_q_K_s_aI, z_q_I_s_aI, z_q_J_s_aI, z_q_R_s_aI, z_q_n_s_aI, z_q_aI_s_aI, z_q_aJ_s_aI, z_q_aR_s_aI, z_q_L_s_aJ, z_q_K_s_aJ, z_q_I_s_aJ, z_q_J_s_aJ, z_q_R_s_aJ, z_q_n_s_aJ, z_q_aI_s_aJ, z_q_aJ_s_aJ, z_q_aR_s_aJ, z_q_L_s_aR, z_q_K_s_aR, z_q_I_s_aR, z_q_J_s_aR, z_q_R_s_aR, z_q_n_s_aR, z_q_aI_s_aR, z_q_aJ_s_aR, z_q_aR_s_aR, z_q_L_s_new, z_q_K_s_new, z_q_I_s_new, z_q_J_s_new, z_q_R_s_new, z_q_n_s_new, z_q_aI_s_new, z_q_aJ_s_new, z_q_aR_s_new, z_q_L_s_arr, z_q_K_s_arr, z_q_I_s_arr, z_q_J_s_arr, z_q_R_s_arr, z_q_n_s_arr, z_q_aI_s_arr, z_q_aJ_s_arr, z_q_aR_s_arr]
        exact (sg.2.2.1 6 5).trans y4
      · simp -implicitDefEqProofs [z_q_L_s_I, z_q_K_s_I, z_q_I_s_I, z_q_J_s_I, z_q_R_s_I, z_q_n_s_I, z_q_aI_s_I, z_q_aJ_s_I, z_q_aR_s_I, z_q_L_s_J, z_q_K_s_J, z_q_I_s_J, z_q_J_s_J, z_q_R_s_J, z_q_n_s_J, z_q_aI_s_J, z_q_aJ_s_J, z_q_aR_s_J, z_q_L_s_R, z_q_K_s_R, z_q_I_s_R, z_q_J_s_R, z_q_R_s_R, z_q_n_s_R, z_q_aI_s_R, z_q_aJ_s_R, z_q_aR_s_R, z_q_L_s_aI, z_q_K_s_aI, z_q_I_s_aI, z_q_J_s_aI, z_q_R_s_aI, z_q_n_s_aI, z_q_aI_s_aI, z_q_aJ_s_aI, z_q_aR_s_aI, z_q_L_s_aJ, z_q_K_s_aJ, z_q_I_s_aJ, z_q_J_s_aJ, z_q_R_s_aJ, z_q_n_s_aJ, z_q_aI_s_aJ, z_q_aJ_s_aJ, z_q_aR_s_aJ, z_q_L_s_aR, z_q_K_s_aR, z_q_I_s_aR, z_q_J_s_aR, z_q_R_s_aR, z_q_n_s_aR, z_q_aI_s_aR, z_q_aJ_s_aR, z_q_aR_s_aR, z_q_L_s_new, z_q_K_s_new, z_q_I_s_new, z_q_J_s_new, z_q_R_s_new, z_q_n_s_new, z_q_aI_s_new, z_q_aJ_s_new, z_q_aR_s_new, z_q_L_s_arr, z_q_K_s_arr, z_q_I_s_arr, z_q_J_s_arr, z_q_R_s_arr, z_q_n_s_arr, z_q_aI_s_arr, z_q_aJ_s_arr, z_q_aR_s_arr]
        exact (sg.2.2.1 6 6).trans y5
      · simp -implicitDefEqProofs [z_q_L_s_I, z_q_K_s_I, z_q_I_s_I, z_q_J_s_I, z_q_R_s_I, z_q_n_s_I, z_q_aI_s_I, z_q_aJ_s_I, z_q_aR_s_I, z_q_L_s_J, z_q_K_s_J, z_q_I_s_J, z_q_J_s_J, z_q_R_s_J, z_q_n_s_J, z_q_aI_s_J, z_q_aJ_s_J, z_q_aR_s_J, z_q_L_s_R, z_q_K_s_R, z_q_I_s_R, z_q_J_s_R, z_q_R_s_R, z_q_n_s_R, z_q_aI_s_R, z_q_aJ_s_R, z_q_aR_s_R, z_q_L_s_aI, z_q_K_s_aI, z_q_I_s_aI, z_q_J_s_aI, z_q_R_s_aI, z_q_n_s_aI, z_q_aI_s_aI, z_q_aJ_s_aI, z_q_aR_s_aI, z_q_L_s_aJ, z_q_K_s_aJ, z_q_I_s_aJ, z_q_J_s_aJ, z_q_R_s_aJ, z_q_n_s_aJ, z_q_aI_s_aJ, z_q_aJ_s_aJ, z_q_aR_s_aJ, z_q_L_s_aR, z_q_K_s_aR, z_q_I_s_aR, z_q_J_s_aR, z_q_R_s_aR, z_q_n_s_aR, z_q_aI_s_aR, z_q_aJ_s_aR, z_q_aR_s_aR, z_q_L_s_new, z_q_K_s_new, z_q_I_s_new, z_q_J_s_new, z_q_R_s_new, z_q_n_s_new, z_q_aI_s_new, z_q_aJ_s_new, z_q_aR_s_new, z_q_L_s_arr, z_q_K_s_arr, z_q_I_s_arr, z_q_J_s_arr, z_q_R_s_arr, z_q_n_s_arr, z_q_aI_s_arr, z_q_aJ_s_arr, z_q_aR_s_arr, va_up_self]
      · simp -implicitDefEqProofs [z_q_L_s_I, z_q_K_s_I, z_q_I_s_I, z_q_J_s_I, z_q_R_s_I, z_q_n_s_I, z_q_aI_s_I, z_q_aJ_s_I, z_q_aR_s_I, z_q_L_s_J, z_q_K_s_J, z_q_I_s_J, z_q_J_s_J, z_q_R_s_J, z_q_n_s_J, z_q_aI_s_J, z_q_aJ_s_J, z_q_aR_s_J, z_q_L_s_R, z_q_K_s_R, z_q_I_s_R, z_q_J_s_R, z_q_R_s_R, z_q_n_s_R, z_q_aI_s_R, z_q_aJ_s_R, z_q_aR_s_R, z_q_L_s_aI, z_q_K_s_aI, z_q_I_s_aI, z_q_J_s_aI, z_q_R_s_aI, z_q_n_s_aI, z_q_aI_s_aI, z_q_aJ_s_aI, z_q_aR_s_aI, z_q_L_s_aJ, z_q_K_s_aJ, z_q_I_s_aJ, z_q_J_s_aJ, z_q_R_s_aJ, z_q_n_s_aJ, z_q_aI_s_aJ, z_q_aJ_s_aJ, z_q_aR_s_aJ, z_q_L_s_aR, z_q_K_s_aR, z_q_I_s_aR, z_q_J_s_aR, z_q_R_s_aR, z_q_n_s_aR, z_q_aI_s_aR, z_q_aJ_s_aR, z_q_aR_s_aR, z_q_L_s_new, z_q_K_s_new, z_q_I_s_new, z_q_J_s_new, z_q_R_s_new, z_q_n_s_new, z_q_aI_s_new, z_q_aJ_s_new, z_q_aR_s_new, z_q_L_s_arr, z_q_K_s_arr, z_q_I_s_arr, z_q_J_s_arr, z_q_R_s_arr, z_q_n_s_arr, z_q_aI_s_arr, z_q_aJ_s_arr, z_q_aR_s_arr, va_up_self]
  · -- not paid
    have hl0 : le i ≠ 0 := by have := hleI.mp w; omega
    rw [if_neg hl0, if_pos w1] at H hmc hms
    dsimp only [lineM] at H hmc hms
    refine ⟨by simp, jb, jk, by simp [Value.category], 3, 5 * (lvl (J.1 + 1) - lvl J.1), 60000 * (lvl (J.1 + 1) - lvl J.1), by omega, by omega, by omega, ?_⟩
    refine tk_M.out (m_line (Nat.le_refl 3) hJ hx hk hρ j1 hJn (Nat.le_refl _) (Nat.le_refl _) (fun S2 ρ' g2' s2 r2' hJ2 hZ2 => ?_))
    have sg := n41 s2 a1 hga (by simp)
    have sx := n41 s2 hx hρ (by simp)
    have k2 := sg.2.1.trans a2
    have L2 := sg.1
    simp -implicitDefEqProofs [i_aload, i_iload, i_lload, i_istore, i_lstore, i_astore, i_iinc, i_push, i_getI, i_getJ, i_getR, i_putI, i_putJ, i_putR, i_iadd, i_isub, i_imul, i_iand, i_ior, i_ixor, i_ishl, i_ishr, i_iushr, i_idiv, i_irem, i_ladd, i_lsub, i_lmul, i_land, i_lor, i_lxor, i_ldiv, i_lrem, i_lshl, i_lshr, i_lcmp, i_ineg, i_lneg, i_i2l, i_l2i, i_i2b, i_i2c, i_dup, i_pop, i_dup_x1, i_dup2, i_icmp_eq, i_icmp_lt, i_icmp_ge, i_icmp_gt, i_icmp_le, i_if_eq, i_if_lt, i_if_ge, i_if_gt, i_if_le, i_goto, i_ifnull, i_iald, i_bald, i_zald, i_lald, i_aald, i_iast, i_bast, i_zast, i_last, i_alen, i_iret, i_lret, i_aret, i_vret, i_oinit, i_cast, i_tsw, i_cases, i_mmin, i_mmax, i_lmin, i_throw, nb0, nb1, nint, nby0, rf_s, rf_n, of_r, of_n, tk_orf_rf, tk_c2, tk_ls, Value.category, tk_isR_ref, tk_isR_rf, tk_isR_null]
    refine ⟨by simp, L2, k2, by simp, 0, 0, 0, by omega, by omega, by omega, ?_⟩
    refine m_endLease L2 k2 ?_
    simp -implicitDefEqProofs [i_aload, i_iload, i_lload, i_istore, i_lstore, i_astore, i_iinc, i_push, i_getI, i_getJ, i_getR, i_putI, i_putJ, i_putR, i_iadd, i_isub, i_imul, i_iand, i_ior, i_ixor, i_ishl, i_ishr, i_iushr, i_idiv, i_irem, i_ladd, i_lsub, i_lmul, i_land, i_lor, i_lxor, i_ldiv, i_lrem, i_lshl, i_lshr, i_lcmp, i_ineg, i_lneg, i_i2l, i_l2i, i_i2b, i_i2c, i_dup, i_pop, i_dup_x1, i_dup2, i_icmp_eq, i_icmp_lt, i_icmp_ge, i_icmp_gt, i_icmp_le, i_if_eq, i_if_lt, i_if_ge, i_if_gt, i_if_le, i_goto, i_ifnull, i_iald, i_bald, i_zald, i_lald, i_aald, i_iast, i_bast, i_zast, i_last, i_alen, i_iret, i_lret, i_aret, i_vret, i_oinit, i_cast, i_tsw, i_cases, i_mmin, i_mmax, i_lmin, i_throw, nb0, nb1, nint, nby0, rf_s, rf_n, of_r, of_n, tk_orf_rf, tk_c2, tk_ls, Value.category, tk_isR_ref, tk_isR_rf, tk_isR_null]
    refine ⟨by omega, by omega, ?_⟩
    have hG2 := hG.same hZ (xr.of sx) (sm.no s2 (by simp)) r2'
    have hF2 := hF.same hZ (xr.of sx) (sm.no s2 (by simp)) r2'
    generalize hS3 : s_I (s_I (s_I (s_I (s_R S2 6 4 (fG i) none) 6 5 (fG i) 0) 6 6 (fG i) 0) 6 7 (fG i) 0) 6 8 (fG i) 0 = S3
    have s3 : ∀ b, b ∈ q_L S2 → b ≠ fG i → sameAt S2 S3 b := fun b hb hn => by
      rw [← hS3]
      simp -implicitDefEqProofs [sameAt, z_q_L_s_I, z_q_K_s_I, z_q_I_s_I, z_q_J_s_I, z_q_R_s_I, z_q_n_s_I, z_q_aI_s_I, z_q_aJ_s_I, z_q_aR_s_I, z_q_L_s_J, z_q_K_s_J, z_q_I_s_J, z_q_J_s_J, z_q_R_s_J, z_q_n_s_J, z_q_aI_s_J, z_q_aJ_s_J, z_q_aR_s_J, z_q_L_s_R, z_q_K_s_R, z_q_I_s_R, z_q_J_s_R, z_q_R_s_R, z_q_n_s_R, z_q_aI_s_R, z_q_aJ_s_R, z_q_aR_s_R, z_q_L_s_aI, z_q_K_s_aI, z_q_I_s_aI, z_q_J_s_aI, z_q_R_s_aI, z_q_n_s_aI, z_q_aI_s_aI, z_q_aJ_s_aI, z_q_aR_s_aI, z_q_L_s_aJ, z_q_K_s_aJ, z_q_I_s_aJ, z_q_J_s_aJ, z_q_R_s_aJ, z_q_n_s_aJ, z_q_aI_s_aJ, z_q_aJ_s_aJ, z_q_aR_s_aJ, z_q_L_s_aR, z_q_K_s_aR, z_q_I_s_aR, z_q_J_s_aR, z_q_R_s_aR, z_q_n_s_aR, z_q_aI_s_aR, z_q_aJ_s_aR, z_q_aR_s_aR, z_q_L_s_new, z_q_K_s_new, z_q_I_s_new, z_q_J_s_new, z_q_R_s_new, z_q_n_s_new, z_q_aI_s_new, z_q_aJ_s_new, z_q_aR_s_new, z_q_L_s_arr, z_q_K_s_arr, z_q_I_s_arr, z_q_J_s_arr, z_q_R_s_arr, z_q_n_s_arr, z_q_aI_s_arr, z_q_aJ_s_arr, z_q_aR_s_arr, hb, hn]
    have hρ41 : ρ' (fG i) = 41 := (r2' _ a1).trans hga
    have sx3 := s3 x sx.1 hxG
    have c1' := (hG2.choose_spec.choose_spec.2.2.2.2.2 i hi).1
    refine H S3 ρ' (fun b hb => ?_) r2' (fun b hb hn => ?_) ?_ (hF2.same hZ2 (xr.of sx3) (sm_one hρ41 (by simp) s3) rx.rfl') (hJ2.same (xr.of sx3) (sm_one hρ41 (by simp) s3) rx.rfl')
    · rw [← hS3]
      exact g2' b hb
    · have hb2 : b ≠ fG i := fun z => hn (by rw [z, hga]; simp)
      have t2 := s2 b hb (fun z => hn (by
        simp only [List.mem_cons, List.not_mem_nil, or_false] at z ⊢
        omega))
      exact t2.trans (s3 b t2.1 hb2)
    · refine hG2.put hZ2 hi (xr.of sx3) (fun b hb => by rw [← hS3]; exact hb) s3 (by rw [← hS3]; exact k2) (fun j hj => ⟨rfl, va_up_ne _ _ hj, rfl, rfl, rfl, rfl⟩) ?_
      obtain ⟨p1, p2, p3, p4, p5⟩ := c1'
      rw [← hS3]
      refine ⟨by simp -implicitDefEqProofs [z_q_L_s_I, z_q_K_s_I, z_q_I_s_I, z_q_J_s_I, z_q_R_s_I, z_q_n_s_I, z_q_aI_s_I, z_q_aJ_s_I, z_q_aR_s_I, z_q_L_s_J, z_q_K_s_J, z_q_I_s_J, z_q_J_s_J, z_q_R_s_J, z_q_n_s_J, z_q_aI_s_J, z_q_aJ_s_J, z_q_aR_s_J, z_q_L_s_R, z_q_K_s_R, z_q_I_s_R, z_q_J_s_R, z_q_R_s_R, z_q_n_s_R, z_q_aI_s_R, z_q_aJ_s_R, z_q_aR_s_R, z_q_L_s_aI, z_q_K_s_aI, z_q_I_s_aI, z_q_J_s_aI, z_q_R_s_aI, z_q_n_s_aI, z_q_aI_s_aI, z_q_aJ_s_aI, z_q_aR_s_aI, z_q_L_s_aJ, z_q_K_s_aJ, z_q_I_s_aJ, z_q_J_s_aJ, z_q_R_s_aJ, z_q_n_s_aJ, z_q_aI_s_aJ, z_q_aJ_s_aJ, z_q_aR_s_aJ, z_q_L_s_aR, z_q_K_s_aR, z_q_I_s_aR, z_q_J_s_aR, z_q_R_s_aR, z_q_n_s_aR, z_q_aI_s_aR, z_q_aJ_s_aR, z_q_aR_s_aR, z_q_L_s_new, z_q_K_s_new, z_q_I_s_new, z_q_J_s_new, z_q_R_s_new, z_q_n_s_new, z_q_aI_s_new, z_q_aJ_s_new, z_q_aR_s_new, z_q_L_s_arr, z_q_K_s_arr, z_q_I_s_arr, z_q_J_s_arr, z_q_R_s_arr, z_q_n_s_arr, z_q_aI_s_arr, z_q_aJ_s_arr, z_q_aR_s_arr, p1], by simpa -implicitDefEqProofs [z_q_L_s_I, z_q_K_s_I, z_q_I_s_I, z_q_J_s_I, z_q_R_s_I, z_q_n_s_I, z_q_aI_s_I, z_q_aJ_s_I, z_q_aR_s_I, z_q_L_s_J, z_q_K_s_J, z_q_I_s_J, z_q_J_s_J, z_q_R_s_J, z_q_n_s_J, z_q_aI_s_J, z_q_aJ_s_J, z_q_aR_s_J, z_q_L_s_R, z_q_K_s_R, z_q_I_s_R, z_q_J_s_R, z_q_R_s_R, z_q_n_s_R, z_q_aI_s_R, z_q_aJ_s_R, z_q_aR_s_R, z_q_L_s_aI, z_q_K_s_aI, z_q_I_s_aI, z_q_J_s_aI, z_q_R_s_aI, z_q_n_s_aI, z_q_aI_s_aI, z_q_aJ_s_aI, z_q_aR_s_aI, z_q_L_s_aJ, z_q_K_s_aJ, z_q_I_s_aJ, z_q_J_s_aJ, z_q_R_s_aJ, z_q_n_s_aJ, z_q_aI_s_aJ, z_q_aJ_s_aJ, z_q_aR_s_aJ, z_q_L_s_aR, z_q_K_s_aR, z_q_I_s_aR, z_q_J_s_aR, z_q_R_s_aR, z_q_n_s_aR, z_q_aI_s_aR, z_q_aJ_s_aR, z_q_aR_s_aR, z_q_L_s_new, z_q_K_s_new, z_q_I_s_new, z_q_J_s_new, z_q_R_s_new, z_q_n_s_new, z_q_aI_s_new, z_q_aJ_s_new, z_q_aR_s_new, z_q_L_s_arr, z_q_K_s_arr, z_q_I_s_arr, z_q_J_s_arr, z_q_R_s_arr, z_q_n_s_arr, z_q_aI_s_arr, z_q_aJ_s_arr, z_q_aR_s_arr] using p2, by simpa -implicitDefEqProofs [z_q_L_s_I, z_q_K_s_I, z_q_I_s_I, z_q_J_s_I, z_q_R_s_I, z_q_n_s_I, z_q_aI_s_I, z_q_aJ_s_I, z_q_aR_s_I, z_q_L_s_J, z_q_K_s_J, z_q_I_s_J, z_q_J_s_J, z_q_R_s_J, z_q_n_s_J, z_q_aI_s_J, z_q_aJ_s_J, z_q_aR_s_J, z_q_L_s_R, z_q_K_s_R, z_q_I_s_R, z_q_J_s_R, z_q_R_s_R, z_q_n_s_R, z_q_aI_s_R, z_q_aJ_s_R, z_q_aR_s_R, z_q_L_s_aI, z_q_K_s_aI, z_q_I_s_aI, z_q_J_s_aI, z_q_R_s_aI, z_q_n_s_aI, z_q_aI_s_aI, z_q_aJ_s_aI, z_q_aR_s_aI, z_q_L_s_aJ, z_q_K_s_aJ, z_q_I_s_aJ, z_q_J_s_aJ, z_q_R_s_aJ, z_q_n_s_aJ, z_q_aI_s_aJ, z_q_aJ_s_aJ, z_q_aR_s_aJ, z_q_L_s_aR, z_q_K_s_aR, z_q_I_s_aR, z_q_J_s_aR, z_q_R_s_aR, z_q_n_s_aR, z_q_aI_s_aR, z_q_aJ_s_aR, z_q_aR_s_aR, z_q_L_s_new, z_q_K_s_new, z_q_I_s_new, z_q_J_s_new, z_q_R_s_new, z_q_n_s_new, z_q_aI_s_new, z_q_aJ_s_new, z_q_aR_s_new, z_q_L_s_arr, z_q_K_s_arr, z_q_I_s_arr, z_q_J_s_arr, z_q_R_s_arr, z_q_n_s_arr, z_q_aI_s_arr, z_q_aJ_s_arr, z_q_aR_s_arr] using p3, by simp -implicitDefEqProofs [z_q_L_s_I, z_q_K_s_I, z_q_I_s_I, z_q_J_s_I, z_q_R_s_I, z_q_n_s_I, z_q_aI_s_I, z_q_aJ_s_I, z_q_aR_s_I, z_q_L_s_J, z_q_K_s_J, z_q_I_s_J, z_q_J_s_J, z_q_R_s_J, z_q_n_s_J, z_q_aI_s_J, z_q_aJ_s_J, z_q_aR_s_J, z_q_L_s_R, z_q_K_s_R, z_q_I_s_R, z_q_J_s_R, z_q_R_s_R, z_q_n_s_R, z_q_aI_s_R, z_q_aJ_s_R, z_q_aR_s_R, z_q_L_s_aI, z_q_K_s_aI, z_q_I_s_aI, z_q_J_s_aI, z_q_R_s_aI, z_q_n_s_aI, z_q_aI_s_aI, z_q_aJ_s_aI, z_q_aR_s_aI, z_q_L_s_aJ, z_q_K_s_aJ, z_q_I_s_aJ, z_q_J_s_aJ, z_q_R_s_aJ, z_q_n_s_aJ, z_q_aI_s_aJ, z_q_aJ_s_aJ, z_q_aR_s_aJ, z_q_L_s_aR, z_q_K_s_aR, z_q_I_s_aR, z_q_J_s_aR, z_q_R_s_aR, z_q_n_s_aR, z_q_aI_s_aR, z_q_aJ_s_aR, z_q_aR_s_aR, z_q_L_s_new, z_q_K_s_new, z_q_I_s_new, z_q_J_s_new, z_q_R_s_new, z_q_n_s_new, z_q_aI_s_new, z_q_aJ_s_new, z_q_aR_s_new, z_q_L_s_arr, z_q_K_s_arr, z_q_I_s_arr, z_q_J_s_arr, z_q_R_s_arr, z_q_n_s_arr, z_q_aI_s_arr, z_q_aJ_s_arr, z_q_aR_s_arr, p4], Or.inl ⟨va_up_self _ _ _, ?_, ?_, ?_, ?_⟩⟩
      all_goals simp -implicitDefEqProofs [z_q_L_s_I, z_q_K_s_I, z_q_I_s_I, z_q_J_s_I, z_q_R_s_I, z_q_n_s_I, z_q_aI_s_I, z_q_aJ_s_I, z_q_aR_s_I, z_q_L_s_J, z_q_K_s_J, z_q_I_s_J, z_q_J_s_J, z_q_R_s_J, z_q_n_s_J, z_q_aI_s_J, z_q_aJ_s_J, z_q_aR_s_J, z_q_L_s_R, z_q_K_s_R, z_q_I_s_R, z_q_J_s_R, z_q_R_s_R, z_q_n_s_R, z_q_aI_s_R, z_q_aJ_s_R, z_q_aR_s_R, z_q_L_s_aI, z_q_K_s_aI, z_q_I_s_aI, z_q_J_s_aI, z_q_R_s_aI, z_q_n_s_aI, z_q_aI_s_aI, z_q_aJ_s_aI, z_q_aR_s_aI, z_q_L_s_aJ, z_q_K_s_aJ, z_q_I_s_aJ, z_q_J_s_aJ, z_q_R_s_aJ, z_q_n_s_aJ, z_q_aI_s_aJ, z_q_aJ_s_aJ, z_q_aR_s_aJ, z_q_L_s_aR, z_q_K_s_aR, z_q_I_s_aR, z_q_J_s_aR, z_q_R_s_aR, z_q_n_s_aR, z_q_aI_s_aR, z_q_aJ_s_aR, z_q_aR_s_aR, z_q_L_s_new, z_q_K_s_new, z_q_I_s_new, z_q_J_s_new, z_q_R_s_new, z_q_n_s_new, z_q_aI_s_new, z_q_aJ_s_new, z_q_aR_s_new, z_q_L_s_arr, z_q_K_s_arr, z_q_I_s_arr, z_q_J_s_arr, z_q_R_s_arr, z_q_n_s_arr, z_q_aI_s_arr, z_q_aJ_s_arr, z_q_aR_s_arr]
  · -- over
    have hl0 : le i = 0 := by
      apply Classical.byContradiction
      intro z
      have := hleI.mpr (by omega)
      exact absurd this (Int32.not_lt.mpr w)
    rw [if_pos hl0] at H hmc hms
    dsimp only at H hmc hms
    have xr1 : xr S (s_J S 5 1 (fF f') (mo f' + (su i).toInt64)) x := ⟨hx, rfl, fun _ => rfl⟩
    have hJ1 : cJ' ρ (s_J S 5 1 (fF f') (mo f' + (su i).toInt64)) x J := hJ.same xr1 (sm_one hfr (by simp) (oth _)) rx.rfl'
    have hG1 := hG.same hZ xr1 (sm_one hfr (by simp) (oth (mo f' + (su i).toInt64))) (rx.rfl' (ρ := ρ))
    have hF1 := hF.put (v := mo f' + (su i).toInt64) y2
    generalize hS2 : s_J S 5 1 (fF f') (mo f' + (su i).toInt64) = S2 at *
    have hZ2 : Z.2.2.2.2.2.1 ∉ q_L S2 := by rw [← hS2]; exact hZ
    have L2 : fG i ∈ q_L S2 := by rw [← hS2]; exact a1
    have k2 : q_K S2 (fG i) = 6 := by rw [← hS2]; exact a2
    have hx2 : x ∈ q_L S2 := by rw [← hS2]; exact hx
    refine ⟨by simp, L2, k2, by simp, 0, 0, 0, by omega, by omega, by omega, ?_⟩
    refine m_endLease L2 k2 ?_
    simp -implicitDefEqProofs [i_aload, i_iload, i_lload, i_istore, i_lstore, i_astore, i_iinc, i_push, i_getI, i_getJ, i_getR, i_putI, i_putJ, i_putR, i_iadd, i_isub, i_imul, i_iand, i_ior, i_ixor, i_ishl, i_ishr, i_iushr, i_idiv, i_irem, i_ladd, i_lsub, i_lmul, i_land, i_lor, i_lxor, i_ldiv, i_lrem, i_lshl, i_lshr, i_lcmp, i_ineg, i_lneg, i_i2l, i_l2i, i_i2b, i_i2c, i_dup, i_pop, i_dup_x1, i_dup2, i_icmp_eq, i_icmp_lt, i_icmp_ge, i_icmp_gt, i_icmp_le, i_if_eq, i_if_lt, i_if_ge, i_if_gt, i_if_le, i_goto, i_ifnull, i_iald, i_bald, i_zald, i_lald, i_aald, i_iast, i_bast, i_zast, i_last, i_alen, i_iret, i_lret, i_aret, i_vret, i_oinit, i_cast, i_tsw, i_cases, i_mmin, i_mmax, i_lmin, i_throw, nb0, nb1, nint, nby0, rf_s, rf_n, of_r, of_n, tk_orf_rf, tk_c2, tk_ls, Value.category, tk_isR_ref, tk_isR_rf, tk_isR_null]
    generalize hS3 : s_I (s_I (s_I (s_I (s_R S2 6 4 (fG i) none) 6 5 (fG i) 0) 6 6 (fG i) 0) 6 7 (fG i) 0) 6 8 (fG i) 0 = S3
    have s3 : ∀ b, b ∈ q_L S2 → b ≠ fG i → sameAt S2 S3 b := fun b hb hn => by
      rw [← hS3]
      simp -implicitDefEqProofs [sameAt, z_q_L_s_I, z_q_K_s_I, z_q_I_s_I, z_q_J_s_I, z_q_R_s_I, z_q_n_s_I, z_q_aI_s_I, z_q_aJ_s_I, z_q_aR_s_I, z_q_L_s_J, z_q_K_s_J, z_q_I_s_J, z_q_J_s_J, z_q_R_s_J, z_q_n_s_J, z_q_aI_s_J, z_q_aJ_s_J, z_q_aR_s_J, z_q_L_s_R, z_q_K_s_R, z_q_I_s_R, z_q_J_s_R, z_q_R_s_R, z_q_n_s_R, z_q_aI_s_R, z_q_aJ_s_R, z_q_aR_s_R, z_q_L_s_aI, z_q_K_s_aI, z_q_I_s_aI, z_q_J_s_aI, z_q_R_s_aI, z_q_n_s_aI, z_q_aI_s_aI, z_q_aJ_s_aI, z_q_aR_s_aI, z_q_L_s_aJ, z_q_K_s_aJ, z_q_I_s_aJ, z_q_J_s_aJ, z_q_R_s_aJ, z_q_n_s_aJ, z_q_aI_s_aJ, z_q_aJ_s_aJ, z_q_aR_s_aJ, z_q_L_s_aR, z_q_K_s_aR, z_q_I_s_aR, z_q_J_s_aR, z_q_R_s_aR, z_q_n_s_aR, z_q_aI_s_aR, z_q_aJ_s_aR, z_q_aR_s_aR, z_q_L_s_new, z_q_K_s_new, z_q_I_s_new, z_q_J_s_new, z_q_R_s_new, z_q_n_s_new, z_q_aI_s_new, z_q_aJ_s_new, z_q_aR_s_new, z_q_L_s_arr, z_q_K_s_arr, z_q_I_s_arr, z_q_J_s_arr, z_q_R_s_arr, z_q_n_s_arr, z_q_aI_s_arr, z_q_aJ_s_arr, z_q_aR_s_arr, hb, hn]
    have sx3 := s3 x hx2 hxG
    have c1' := (hG1.choose_spec.choose_spec.2.2.2.2.2 i hi).1
    refine H S3 ρ (fun b hb => ?_) rx.rfl' (fun b hb hn => ?_) ?_ (hF1.same hZ2 (xr.of sx3) (sm_one hga (by simp) s3) rx.rfl') (hJ1.same (xr.of sx3) (sm_one hga (by simp) s3) rx.rfl')
    · rw [← hS3, ← hS2]
      exact hb
    · have hb1 : b ≠ fF f' := fun z => hn (by rw [z, hfr]; simp)
      have hb2 : b ≠ fG i := fun z => hn (by rw [z, hga]; simp)
      have t1 := oth (mo f' + (su i).toInt64) b hb hb1
      rw [hS2] at t1
      exact t1.trans (s3 b t1.1 hb2)
    · refine hG1.put hZ2 hi (xr.of sx3) (fun b hb => by rw [← hS3]; exact hb) s3 (by rw [← hS3]; exact k2) (fun j hj => ⟨rfl, va_up_ne _ _ hj, rfl, rfl, rfl, rfl⟩) ?_
      obtain ⟨p1, p2, p3, p4, p5⟩ := c1'
      rw [← hS3]
      refine ⟨by simp -implicitDefEqProofs [z_q_L_s_I, z_q_K_s_I, z_q_I_s_I, z_q_J_s_I, z_q_R_s_I, z_q_n_s_I, z_q_aI_s_I, z_q_aJ_s_I, z_q_aR_s_I, z_q_L_s_J, z_q_K_s_J, z_q_I_s_J, z_q_J_s_J, z_q_R_s_J, z_q_n_s_J, z_q_aI_s_J, z_q_aJ_s_J, z_q_aR_s_J, z_q_L_s_R, z_q_K_s_R, z_q_I_s_R, z_q_J_s_R, z_q_R_s_R, z_q_n_s_R, z_q_aI_s_R, z_q_aJ_s_R, z_q_aR_s_R, z_q_L_s_aI, z_q_K_s_aI, z_q_I_s_aI, z_q_J_s_aI, z_q_R_s_aI, z_q_n_s_aI, z_q_aI_s_aI, z_q_aJ_s_aI, z_q_aR_s_aI, z_q_L_s_aJ, z_q_K_s_aJ, z_q_I_s_aJ, z_q_J_s_aJ, z_q_R_s_aJ, z_q_n_s_aJ, z_q_aI_s_aJ, z_q_aJ_s_aJ, z_q_aR_s_aJ, z_q_L_s_aR, z_q_K_s_aR, z_q_I_s_aR, z_q_J_s_aR, z_q_R_s_aR, z_q_n_s_aR, z_q_aI_s_aR, z_q_aJ_s_aR, z_q_aR_s_aR, z_q_L_s_new, z_q_K_s_new, z_q_I_s_new, z_q_J_s_new, z_q_R_s_new, z_q_n_s_new, z_q_aI_s_new, z_q_aJ_s_new, z_q_aR_s_new, z_q_L_s_arr, z_q_K_s_arr, z_q_I_s_arr, z_q_J_s_arr, z_q_R_s_arr, z_q_n_s_arr, z_q_aI_s_arr, z_q_aJ_s_arr, z_q_aR_s_arr, p1], by simpa -implicitDefEqProofs [z_q_L_s_I, z_q_K_s_I, z_q_I_s_I, z_q_J_s_I, z_q_R_s_I, z_q_n_s_I, z_q_aI_s_I, z_q_aJ_s_I, z_q_aR_s_I, z_q_L_s_J, z_q_K_s_J, z_q_I_s_J, z_q_J_s_J, z_q_R_s_J, z_q_n_s_J, z_q_aI_s_J, z_q_aJ_s_J, z_q_aR_s_J, z_q_L_s_R, z_q_K_s_R, z_q_I_s_R, z_q_J_s_R, z_q_R_s_R, z_q_n_s_R, z_q_aI_s_R, z_q_aJ_s_R, z_q_aR_s_R, z_q_L_s_aI, z_q_K_s_aI, z_q_I_s_aI, z_q_J_s_aI, z_q_R_s_aI, z_q_n_s_aI, z_q_aI_s_aI, z_q_aJ_s_aI, z_q_aR_s_aI, z_q_L_s_aJ, z_q_K_s_aJ, z_q_I_s_aJ, z_q_J_s_aJ, z_q_R_s_aJ, z_q_n_s_aJ, z_q_aI_s_aJ, z_q_aJ_s_aJ, z_q_aR_s_aJ, z_q_L_s_aR, z_q_K_s_aR, z_q_I_s_aR, z_q_J_s_aR, z_q_R_s_aR, z_q_n_s_aR, z_q_aI_s_aR, z_q_aJ_s_aR, z_q_aR_s_aR, z_q_L_s_new, z_q_K_s_new, z_q_I_s_new, z_q_J_s_new, z_q_R_s_new, z_q_n_s_new, z_q_aI_s_new, z_q_aJ_s_new, z_q_aR_s_new, z_q_L_s_arr, z_q_K_s_arr, z_q_I_s_arr, z_q_J_s_arr, z_q_R_s_arr, z_q_n_s_arr, z_q_aI_s_arr, z_q_aJ_s_arr, z_q_aR_s_arr] using p2, by simpa -implicitDefEqProofs [z_q_L_s_I, z_q_K_s_I, z_q_I_s_I, z_q_J_s_I, z_q_R_s_I, z_q_n_s_I, z_q_aI_s_I, z_q_aJ_s_I, z_q_aR_s_I, z_q_L_s_J, z_q_K_s_J, z_q_I_s_J, z_q_J_s_J, z_q_R_s_J, z_q_n_s_J, z_q_aI_s_J, z_q_aJ_s_J, z_q_aR_s_J, z_q_L_s_R, z_q_K_s_R, z_q_I_s_R, z_q_J_s_R, z_q_R_s_R, z_q_n_s_R, z_q_aI_s_R, z_q_aJ_s_R, z_q_aR_s_R, z_q_L_s_aI, z_q_K_s_aI, z_q_I_s_aI, z_q_J_s_aI, z_q_R_s_aI, z_q_n_s_aI, z_q_aI_s_aI, z_q_aJ_s_aI, z_q_aR_s_aI, z_q_L_s_aJ, z_q_K_s_aJ, z_q_I_s_aJ, z_q_J_s_aJ, z_q_R_s_aJ, z_q_n_s_aJ, z_q_aI_s_aJ, z_q_aJ_s_aJ, z_q_aR_s_aJ, z_q_L_s_aR, z_q_K_s_aR, z_q_I_s_aR, z_q_J_s_aR, z_q_R_s_aR, z_q_n_s_aR, z_q_aI_s_aR, z_q_aJ_s_aR, z_q_aR_s_aR, z_q_L_s_new, z_q_K_s_new, z_q_I_s_new, z_q_J_s_new, z_q_R_s_new, z_q_n_s_new, z_q_aI_s_new, z_q_aJ_s_new, z_q_aR_s_new, z_q_L_s_arr, z_q_K_s_arr, z_q_I_s_arr, z_q_J_s_arr, z_q_R_s_arr, z_q_n_s_arr, z_q_aI_s_arr, z_q_aJ_s_arr, z_q_aR_s_arr] using p3, by simp -implicitDefEqProofs [z_q_L_s_I, z_q_K_s_I, z_q_I_s_I, z_q_J_s_I, z_q_R_s_I, z_q_n_s_I, z_q_aI_s_I, z_q_aJ_s_I, z_q_aR_s_I, z_q_L_s_J, z_q_K_s_J, z_q_I_s_J, z_q_J_s_J, z_q_R_s_J, z_q_n_s_J, z_q_aI_s_J, z_q_aJ_s_J, z_q_aR_s_J, z_q_L_s_R, z_q_K_s_R, z_q_I_s_R, z_q_J_s_R, z_q_R_s_R, z_q_n_s_R, z_q_aI_s_R, z_q_aJ_s_R, z_q_aR_s_R, z_q_L_s_aI, z_q_K_s_aI, z_q_I_s_aI, z_q_J_s_aI, z_q_R_s_aI, z_q_n_s_aI, z_q_aI_s_aI, z_q_aJ_s_aI, z_q_aR_s_aI, z_q_L_s_aJ, z_q_K_s_aJ, z_q_I_s_aJ, z_q_J_s_aJ, z_q_R_s_aJ, z_q_n_s_aJ, z_q_aI_s_aJ, z_q_aJ_s_aJ, z_q_aR_s_aJ, z_q_L_s_aR, z_q_K_s_aR, z_q_I_s_aR, z_q_J_s_aR, z_q_R_s_aR, z_q_n_s_aR, z_q_aI_s_aR, z_q_aJ_s_aR, z_q_aR_s_aR, z_q_L_s_new, z_q_K_s_new, z_q_I_s_new, z_q_J_s_new, z_q_R_s_new, z_q_n_s_new, z_q_aI_s_new, z_q_aJ_s_new, z_q_aR_s_new, z_q_L_s_arr, z_q_K_s_arr, z_q_I_s_arr, z_q_J_s_arr, z_q_R_s_arr, z_q_n_s_arr, z_q_aI_s_arr, z_q_aJ_s_arr, z_q_aR_s_arr, p4], Or.inl ⟨va_up_self _ _ _, ?_, ?_, ?_, ?_⟩⟩
      all_goals simp -implicitDefEqProofs [z_q_L_s_I, z_q_K_s_I, z_q_I_s_I, z_q_J_s_I, z_q_R_s_I, z_q_n_s_I, z_q_aI_s_I, z_q_aJ_s_I, z_q_aR_s_I, z_q_L_s_J, z_q_K_s_J, z_q_I_s_J, z_q_J_s_J, z_q_R_s_J, z_q_n_s_J, z_q_aI_s_J, z_q_aJ_s_J, z_q_aR_s_J, z_q_L_s_R, z_q_K_s_R, z_q_I_s_R, z_q_J_s_R, z_q_R_s_R, z_q_n_s_R, z_q_aI_s_R, z_q_aJ_s_R, z_q_aR_s_R, z_q_L_s_aI, z_q_K_s_aI, z_q_I_s_aI, z_q_J_s_aI, z_q_R_s_aI, z_q_n_s_aI, z_q_aI_s_aI, z_q_aJ_s_aI, z_q_aR_s_aI, z_q_L_s_aJ, z_q_K_s_aJ, z_q_I_s_aJ, z_q_J_s_aJ, z_q_R_s_aJ, z_q_n_s_aJ, z_q_aI_s_aJ, z_q_aJ_s_aJ, z_q_aR_s_aJ, z_q_L_s_aR, z_q_K_s_aR, z_q_I_s_aR, z_q_J_s_aR, z_q_R_s_aR, z_q_n_s_aR, z_q_aI_s_aR, z_q_aJ_s_aR, z_q_aR_s_aR, z_q_L_s_new, z_q_K_s_new, z_q_I_s_new, z_q_J_s_new, z_q_R_s_new, z_q_n_s_new, z_q_aI_s_new, z_q_aJ_s_new, z_q_aR_s_new, z_q_L_s_arr, z_q_K_s_arr, z_q_I_s_arr, z_q_J_s_arr, z_q_R_s_arr, z_q_n_s_arr, z_q_aI_s_arr, z_q_aJ_s_arr, z_q_aR_s_arr]
end PRIV3

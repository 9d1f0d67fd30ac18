/-! THE REFERENCE AS A REGISTER MACHINE: its numbers by field, its one long, its rows by field -/
section REFV
variable {Z : tk_Z} {d mc ms : Nat} {S : tk_S} {QR : tk_R} {ρ : Nat → Nat} {m : Nat}
abbrev vR : Type := (Nat → Int32) × Int64 × (Nat → Nat → Int32) × (Nat → Nat → Int64)
def vI (V : vR) : Nat → Int32 := V.1
def vJ (V : vR) : Int64 := V.2.1
def vA (V : vR) : Nat → Nat → Int32 := V.2.2.1
def vL (V : vR) : Nat → Nat → Int64 := V.2.2.2
def wI (V : vR) (k : Nat) (v : Int32) : vR := (upd V.1 k v, V.2)
def wJ (V : vR) (v : Int64) : vR := (V.1, v, V.2.2)
def wA (V : vR) (k : Nat) (f : Nat → Int32) : vR := (V.1, V.2.1, va_up V.2.2.1 k f, V.2.2.2)
def wL (V : vR) (k : Nat) (f : Nat → Int64) : vR := (V.1, V.2.1, V.2.2.1, va_up V.2.2.2 k f)
theorem vI_wI (V : vR) (k j : Nat) (v : Int32) : vI (wI V k v) j = if j = k then v else vI V j := rfl
theorem vI_wJ (V : vR) (v : Int64) : vI (wJ V v) = vI V := rfl
theorem vI_wA (V : vR) (k : Nat) (f : Nat → Int32) : vI (wA V k f) = vI V := rfl
theorem vI_wL (V : vR) (k : Nat) (f : Nat → Int64) : vI (wL V k f) = vI V := rfl
theorem vJ_wI (V : vR) (k : Nat) (v : Int32) : vJ (wI V k v) = vJ V := rfl
theorem vJ_wJ (V : vR) (v : Int64) : vJ (wJ V v) = v := rfl
theorem vJ_wA (V : vR) (k : Nat) (f : Nat → Int32) : vJ (wA V k f) = vJ V := rfl
theorem vJ_wL (V : vR) (k : Nat) (f : Nat → Int64) : vJ (wL V k f) = vJ V := rfl
theorem vA_wI (V : vR) (k : Nat) (v : Int32) : vA (wI V k v) = vA V := rfl
theorem vA_wJ (V : vR) (v : Int64) : vA (wJ V v) = vA V := rfl
theorem vA_wA (V : vR) (k j : Nat) (f : Nat → Int32) : vA (wA V k f) j = if j = k then f else vA V j := rfl
theorem vA_wL (V : vR) (k : Nat) (f : Nat → Int64) : vA (wL V k f) = vA V := rfl
theorem vL_wI (V : vR) (k : Nat) (v : Int32) : vL (wI V k v) = vL V := rfl
theorem vL_wJ (V : vR) (v : Int64) : vL (wJ V v) = vL V := rfl
theorem vL_wA (V : vR) (k : Nat) (f : Nat → Int32) : vL (wA V k f) = vL V := rfl
theorem vL_wL (V : vR) (k j : Nat) (f : Nat → Int64) : vL (wL V k f) j = if j = k then f else vL V j := rfl
theorem wI_wI (V : vR) (k : Nat) (v w : Int32) : wI (wI V k v) k w = wI V k w := by
  unfold wI
  congr 1
  funext j
  unfold upd
  dsimp only
  split <;> rfl
theorem wI_id (V : vR) (k : Nat) : wI V k (vI V k) = V := by
  unfold wI vI
  have : upd V.1 k (V.1 k) = V.1 := by
    funext j
    unfold upd
    split
    · rename_i h; rw [h]
    · rfl
  rw [this]
theorem wA_wA (V : vR) (k : Nat) (f g : Nat → Int32) : wA (wA V k f) k g = wA V k g := by
  unfold wA
  congr 3
  funext j
  unfold va_up
  dsimp only
  split <;> rfl
theorem wL_wL (V : vR) (k : Nat) (f g : Nat → Int64) : wL (wL V k f) k g = wL V k g := by
  unfold wL
  congr 3
  funext j
  unfold va_up
  dsimp only
  split <;> rfl
/-- the rows: of which kind, how long; cc: room for steps, cl: for lines -/
def rLk (cc cl : Nat) (k : Nat) : Option (Nat × Nat) := match k with
  | 1 => some (14, 2000) | 8 => some (15, 12) | 9 => some (15, 12) | 10 => some (15, 480) | 11 => some (15, 480) | 12 => some (15, 480) | 13 => some (15, 481) | 14 => some (15, 480) | 15 => some (15, cc) | 16 => some (15, cc)
  | 19 => some (15, 60) | 20 => some (15, 60) | 21 => some (15, 60) | 22 => some (15, 60) | 23 => some (15, 480) | 24 => some (15, 480) | 26 => some (15, 12) | 27 => some (16, 12) | 29 => some (15, 8) | 30 => some (15, 8) | 34 => some (17, 64) | 36 => some (15, 40)
  | 38 => some (15, cl) | 39 => some (15, cl) | 40 => some (15, cl) | 41 => some (15, cl) | 44 => some (16, 8) | 46 => some (15, 8) | 47 => some (15, 80) | 48 => some (15, 80) | 49 => some (15, 80) | 50 => some (15, 8) | 51 => some (15, 8) | 52 => some (15, 8) | 53 => some (15, 8) | 54 => some (15, 8)
  | 55 => some (15, 10) | 56 => some (15, 10) | 57 => some (15, 10) | 58 => some (16, 10) | 59 => some (16, 10) | 60 => some (16, 10) | _ => none
abbrev nT : Type := Nat → Option (Nat × Nat)
def rW (ρ : Nat → Nat) (S : tk_S) (m : Nat) (T : nT) (R : Nat → Nat) : Prop := rO ρ S m ∧ ∀ k kd cap, T k = some (kd, cap) → rA ρ S m k kd cap (R k)
theorem rW.ne {i j : Nat} {T : nT} {R : Nat → Nat} {a b : Nat × Nat} (h : rW ρ S m T R) (hi : T i = some a) (hj : T j = some b) (n : i ≠ j) : R i ≠ R j := (h.2 i a.1 a.2 hi).ne (h.2 j b.1 b.2 hj) n
def vw (S : tk_S) (m : Nat) (T : nT) (R : Nat → Nat) (V : vR) : Prop := (∀ k, q_I S 13 k m = vI V k) ∧ q_J S 13 43 m = vJ V ∧ (∀ k kd cap, T k = some (kd, cap) → kd ≠ 16 → q_aI S (R k) = vA V k) ∧ (∀ k cap, T k = some (16, cap) → q_aJ S (R k) = vL V k)
abbrev bS : Type := (Nat → Nat) × tk_S
/-- what has become of the cells of a beginning: those of roles below 100 stay -/
def bF (B : bS) (ρ : Nat → Nat) (S : tk_S) : Prop := gr B.2 S ∧ rx B.1 ρ B.2 ∧ ∀ b, b ∈ q_L B.2 → B.1 b < 100 → sameAt B.2 S b
def RS (B : bS) (m : Nat) (ρ : Nat → Nat) (S : tk_S) (T : nT) (R : Nat → Nat) (V : vR) : Prop := rW ρ S m T R ∧ vw S m T R V ∧ bF B ρ S
theorem bF.rfl' : bF (ρ, S) ρ S := ⟨fun _ h => h, fun _ _ => rfl, fun b hb _ => sameAt.rfl' hb⟩
theorem RS.base {B : bS} {T : nT} {R : Nat → Nat} {V : vR} (h : RS B m ρ S T R V) : RS (ρ, S) m ρ S T R V := ⟨h.1, h.2.1, bF.rfl'⟩
theorem RS.cast {B : bS} {T : nT} {R : Nat → Nat} {V V' : vR} (h : RS B m ρ S T R V) (e : V = V') : RS B m ρ S T R V' := e ▸ h
theorem RS.castT {B : bS} {T T' : nT} {R : Nat → Nat} {V : vR} (h : RS B m ρ S T R V) (e : T = T') : RS B m ρ S T' R V := e ▸ h
theorem bF.st {B : bS} {S' : tk_S} {a : Nat} (h : bF B ρ S) (ha : 100 ≤ ρ a) (hL : ∀ b, b ∈ q_L S → b ∈ q_L S') (hs : ∀ b, b ∈ q_L S → b ≠ a → sameAt S S' b) : bF B ρ S' := ⟨fun b hb => hL b (h.1 b hb), h.2.1, fun b hb hr => (h.2.2 b hb hr).trans (hs b (h.1 b hb) (fun z => by
  have := h.2.1 b hb
  rw [z] at this
  have q : ρ a < 100 := by rw [this]; exact z ▸ hr
  omega))⟩
theorem RS.iI {B : bS} {T : nT} {R : Nat → Nat} {V : vR} (h : RS B m ρ S T R V) (k : Nat) (v : Int32) : RS B m ρ (s_I S 13 k m v) T R (wI V k v) := by
  refine ⟨h.1, ⟨fun j => ?_, h.2.1.2.1, h.2.1.2.2.1, h.2.1.2.2.2⟩, h.2.2.st (a := m) (by rw [h.1.1.2.2]; decide) (fun _ z => z) (fun b hb hn => ?_)⟩
  · show tk_up3 (q_I S) 13 k m v 13 j m = upd V.1 k v j
    unfold tk_up3 upd
    by_cases hj : j = k
    · subst hj; simp
    · simp [hj]; exact h.2.1.1 j
  · simp -implicitDefEqProofs [sameAt, z_q_L_s_I, z_q_K_s_I, z_q_I_s_I, z_q_J_s_I, z_q_R_s_I, z_q_n_s_I, z_q_aI_s_I, z_q_aJ_s_I, z_q_aR_s_I, z_q_L_s_J, z_q_K_s_J, z_q_I_s_J, z_q_J_s_J, z_q_R_s_J, z_q_n_s_J, z_q_aI_s_J, z_q_aJ_s_J, z_q_aR_s_J, z_q_L_s_R, z_q_K_s_R, z_q_I_s_R, z_q_J_s_R, z_q_R_s_R, z_q_n_s_R, z_q_aI_s_R, z_q_aJ_s_R, z_q_aR_s_R, z_q_L_s_aI, z_q_K_s_aI, z_q_I_s_aI, z_q_J_s_aI, z_q_R_s_aI, z_q_n_s_aI, z_q_aI_s_aI, z_q_aJ_s_aI, z_q_aR_s_aI, z_q_L_s_aJ, z_q_K_s_aJ, z_q_I_s_aJ, z_q_J_s_aJ, z_q_R_s_aJ, z_q_n_s_aJ, z_q_aI_s_aJ, z_q_aJ_s_aJ, z_q_aR_s_aJ, z_q_L_s_aR, z_q_K_s_aR, z_q_I_s_aR, z_q_J_s_aR, z_q_R_s_aR, z_q_n_s_aR, z_q_aI_s_aR, z_q_aJ_s_aR, z_q_aR_s_aR, z_q_L_s_new, z_q_K_s_new, z_q_I_s_new, z_q_J_s_new, z_q_R_s_new, z_q_n_s_new, z_q_aI_s_new, z_q_aJ_s_new, z_q_aR_s_new, z_q_L_s_arr, z_q_K_s_arr, z_q_I_s_arr, z_q_J_s_arr, z_q_R_s_arr, z_q_n_s_arr, z_q_aI_s_arr, z_q_aJ_s_arr, z_q_aR_s_arr, hb, hn]
theorem RS.iJ {B : bS} {T : nT} {R : Nat → Nat} {V : vR} (h : RS B m ρ S T R V) (v : Int64) : RS B m ρ (s_J S 13 43 m v) T R (wJ V v) := by
  refine ⟨h.1, ⟨h.2.1.1, ?_, h.2.1.2.2.1, h.2.1.2.2.2⟩, h.2.2.st (a := m) (by rw [h.1.1.2.2]; decide) (fun _ z => z) (fun b hb hn => ?_)⟩
  · simp -implicitDefEqProofs [z_q_L_s_I, z_q_K_s_I, z_q_I_s_I, z_q_J_s_I, z_q_R_s_I, z_q_n_s_I, z_q_aI_s_I, z_q_aJ_s_I, z_q_aR_s_I, z_q_L_s_J, z_q_K_s_J, z_q_I_s_J, z_q_J_s_J, z_q_R_s_J, z_q_n_s_J, z_q_aI_s_J, z_q_aJ_s_J, z_q_aR_s_J, z_q_L_s_R, z_q_K_s_R, z_q_I_s_R, z_q_J_s_R, z_q_R_s_R, z_q_n_s_R, z_q_aI_s_R, z_q_aJ_s_R, z_q_aR_s_R, z_q_L_s_aI, z_q_K_s_aI, z_q_I_s_aI, z_q_J_s_aI, z_q_R_s_aI, z_q_n_s_aI, z_q_aI_s_aI, z_q_aJ_s_aI, z_q_aR_s_aI, z_q_L_s_aJ, z_q_K_s_aJ, z_q_I_s_aJ, z_q_J_s_aJ, z_q_R_s_aJ, z_q_n_s_aJ, z_q_aI_s_aJ, z_q_aJ_s_aJ, z_q_aR_s_aJ, z_q_L_s_aR, z_q_K_s_aR, z_q_I_s_aR, z_q_J_s_aR, z_q_R_s_aR, z_q_n_s_aR, z_q_aI_s_aR, z_q_aJ_s_aR, z_q_aR_s_aR, z_q_L_s_new, z_q_K_s_new, z_q_I_s_new, z_q_J_s_new, z_q_R_s_new, z_q_n_s_new, z_q_aI_s_new, z_q_aJ_s_new, z_q_aR_s_new, z_q_L_s_arr, z_q_K_s_arr, z_q_I_s_arr, z_q_J_s_arr, z_q_R_s_arr, z_q_n_s_arr, z_q_aI_s_arr, z_q_aJ_s_arr, z_q_aR_s_arr]; rfl
  · simp -implicitDefEqProofs [sameAt, z_q_L_s_I, z_q_K_s_I, z_q_I_s_I, z_q_J_s_I, z_q_R_s_I, z_q_n_s_I, z_q_aI_s_I, z_q_aJ_s_I, z_q_aR_s_I, z_q_L_s_J, z_q_K_s_J, z_q_I_s_J, z_q_J_s_J, z_q_R_s_J, z_q_n_s_J, z_q_aI_s_J, z_q_aJ_s_J, z_q_aR_s_J, z_q_L_s_R, z_q_K_s_R, z_q_I_s_R, z_q_J_s_R, z_q_R_s_R, z_q_n_s_R, z_q_aI_s_R, z_q_aJ_s_R, z_q_aR_s_R, z_q_L_s_aI, z_q_K_s_aI, z_q_I_s_aI, z_q_J_s_aI, z_q_R_s_aI, z_q_n_s_aI, z_q_aI_s_aI, z_q_aJ_s_aI, z_q_aR_s_aI, z_q_L_s_aJ, z_q_K_s_aJ, z_q_I_s_aJ, z_q_J_s_aJ, z_q_R_s_aJ, z_q_n_s_aJ, z_q_aI_s_aJ, z_q_aJ_s_aJ, z_q_aR_s_aJ, z_q_L_s_aR, z_q_K_s_aR, z_q_I_s_aR, z_q_J_s_aR, z_q_R_s_aR, z_q_n_s_aR, z_q_aI_s_aR, z_q_aJ_s_aR, z_q_aR_s_aR, z_q_L_s_new, z_q_K_s_new, z_q_I_s_new, z_q_J_s_new, z_q_R_s_new, z_q_n_s_new, z_q_aI_s_new, z_q_aJ_s_new, z_q_aR_s_new, z_q_L_s_arr, z_q_K_s_arr, z_q_I_s_arr, z_q_J_s_arr, z_q_R_s_arr, z_q_n_s_arr, z_q_aI_s_arr, z_q_aJ_s_arr, z_q_aR_s_arr, hb, hn]
theorem RS.iA {B : bS} {k : Nat} {T : nT} {a : Nat × Nat} {R : Nat → Nat} {V : vR} (h : RS B m ρ S T R V) (hk : T k = some a) (f : Nat → Int32) : RS B m ρ (s_aI S (R k) f) T R (wA V k f) := by
  refine ⟨h.1, ⟨h.2.1.1, h.2.1.2.1, fun j b c hj hb => ?_, h.2.1.2.2.2⟩, h.2.2.st (a := R k) (by rw [(h.1.2 k a.1 a.2 hk).2.2.2.2]; omega) (fun _ z => z) (fun b hb hn => ?_)⟩
  · show va_up (q_aI S) (R k) f (R j) = va_up V.2.2.1 k f j
    unfold va_up
    by_cases hjk : j = k
    · subst hjk; simp
    · simp [hjk, h.1.ne hj hk hjk]; exact h.2.1.2.2.1 j b c hj hb
  · simp -implicitDefEqProofs [sameAt, z_q_L_s_I, z_q_K_s_I, z_q_I_s_I, z_q_J_s_I, z_q_R_s_I, z_q_n_s_I, z_q_aI_s_I, z_q_aJ_s_I, z_q_aR_s_I, z_q_L_s_J, z_q_K_s_J, z_q_I_s_J, z_q_J_s_J, z_q_R_s_J, z_q_n_s_J, z_q_aI_s_J, z_q_aJ_s_J, z_q_aR_s_J, z_q_L_s_R, z_q_K_s_R, z_q_I_s_R, z_q_J_s_R, z_q_R_s_R, z_q_n_s_R, z_q_aI_s_R, z_q_aJ_s_R, z_q_aR_s_R, z_q_L_s_aI, z_q_K_s_aI, z_q_I_s_aI, z_q_J_s_aI, z_q_R_s_aI, z_q_n_s_aI, z_q_aI_s_aI, z_q_aJ_s_aI, z_q_aR_s_aI, z_q_L_s_aJ, z_q_K_s_aJ, z_q_I_s_aJ, z_q_J_s_aJ, z_q_R_s_aJ, z_q_n_s_aJ, z_q_aI_s_aJ, z_q_aJ_s_aJ, z_q_aR_s_aJ, z_q_L_s_aR, z_q_K_s_aR, z_q_I_s_aR, z_q_J_s_aR, z_q_R_s_aR, z_q_n_s_aR, z_q_aI_s_aR, z_q_aJ_s_aR, z_q_aR_s_aR, z_q_L_s_new, z_q_K_s_new, z_q_I_s_new, z_q_J_s_new, z_q_R_s_new, z_q_n_s_new, z_q_aI_s_new, z_q_aJ_s_new, z_q_aR_s_new, z_q_L_s_arr, z_q_K_s_arr, z_q_I_s_arr, z_q_J_s_arr, z_q_R_s_arr, z_q_n_s_arr, z_q_aI_s_arr, z_q_aJ_s_arr, z_q_aR_s_arr, hb, hn]
theorem RS.iL {B : bS} {k : Nat} {T : nT} {a : Nat × Nat} {R : Nat → Nat} {V : vR} (h : RS B m ρ S T R V) (hk : T k = some a) (f : Nat → Int64) : RS B m ρ (s_aJ S (R k) f) T R (wL V k f) := by
  refine ⟨h.1, ⟨h.2.1.1, h.2.1.2.1, h.2.1.2.2.1, fun j b hj => ?_⟩, h.2.2.st (a := R k) (by rw [(h.1.2 k a.1 a.2 hk).2.2.2.2]; omega) (fun _ z => z) (fun b hb hn => ?_)⟩
  · show va_up (q_aJ S) (R k) f (R j) = va_up V.2.2.2 k f j
    unfold va_up
    by_cases hjk : j = k
    · subst hjk; simp
    · simp [hjk, h.1.ne hj hk hjk]; exact h.2.1.2.2.2 j b hj
  · simp -implicitDefEqProofs [sameAt, z_q_L_s_I, z_q_K_s_I, z_q_I_s_I, z_q_J_s_I, z_q_R_s_I, z_q_n_s_I, z_q_aI_s_I, z_q_aJ_s_I, z_q_aR_s_I, z_q_L_s_J, z_q_K_s_J, z_q_I_s_J, z_q_J_s_J, z_q_R_s_J, z_q_n_s_J, z_q_aI_s_J, z_q_aJ_s_J, z_q_aR_s_J, z_q_L_s_R, z_q_K_s_R, z_q_I_s_R, z_q_J_s_R, z_q_R_s_R, z_q_n_s_R, z_q_aI_s_R, z_q_aJ_s_R, z_q_aR_s_R, z_q_L_s_aI, z_q_K_s_aI, z_q_I_s_aI, z_q_J_s_aI, z_q_R_s_aI, z_q_n_s_aI, z_q_aI_s_aI, z_q_aJ_s_aI, z_q_aR_s_aI, z_q_L_s_aJ, z_q_K_s_aJ, z_q_I_s_aJ, z_q_J_s_aJ, z_q_R_s_aJ, z_q_n_s_aJ, z_q_aI_s_aJ, z_q_aJ_s_aJ, z_q_aR_s_aJ, z_q_L_s_aR, z_q_K_s_aR, z_q_I_s_aR, z_q_J_s_aR, z_q_R_s_aR, z_q_n_s_aR, z_q_aI_s_aR, z_q_aJ_s_aR, z_q_aR_s_aR, z_q_L_s_new, z_q_K_s_new, z_q_I_s_new, z_q_J_s_new, z_q_R_s_new, z_q_n_s_new, z_q_aI_s_new, z_q_aJ_s_new, z_q_aR_s_new, z_q_L_s_arr, z_q_K_s_arr, z_q_I_s_arr, z_q_J_s_arr, z_q_R_s_arr, z_q_n_s_arr, z_q_aI_s_arr, z_q_aJ_s_arr, z_q_aR_s_arr, hb, hn]
/-- a row is put in the place of another -/
theorem RS.grow {B : bS} {k n N a : Nat} {T : nT} {R : Nat → Nat} {V : vR} (h : RS B m ρ S T R V) (hk : T k = some (15, n)) (ha : a ∉ q_L S) (f : Nat → Int32) : RS B m (va_up ρ a (101 + k)) (s_R (s_aI (s_arr S 15 a N) a f) 13 k m (some a)) (va_up T k (some (15, N))) (va_up R k a) (wA V k f) := by
  have hna : ∀ b, b ∈ q_L S → b ≠ a := fun b hb z => ha (z ▸ hb)
  have hm := hna m h.1.1.1
  refine ⟨⟨⟨?_, ?_, ?_⟩, fun j kd cap hj => ?_⟩, ⟨fun j => h.2.1.1 j, h.2.1.2.1, fun j kd cap hj hkd => ?_, fun j cap hj => ?_⟩, ?_⟩
  · simp -implicitDefEqProofs [z_q_L_s_I, z_q_K_s_I, z_q_I_s_I, z_q_J_s_I, z_q_R_s_I, z_q_n_s_I, z_q_aI_s_I, z_q_aJ_s_I, z_q_aR_s_I, z_q_L_s_J, z_q_K_s_J, z_q_I_s_J, z_q_J_s_J, z_q_R_s_J, z_q_n_s_J, z_q_aI_s_J, z_q_aJ_s_J, z_q_aR_s_J, z_q_L_s_R, z_q_K_s_R, z_q_I_s_R, z_q_J_s_R, z_q_R_s_R, z_q_n_s_R, z_q_aI_s_R, z_q_aJ_s_R, z_q_aR_s_R, z_q_L_s_aI, z_q_K_s_aI, z_q_I_s_aI, z_q_J_s_aI, z_q_R_s_aI, z_q_n_s_aI, z_q_aI_s_aI, z_q_aJ_s_aI, z_q_aR_s_aI, z_q_L_s_aJ, z_q_K_s_aJ, z_q_I_s_aJ, z_q_J_s_aJ, z_q_R_s_aJ, z_q_n_s_aJ, z_q_aI_s_aJ, z_q_aJ_s_aJ, z_q_aR_s_aJ, z_q_L_s_aR, z_q_K_s_aR, z_q_I_s_aR, z_q_J_s_aR, z_q_R_s_aR, z_q_n_s_aR, z_q_aI_s_aR, z_q_aJ_s_aR, z_q_aR_s_aR, z_q_L_s_new, z_q_K_s_new, z_q_I_s_new, z_q_J_s_new, z_q_R_s_new, z_q_n_s_new, z_q_aI_s_new, z_q_aJ_s_new, z_q_aR_s_new, z_q_L_s_arr, z_q_K_s_arr, z_q_I_s_arr, z_q_J_s_arr, z_q_R_s_arr, z_q_n_s_arr, z_q_aI_s_arr, z_q_aJ_s_arr, z_q_aR_s_arr, h.1.1.1]
  · simp -implicitDefEqProofs [z_q_L_s_I, z_q_K_s_I, z_q_I_s_I, z_q_J_s_I, z_q_R_s_I, z_q_n_s_I, z_q_aI_s_I, z_q_aJ_s_I, z_q_aR_s_I, z_q_L_s_J, z_q_K_s_J, z_q_I_s_J, z_q_J_s_J, z_q_R_s_J, z_q_n_s_J, z_q_aI_s_J, z_q_aJ_s_J, z_q_aR_s_J, z_q_L_s_R, z_q_K_s_R, z_q_I_s_R, z_q_J_s_R, z_q_R_s_R, z_q_n_s_R, z_q_aI_s_R, z_q_aJ_s_R, z_q_aR_s_R, z_q_L_s_aI, z_q_K_s_aI, z_q_I_s_aI, z_q_J_s_aI, z_q_R_s_aI, z_q_n_s_aI, z_q_aI_s_aI, z_q_aJ_s_aI, z_q_aR_s_aI, z_q_L_s_aJ, z_q_K_s_aJ, z_q_I_s_aJ, z_q_J_s_aJ, z_q_R_s_aJ, z_q_n_s_aJ, z_q_aI_s_aJ, z_q_aJ_s_aJ, z_q_aR_s_aJ, z_q_L_s_aR, z_q_K_s_aR, z_q_I_s_aR, z_q_J_s_aR, z_q_R_s_aR, z_q_n_s_aR, z_q_aI_s_aR, z_q_aJ_s_aR, z_q_aR_s_aR, z_q_L_s_new, z_q_K_s_new, z_q_I_s_new, z_q_J_s_new, z_q_R_s_new, z_q_n_s_new, z_q_aI_s_new, z_q_aJ_s_new, z_q_aR_s_new, z_q_L_s_arr, z_q_K_s_arr, z_q_I_s_arr, z_q_J_s_arr, z_q_R_s_arr, z_q_n_s_arr, z_q_aI_s_arr, z_q_aJ_s_arr, z_q_aR_s_arr, hm, h.1.1.2.1]
  · simp [va_up, hm, h.1.1.2.2]
  · by_cases hjk : j = k
    · subst hjk
      simp [va_up] at hj
      obtain ⟨rfl, rfl⟩ := hj
      refine ⟨?_, ?_, ?_, ?_, ?_⟩
      · simp -implicitDefEqProofs [z_q_L_s_I, z_q_K_s_I, z_q_I_s_I, z_q_J_s_I, z_q_R_s_I, z_q_n_s_I, z_q_aI_s_I, z_q_aJ_s_I, z_q_aR_s_I, z_q_L_s_J, z_q_K_s_J, z_q_I_s_J, z_q_J_s_J, z_q_R_s_J, z_q_n_s_J, z_q_aI_s_J, z_q_aJ_s_J, z_q_aR_s_J, z_q_L_s_R, z_q_K_s_R, z_q_I_s_R, z_q_J_s_R, z_q_R_s_R, z_q_n_s_R, z_q_aI_s_R, z_q_aJ_s_R, z_q_aR_s_R, z_q_L_s_aI, z_q_K_s_aI, z_q_I_s_aI, z_q_J_s_aI, z_q_R_s_aI, z_q_n_s_aI, z_q_aI_s_aI, z_q_aJ_s_aI, z_q_aR_s_aI, z_q_L_s_aJ, z_q_K_s_aJ, z_q_I_s_aJ, z_q_J_s_aJ, z_q_R_s_aJ, z_q_n_s_aJ, z_q_aI_s_aJ, z_q_aJ_s_aJ, z_q_aR_s_aJ, z_q_L_s_aR, z_q_K_s_aR, z_q_I_s_aR, z_q_J_s_aR, z_q_R_s_aR, z_q_n_s_aR, z_q_aI_s_aR, z_q_aJ_s_aR, z_q_aR_s_aR, z_q_L_s_new, z_q_K_s_new, z_q_I_s_new, z_q_J_s_new, z_q_R_s_new, z_q_n_s_new, z_q_aI_s_new, z_q_aJ_s_new, z_q_aR_s_new, z_q_L_s_arr, z_q_K_s_arr, z_q_I_s_arr, z_q_J_s_arr, z_q_R_s_arr, z_q_n_s_arr, z_q_aI_s_arr, z_q_aJ_s_arr, z_q_aR_s_arr, va_up]
      · simp -implicitDefEqProofs [z_q_L_s_I, z_q_K_s_I, z_q_I_s_I, z_q_J_s_I, z_q_R_s_I, z_q_n_s_I, z_q_aI_s_I, z_q_aJ_s_I, z_q_aR_s_I, z_q_L_s_J, z_q_K_s_J, z_q_I_s_J, z_q_J_s_J, z_q_R_s_J, z_q_n_s_J, z_q_aI_s_J, z_q_aJ_s_J, z_q_aR_s_J, z_q_L_s_R, z_q_K_s_R, z_q_I_s_R, z_q_J_s_R, z_q_R_s_R, z_q_n_s_R, z_q_aI_s_R, z_q_aJ_s_R, z_q_aR_s_R, z_q_L_s_aI, z_q_K_s_aI, z_q_I_s_aI, z_q_J_s_aI, z_q_R_s_aI, z_q_n_s_aI, z_q_aI_s_aI, z_q_aJ_s_aI, z_q_aR_s_aI, z_q_L_s_aJ, z_q_K_s_aJ, z_q_I_s_aJ, z_q_J_s_aJ, z_q_R_s_aJ, z_q_n_s_aJ, z_q_aI_s_aJ, z_q_aJ_s_aJ, z_q_aR_s_aJ, z_q_L_s_aR, z_q_K_s_aR, z_q_I_s_aR, z_q_J_s_aR, z_q_R_s_aR, z_q_n_s_aR, z_q_aI_s_aR, z_q_aJ_s_aR, z_q_aR_s_aR, z_q_L_s_new, z_q_K_s_new, z_q_I_s_new, z_q_J_s_new, z_q_R_s_new, z_q_n_s_new, z_q_aI_s_new, z_q_aJ_s_new, z_q_aR_s_new, z_q_L_s_arr, z_q_K_s_arr, z_q_I_s_arr, z_q_J_s_arr, z_q_R_s_arr, z_q_n_s_arr, z_q_aI_s_arr, z_q_aJ_s_arr, z_q_aR_s_arr, va_up]
      · simp -implicitDefEqProofs [z_q_L_s_I, z_q_K_s_I, z_q_I_s_I, z_q_J_s_I, z_q_R_s_I, z_q_n_s_I, z_q_aI_s_I, z_q_aJ_s_I, z_q_aR_s_I, z_q_L_s_J, z_q_K_s_J, z_q_I_s_J, z_q_J_s_J, z_q_R_s_J, z_q_n_s_J, z_q_aI_s_J, z_q_aJ_s_J, z_q_aR_s_J, z_q_L_s_R, z_q_K_s_R, z_q_I_s_R, z_q_J_s_R, z_q_R_s_R, z_q_n_s_R, z_q_aI_s_R, z_q_aJ_s_R, z_q_aR_s_R, z_q_L_s_aI, z_q_K_s_aI, z_q_I_s_aI, z_q_J_s_aI, z_q_R_s_aI, z_q_n_s_aI, z_q_aI_s_aI, z_q_aJ_s_aI, z_q_aR_s_aI, z_q_L_s_aJ, z_q_K_s_aJ, z_q_I_s_aJ, z_q_J_s_aJ, z_q_R_s_aJ, z_q_n_s_aJ, z_q_aI_s_aJ, z_q_aJ_s_aJ, z_q_aR_s_aJ, z_q_L_s_aR, z_q_K_s_aR, z_q_I_s_aR, z_q_J_s_aR, z_q_R_s_aR, z_q_n_s_aR, z_q_aI_s_aR, z_q_aJ_s_aR, z_q_aR_s_aR, z_q_L_s_new, z_q_K_s_new, z_q_I_s_new, z_q_J_s_new, z_q_R_s_new, z_q_n_s_new, z_q_aI_s_new, z_q_aJ_s_new, z_q_aR_s_new, z_q_L_s_arr, z_q_K_s_arr, z_q_I_s_arr, z_q_J_s_arr, z_q_R_s_arr, z_q_n_s_arr, z_q_aI_s_arr, z_q_aJ_s_arr, z_q_aR_s_arr, va_up]
      · simp -implicitDefEqProofs [z_q_L_s_I, z_q_K_s_I, z_q_I_s_I, z_q_J_s_I, z_q_R_s_I, z_q_n_s_I, z_q_aI_s_I, z_q_aJ_s_I, z_q_aR_s_I, z_q_L_s_J, z_q_K_s_J, z_q_I_s_J, z_q_J_s_J, z_q_R_s_J, z_q_n_s_J, z_q_aI_s_J, z_q_aJ_s_J, z_q_aR_s_J, z_q_L_s_R, z_q_K_s_R, z_q_I_s_R, z_q_J_s_R, z_q_R_s_R, z_q_n_s_R, z_q_aI_s_R, z_q_aJ_s_R, z_q_aR_s_R, z_q_L_s_aI, z_q_K_s_aI, z_q_I_s_aI, z_q_J_s_aI, z_q_R_s_aI, z_q_n_s_aI, z_q_aI_s_aI, z_q_aJ_s_aI, z_q_aR_s_aI, z_q_L_s_aJ, z_q_K_s_aJ, z_q_I_s_aJ, z_q_J_s_aJ, z_q_R_s_aJ, z_q_n_s_aJ, z_q_aI_s_aJ, z_q_aJ_s_aJ, z_q_aR_s_aJ, z_q_L_s_aR, z_q_K_s_aR, z_q_I_s_aR, z_q_J_s_aR, z_q_R_s_aR, z_q_n_s_aR, z_q_aI_s_aR, z_q_aJ_s_aR, z_q_aR_s_aR, z_q_L_s_new, z_q_K_s_new, z_q_I_s_new, z_q_J_s_new, z_q_R_s_new, z_q_n_s_new, z_q_aI_s_new, z_q_aJ_s_new, z_q_aR_s_new, z_q_L_s_arr, z_q_K_s_arr, z_q_I_s_arr, z_q_J_s_arr, z_q_R_s_arr, z_q_n_s_arr, z_q_aI_s_arr, z_q_aJ_s_arr, z_q_aR_s_arr, va_up]
      · simp [va_up]
    · simp [va_up, hjk] at hj
      obtain ⟨g1, g2, g3, g4, g5⟩ := h.1.2 j kd cap hj
      have gn := hna _ g2
      refine ⟨?_, ?_, ?_, ?_, ?_⟩
      · simp -implicitDefEqProofs [z_q_L_s_I, z_q_K_s_I, z_q_I_s_I, z_q_J_s_I, z_q_R_s_I, z_q_n_s_I, z_q_aI_s_I, z_q_aJ_s_I, z_q_aR_s_I, z_q_L_s_J, z_q_K_s_J, z_q_I_s_J, z_q_J_s_J, z_q_R_s_J, z_q_n_s_J, z_q_aI_s_J, z_q_aJ_s_J, z_q_aR_s_J, z_q_L_s_R, z_q_K_s_R, z_q_I_s_R, z_q_J_s_R, z_q_R_s_R, z_q_n_s_R, z_q_aI_s_R, z_q_aJ_s_R, z_q_aR_s_R, z_q_L_s_aI, z_q_K_s_aI, z_q_I_s_aI, z_q_J_s_aI, z_q_R_s_aI, z_q_n_s_aI, z_q_aI_s_aI, z_q_aJ_s_aI, z_q_aR_s_aI, z_q_L_s_aJ, z_q_K_s_aJ, z_q_I_s_aJ, z_q_J_s_aJ, z_q_R_s_aJ, z_q_n_s_aJ, z_q_aI_s_aJ, z_q_aJ_s_aJ, z_q_aR_s_aJ, z_q_L_s_aR, z_q_K_s_aR, z_q_I_s_aR, z_q_J_s_aR, z_q_R_s_aR, z_q_n_s_aR, z_q_aI_s_aR, z_q_aJ_s_aR, z_q_aR_s_aR, z_q_L_s_new, z_q_K_s_new, z_q_I_s_new, z_q_J_s_new, z_q_R_s_new, z_q_n_s_new, z_q_aI_s_new, z_q_aJ_s_new, z_q_aR_s_new, z_q_L_s_arr, z_q_K_s_arr, z_q_I_s_arr, z_q_J_s_arr, z_q_R_s_arr, z_q_n_s_arr, z_q_aI_s_arr, z_q_aJ_s_arr, z_q_aR_s_arr, va_up, hjk, g1]
      · simp -implicitDefEqProofs [z_q_L_s_I, z_q_K_s_I, z_q_I_s_I, z_q_J_s_I, z_q_R_s_I, z_q_n_s_I, z_q_aI_s_I, z_q_aJ_s_I, z_q_aR_s_I, z_q_L_s_J, z_q_K_s_J, z_q_I_s_J, z_q_J_s_J, z_q_R_s_J, z_q_n_s_J, z_q_aI_s_J, z_q_aJ_s_J, z_q_aR_s_J, z_q_L_s_R, z_q_K_s_R, z_q_I_s_R, z_q_J_s_R, z_q_R_s_R, z_q_n_s_R, z_q_aI_s_R, z_q_aJ_s_R, z_q_aR_s_R, z_q_L_s_aI, z_q_K_s_aI, z_q_I_s_aI, z_q_J_s_aI, z_q_R_s_aI, z_q_n_s_aI, z_q_aI_s_aI, z_q_aJ_s_aI, z_q_aR_s_aI, z_q_L_s_aJ, z_q_K_s_aJ, z_q_I_s_aJ, z_q_J_s_aJ, z_q_R_s_aJ, z_q_n_s_aJ, z_q_aI_s_aJ, z_q_aJ_s_aJ, z_q_aR_s_aJ, z_q_L_s_aR, z_q_K_s_aR, z_q_I_s_aR, z_q_J_s_aR, z_q_R_s_aR, z_q_n_s_aR, z_q_aI_s_aR, z_q_aJ_s_aR, z_q_aR_s_aR, z_q_L_s_new, z_q_K_s_new, z_q_I_s_new, z_q_J_s_new, z_q_R_s_new, z_q_n_s_new, z_q_aI_s_new, z_q_aJ_s_new, z_q_aR_s_new, z_q_L_s_arr, z_q_K_s_arr, z_q_I_s_arr, z_q_J_s_arr, z_q_R_s_arr, z_q_n_s_arr, z_q_aI_s_arr, z_q_aJ_s_arr, z_q_aR_s_arr, va_up, hjk, g2]
      · simp -implicitDefEqProofs [z_q_L_s_I, z_q_K_s_I, z_q_I_s_I, z_q_J_s_I, z_q_R_s_I, z_q_n_s_I, z_q_aI_s_I, z_q_aJ_s_I, z_q_aR_s_I, z_q_L_s_J, z_q_K_s_J, z_q_I_s_J, z_q_J_s_J, z_q_R_s_J, z_q_n_s_J, z_q_aI_s_J, z_q_aJ_s_J, z_q_aR_s_J, z_q_L_s_R, z_q_K_s_R, z_q_I_s_R, z_q_J_s_R, z_q_R_s_R, z_q_n_s_R, z_q_aI_s_R, z_q_aJ_s_R, z_q_aR_s_R, z_q_L_s_aI, z_q_K_s_aI, z_q_I_s_aI, z_q_J_s_aI, z_q_R_s_aI, z_q_n_s_aI, z_q_aI_s_aI, z_q_aJ_s_aI, z_q_aR_s_aI, z_q_L_s_aJ, z_q_K_s_aJ, z_q_I_s_aJ, z_q_J_s_aJ, z_q_R_s_aJ, z_q_n_s_aJ, z_q_aI_s_aJ, z_q_aJ_s_aJ, z_q_aR_s_aJ, z_q_L_s_aR, z_q_K_s_aR, z_q_I_s_aR, z_q_J_s_aR, z_q_R_s_aR, z_q_n_s_aR, z_q_aI_s_aR, z_q_aJ_s_aR, z_q_aR_s_aR, z_q_L_s_new, z_q_K_s_new, z_q_I_s_new, z_q_J_s_new, z_q_R_s_new, z_q_n_s_new, z_q_aI_s_new, z_q_aJ_s_new, z_q_aR_s_new, z_q_L_s_arr, z_q_K_s_arr, z_q_I_s_arr, z_q_J_s_arr, z_q_R_s_arr, z_q_n_s_arr, z_q_aI_s_arr, z_q_aJ_s_arr, z_q_aR_s_arr, va_up, hjk, gn, g3]
      · simp -implicitDefEqProofs [z_q_L_s_I, z_q_K_s_I, z_q_I_s_I, z_q_J_s_I, z_q_R_s_I, z_q_n_s_I, z_q_aI_s_I, z_q_aJ_s_I, z_q_aR_s_I, z_q_L_s_J, z_q_K_s_J, z_q_I_s_J, z_q_J_s_J, z_q_R_s_J, z_q_n_s_J, z_q_aI_s_J, z_q_aJ_s_J, z_q_aR_s_J, z_q_L_s_R, z_q_K_s_R, z_q_I_s_R, z_q_J_s_R, z_q_R_s_R, z_q_n_s_R, z_q_aI_s_R, z_q_aJ_s_R, z_q_aR_s_R, z_q_L_s_aI, z_q_K_s_aI, z_q_I_s_aI, z_q_J_s_aI, z_q_R_s_aI, z_q_n_s_aI, z_q_aI_s_aI, z_q_aJ_s_aI, z_q_aR_s_aI, z_q_L_s_aJ, z_q_K_s_aJ, z_q_I_s_aJ, z_q_J_s_aJ, z_q_R_s_aJ, z_q_n_s_aJ, z_q_aI_s_aJ, z_q_aJ_s_aJ, z_q_aR_s_aJ, z_q_L_s_aR, z_q_K_s_aR, z_q_I_s_aR, z_q_J_s_aR, z_q_R_s_aR, z_q_n_s_aR, z_q_aI_s_aR, z_q_aJ_s_aR, z_q_aR_s_aR, z_q_L_s_new, z_q_K_s_new, z_q_I_s_new, z_q_J_s_new, z_q_R_s_new, z_q_n_s_new, z_q_aI_s_new, z_q_aJ_s_new, z_q_aR_s_new, z_q_L_s_arr, z_q_K_s_arr, z_q_I_s_arr, z_q_J_s_arr, z_q_R_s_arr, z_q_n_s_arr, z_q_aI_s_arr, z_q_aJ_s_arr, z_q_aR_s_arr, va_up, hjk, gn, g4]
      · simp [va_up, hjk, gn, g5]
  · show q_aI (s_R (s_aI (s_arr S 15 a N) a f) 13 k m (some a)) (va_up R k a j) = va_up V.2.2.1 k f j
    by_cases hjk : j = k
    · subst hjk
      simp -implicitDefEqProofs [z_q_L_s_I, z_q_K_s_I, z_q_I_s_I, z_q_J_s_I, z_q_R_s_I, z_q_n_s_I, z_q_aI_s_I, z_q_aJ_s_I, z_q_aR_s_I, z_q_L_s_J, z_q_K_s_J, z_q_I_s_J, z_q_J_s_J, z_q_R_s_J, z_q_n_s_J, z_q_aI_s_J, z_q_aJ_s_J, z_q_aR_s_J, z_q_L_s_R, z_q_K_s_R, z_q_I_s_R, z_q_J_s_R, z_q_R_s_R, z_q_n_s_R, z_q_aI_s_R, z_q_aJ_s_R, z_q_aR_s_R, z_q_L_s_aI, z_q_K_s_aI, z_q_I_s_aI, z_q_J_s_aI, z_q_R_s_aI, z_q_n_s_aI, z_q_aI_s_aI, z_q_aJ_s_aI, z_q_aR_s_aI, z_q_L_s_aJ, z_q_K_s_aJ, z_q_I_s_aJ, z_q_J_s_aJ, z_q_R_s_aJ, z_q_n_s_aJ, z_q_aI_s_aJ, z_q_aJ_s_aJ, z_q_aR_s_aJ, z_q_L_s_aR, z_q_K_s_aR, z_q_I_s_aR, z_q_J_s_aR, z_q_R_s_aR, z_q_n_s_aR, z_q_aI_s_aR, z_q_aJ_s_aR, z_q_aR_s_aR, z_q_L_s_new, z_q_K_s_new, z_q_I_s_new, z_q_J_s_new, z_q_R_s_new, z_q_n_s_new, z_q_aI_s_new, z_q_aJ_s_new, z_q_aR_s_new, z_q_L_s_arr, z_q_K_s_arr, z_q_I_s_arr, z_q_J_s_arr, z_q_R_s_arr, z_q_n_s_arr, z_q_aI_s_arr, z_q_aJ_s_arr, z_q_aR_s_arr, va_up]
    · simp [va_up, hjk] at hj
      have gn := hna _ (h.1.2 j kd cap hj).2.1
      simp -implicitDefEqProofs [z_q_L_s_I, z_q_K_s_I, z_q_I_s_I, z_q_J_s_I, z_q_R_s_I, z_q_n_s_I, z_q_aI_s_I, z_q_aJ_s_I, z_q_aR_s_I, z_q_L_s_J, z_q_K_s_J, z_q_I_s_J, z_q_J_s_J, z_q_R_s_J, z_q_n_s_J, z_q_aI_s_J, z_q_aJ_s_J, z_q_aR_s_J, z_q_L_s_R, z_q_K_s_R, z_q_I_s_R, z_q_J_s_R, z_q_R_s_R, z_q_n_s_R, z_q_aI_s_R, z_q_aJ_s_R, z_q_aR_s_R, z_q_L_s_aI, z_q_K_s_aI, z_q_I_s_aI, z_q_J_s_aI, z_q_R_s_aI, z_q_n_s_aI, z_q_aI_s_aI, z_q_aJ_s_aI, z_q_aR_s_aI, z_q_L_s_aJ, z_q_K_s_aJ, z_q_I_s_aJ, z_q_J_s_aJ, z_q_R_s_aJ, z_q_n_s_aJ, z_q_aI_s_aJ, z_q_aJ_s_aJ, z_q_aR_s_aJ, z_q_L_s_aR, z_q_K_s_aR, z_q_I_s_aR, z_q_J_s_aR, z_q_R_s_aR, z_q_n_s_aR, z_q_aI_s_aR, z_q_aJ_s_aR, z_q_aR_s_aR, z_q_L_s_new, z_q_K_s_new, z_q_I_s_new, z_q_J_s_new, z_q_R_s_new, z_q_n_s_new, z_q_aI_s_new, z_q_aJ_s_new, z_q_aR_s_new, z_q_L_s_arr, z_q_K_s_arr, z_q_I_s_arr, z_q_J_s_arr, z_q_R_s_arr, z_q_n_s_arr, z_q_aI_s_arr, z_q_aJ_s_arr, z_q_aR_s_arr, va_up, hjk, gn]
      exact h.2.1.2.2.1 j kd cap hj hkd
  · by_cases hjk : j = k
    · subst hjk
      simp [va_up] at hj
    · simp [va_up, hjk] at hj
      have gn := hna _ (h.1.2 j 16 cap hj).2.1
      show q_aJ (s_R (s_aI (s_arr S 15 a N) a f) 13 k m (some a)) (va_up R k a j) = _
      simp -implicitDefEqProofs [z_q_L_s_I, z_q_K_s_I, z_q_I_s_I, z_q_J_s_I, z_q_R_s_I, z_q_n_s_I, z_q_aI_s_I, z_q_aJ_s_I, z_q_aR_s_I, z_q_L_s_J, z_q_K_s_J, z_q_I_s_J, z_q_J_s_J, z_q_R_s_J, z_q_n_s_J, z_q_aI_s_J, z_q_aJ_s_J, z_q_aR_s_J, z_q_L_s_R, z_q_K_s_R, z_q_I_s_R, z_q_J_s_R, z_q_R_s_R, z_q_n_s_R, z_q_aI_s_R, z_q_aJ_s_R, z_q_aR_s_R, z_q_L_s_aI, z_q_K_s_aI, z_q_I_s_aI, z_q_J_s_aI, z_q_R_s_aI, z_q_n_s_aI, z_q_aI_s_aI, z_q_aJ_s_aI, z_q_aR_s_aI, z_q_L_s_aJ, z_q_K_s_aJ, z_q_I_s_aJ, z_q_J_s_aJ, z_q_R_s_aJ, z_q_n_s_aJ, z_q_aI_s_aJ, z_q_aJ_s_aJ, z_q_aR_s_aJ, z_q_L_s_aR, z_q_K_s_aR, z_q_I_s_aR, z_q_J_s_aR, z_q_R_s_aR, z_q_n_s_aR, z_q_aI_s_aR, z_q_aJ_s_aR, z_q_aR_s_aR, z_q_L_s_new, z_q_K_s_new, z_q_I_s_new, z_q_J_s_new, z_q_R_s_new, z_q_n_s_new, z_q_aI_s_new, z_q_aJ_s_new, z_q_aR_s_new, z_q_L_s_arr, z_q_K_s_arr, z_q_I_s_arr, z_q_J_s_arr, z_q_R_s_arr, z_q_n_s_arr, z_q_aI_s_arr, z_q_aJ_s_arr, z_q_aR_s_arr, va_up, hjk, gn]
      exact h.2.1.2.2.2 j cap hj
  · obtain ⟨b1, b2, b3⟩ := h.2.2
    refine ⟨fun b hb => ?_, fun b hb => ?_, fun b hb hr => ?_⟩
    · simp -implicitDefEqProofs [z_q_L_s_I, z_q_K_s_I, z_q_I_s_I, z_q_J_s_I, z_q_R_s_I, z_q_n_s_I, z_q_aI_s_I, z_q_aJ_s_I, z_q_aR_s_I, z_q_L_s_J, z_q_K_s_J, z_q_I_s_J, z_q_J_s_J, z_q_R_s_J, z_q_n_s_J, z_q_aI_s_J, z_q_aJ_s_J, z_q_aR_s_J, z_q_L_s_R, z_q_K_s_R, z_q_I_s_R, z_q_J_s_R, z_q_R_s_R, z_q_n_s_R, z_q_aI_s_R, z_q_aJ_s_R, z_q_aR_s_R, z_q_L_s_aI, z_q_K_s_aI, z_q_I_s_aI, z_q_J_s_aI, z_q_R_s_aI, z_q_n_s_aI, z_q_aI_s_aI, z_q_aJ_s_aI, z_q_aR_s_aI, z_q_L_s_aJ, z_q_K_s_aJ, z_q_I_s_aJ, z_q_J_s_aJ, z_q_R_s_aJ, z_q_n_s_aJ, z_q_aI_s_aJ, z_q_aJ_s_aJ, z_q_aR_s_aJ, z_q_L_s_aR, z_q_K_s_aR, z_q_I_s_aR, z_q_J_s_aR, z_q_R_s_aR, z_q_n_s_aR, z_q_aI_s_aR, z_q_aJ_s_aR, z_q_aR_s_aR, z_q_L_s_new, z_q_K_s_new, z_q_I_s_new, z_q_J_s_new, z_q_R_s_new, z_q_n_s_new, z_q_aI_s_new, z_q_aJ_s_new, z_q_aR_s_new, z_q_L_s_arr, z_q_K_s_arr, z_q_I_s_arr, z_q_J_s_arr, z_q_R_s_arr, z_q_n_s_arr, z_q_aI_s_arr, z_q_aJ_s_arr, z_q_aR_s_arr, b1 b hb]
    · simp [va_up, hna b (b1 b hb)]; exact b2 b hb
    · refine (b3 b hb hr).trans ?_
      have gn := hna b (b1 b hb)
      have gm : b ≠ m := fun z => by
        have := b2 b hb
        rw [z, h.1.1.2.2] at this
        rw [← z] at this
        omega
      simp -implicitDefEqProofs [sameAt, z_q_L_s_I, z_q_K_s_I, z_q_I_s_I, z_q_J_s_I, z_q_R_s_I, z_q_n_s_I, z_q_aI_s_I, z_q_aJ_s_I, z_q_aR_s_I, z_q_L_s_J, z_q_K_s_J, z_q_I_s_J, z_q_J_s_J, z_q_R_s_J, z_q_n_s_J, z_q_aI_s_J, z_q_aJ_s_J, z_q_aR_s_J, z_q_L_s_R, z_q_K_s_R, z_q_I_s_R, z_q_J_s_R, z_q_R_s_R, z_q_n_s_R, z_q_aI_s_R, z_q_aJ_s_R, z_q_aR_s_R, z_q_L_s_aI, z_q_K_s_aI, z_q_I_s_aI, z_q_J_s_aI, z_q_R_s_aI, z_q_n_s_aI, z_q_aI_s_aI, z_q_aJ_s_aI, z_q_aR_s_aI, z_q_L_s_aJ, z_q_K_s_aJ, z_q_I_s_aJ, z_q_J_s_aJ, z_q_R_s_aJ, z_q_n_s_aJ, z_q_aI_s_aJ, z_q_aJ_s_aJ, z_q_aR_s_aJ, z_q_L_s_aR, z_q_K_s_aR, z_q_I_s_aR, z_q_J_s_aR, z_q_R_s_aR, z_q_n_s_aR, z_q_aI_s_aR, z_q_aJ_s_aR, z_q_aR_s_aR, z_q_L_s_new, z_q_K_s_new, z_q_I_s_new, z_q_J_s_new, z_q_R_s_new, z_q_n_s_new, z_q_aI_s_new, z_q_aJ_s_new, z_q_aR_s_new, z_q_L_s_arr, z_q_K_s_arr, z_q_I_s_arr, z_q_J_s_arr, z_q_R_s_arr, z_q_n_s_arr, z_q_aI_s_arr, z_q_aJ_s_arr, z_q_aR_s_arr, b1 b hb, gn, gm]
/-- what a method of the reference leaves -/
def okV (B : bS) (m : Nat) (T : nT) (QR : tk_R) (o : Option Value) (V : vR) : Prop := ∀ S' ρ' R', RS B m ρ' S' T R' V → QR o S'
theorem vR_ext {V V' : vR} (h1 : ∀ k, vI V k = vI V' k) (h2 : vJ V = vJ V') (h3 : ∀ k, vA V k = vA V' k) (h4 : ∀ k, vL V k = vL V' k) : V = V' := by
  obtain ⟨a, b, c, e⟩ := V
  obtain ⟨a', b', c', e'⟩ := V'
  have e1 : a = a' := funext h1
  have e2 : b = b' := h2
  have e3 : c = c' := funext h3
  have e4 : e = e' := funext h4
  rw [e1, e2, e3, e4]
/-! room that is doubled -/
def cp (b n : Nat) : Nat := if n ≤ b then b else if n ≤ 2 * b then 2 * b else if n ≤ 4 * b then 4 * b else if n ≤ 8 * b then 8 * b else if n ≤ 16 * b then 16 * b else 32 * b
def lv (b n : Nat) : Nat := if n ≤ b then 0 else if n ≤ 2 * b then 1 else if n ≤ 4 * b then 2 else if n ≤ 8 * b then 3 else if n ≤ 16 * b then 4 else 5
theorem cp_ge {b n : Nat} (h : n ≤ 32 * b) : n ≤ cp b n ∧ cp b n ≤ 32 * b ∧ b ≤ cp b n := by
  unfold cp
  repeat' split
  all_goals omega
theorem cp_in {b n : Nat} (h : n < cp b n) : cp b (n + 1) = cp b n ∧ lv b (n + 1) = lv b n := by
  unfold cp at *
  unfold lv
  repeat' split at h
  all_goals (repeat' split) <;> omega
theorem cp_full {b n : Nat} (hb : 0 < b) (h : n = cp b n) (hn : n < 32 * b) : cp b (n + 1) = 2 * n ∧ lv b (n + 1) = lv b n + 1 := by
  unfold cp at *
  unfold lv
  repeat' split at h
  all_goals (repeat' split) <;> omega
theorem lv_mono {b x y : Nat} (h : x ≤ y) : lv b x ≤ lv b y := by
  unfold lv
  repeat' split
  all_goals omega
theorem lv_le (b n : Nat) : lv b n ≤ 5 := by
  unfold lv
  repeat' split
  all_goals omega
end REFV

/-! THE CLASS'S CALLS: a pass -/
section PUB7
variable {Z : tk_Z} {d mc ms : Nat} {S : tk_S} {QR : tk_R} {QX : String → tk_S → Prop} {ρ : Nat → Nat} {x : Nat} {gh : gH} {M : Mt}
/-- one pass more at a gate -/
theorem CI.ps {g : Nat} (hC : CI Z ρ S x gh M) (hZ : Z.2.2.2.2.2.1 ∉ q_L S) (hg : g < M.2.2.2.1.1) (v : Int32) : CI Z ρ (s_I S 6 3 (gh.2.1 g) v) x gh (M.1, M.2.1, M.2.2.1, (M.2.2.2.1.1, M.2.2.2.1.2.1, upd M.2.2.2.1.2.2.1 g v, M.2.2.2.1.2.2.2), M.2.2.2.2) ∧ FO ρ ρ S (s_I S 6 3 (gh.2.1 g) v) ∧ sameAt S (s_I S 6 3 (gh.2.1 g) v) x := by
  have hC0 := hC
  obtain ⟨fS, fG, fV, p, p2, fF, fL, bl⟩ := gh
  obtain ⟨⟨tn, tg, tp⟩, acts, ⟨nS, pr, wo⟩, ⟨nG, os, ps, ls, re, su, du, le, nb, bf, br, bs⟩, ⟨nV, kd, wh, be, bi, pa, pd, la⟩, ⟨nF, mo⟩, ⟨nL, lsu, lra, lrk, ldu⟩, J, ⟨td, dry, lc⟩⟩ := M
  obtain ⟨cD0, cT0, cK0, cA0, cS0, cG0, cV0, cF0, cL0, cJ0⟩ := hC
  obtain ⟨hx, hk, hρ, htd, ht, hdry, hlc⟩ := cD0
  obtain ⟨l, e, h1, h2, h3, h31, h4, h5⟩ := id cG0
  dsimp only at hg ⊢
  have hgr := h2.2.2.2 g hg
  obtain ⟨y1, y2⟩ := h2.1.2.2.2.2.2.2.1 g hg
  have s0 : ∀ b, b ∈ q_L S → b ≠ fG g → sameAt S (s_I S 6 3 (fG g) v) b := fun b hb hn => s_I_same hb hn
  have s1 : ∀ b, b ∈ q_L S → ρ b ∉ [41] → sameAt S (s_I S 6 3 (fG g) v) b := fun b hb hn => s0 b hb (fun z => hn (by rw [z, hgr]; simp))
  have sx := s1 x hx (by rw [hρ]; simp)
  have cG1 : cG Z ρ (s_I S 6 3 (fG g) v) x fG fS fF bl nS nF nG os (upd ps g v) ls re su du le nb bf br bs := by
    refine cG0.put hZ hg (xr.of sx) (fun b hb => hb) s0 y2 (fun i hi => ⟨pk_un hi, rfl, rfl, rfl, rfl, rfl⟩) ?_
    obtain ⟨⟨u1, u2, u3, u4, u5⟩, -⟩ := h5 g hg
    refine ⟨by simp -implicitDefEqProofs [z_q_L_s_I, z_q_K_s_I, z_q_I_s_I, z_q_J_s_I, z_q_R_s_I, z_q_n_s_I, z_q_aI_s_I, z_q_aJ_s_I, z_q_aR_s_I, z_q_L_s_J, z_q_K_s_J, z_q_I_s_J, z_q_J_s_J, z_q_R_s_J, z_q_n_s_J, z_q_aI_s_J, z_q_aJ_s_J, z_q_aR_s_J, z_q_L_s_R, z_q_K_s_R, z_q_I_s_R, z_q_J_s_R, z_q_R_s_R, z_q_n_s_R, z_q_aI_s_R, z_q_aJ_s_R, z_q_aR_s_R, z_q_L_s_aI, z_q_K_s_aI, z_q_I_s_aI, z_q_J_s_aI, z_q_R_s_aI, z_q_n_s_aI, z_q_aI_s_aI, z_q_aJ_s_aI, z_q_aR_s_aI, z_q_L_s_aJ, z_q_K_s_aJ, z_q_I_s_aJ, z_q_J_s_aJ, z_q_R_s_aJ, z_q_n_s_aJ, z_q_aI_s_aJ, z_q_aJ_s_aJ, z_q_aR_s_aJ, z_q_L_s_aR, z_q_K_s_aR, z_q_I_s_aR, z_q_J_s_aR, z_q_R_s_aR, z_q_n_s_aR, z_q_aI_s_aR, z_q_aJ_s_aR, z_q_aR_s_aR, z_q_L_s_new, z_q_K_s_new, z_q_I_s_new, z_q_J_s_new, z_q_R_s_new, z_q_n_s_new, z_q_aI_s_new, z_q_aJ_s_new, z_q_aR_s_new, z_q_L_s_arr, z_q_K_s_arr, z_q_I_s_arr, z_q_J_s_arr, z_q_R_s_arr, z_q_n_s_arr, z_q_aI_s_arr, z_q_aJ_s_arr, z_q_aR_s_arr, u1], u2, u3, by simp -implicitDefEqProofs [z_q_L_s_I, z_q_K_s_I, z_q_I_s_I, z_q_J_s_I, z_q_R_s_I, z_q_n_s_I, z_q_aI_s_I, z_q_aJ_s_I, z_q_aR_s_I, z_q_L_s_J, z_q_K_s_J, z_q_I_s_J, z_q_J_s_J, z_q_R_s_J, z_q_n_s_J, z_q_aI_s_J, z_q_aJ_s_J, z_q_aR_s_J, z_q_L_s_R, z_q_K_s_R, z_q_I_s_R, z_q_J_s_R, z_q_R_s_R, z_q_n_s_R, z_q_aI_s_R, z_q_aJ_s_R, z_q_aR_s_R, z_q_L_s_aI, z_q_K_s_aI, z_q_I_s_aI, z_q_J_s_aI, z_q_R_s_aI, z_q_n_s_aI, z_q_aI_s_aI, z_q_aJ_s_aI, z_q_aR_s_aI, z_q_L_s_aJ, z_q_K_s_aJ, z_q_I_s_aJ, z_q_J_s_aJ, z_q_R_s_aJ, z_q_n_s_aJ, z_q_aI_s_aJ, z_q_aJ_s_aJ, z_q_aR_s_aJ, z_q_L_s_aR, z_q_K_s_aR, z_q_I_s_aR, z_q_J_s_aR, z_q_R_s_aR, z_q_n_s_aR, z_q_aI_s_aR, z_q_aJ_s_aR, z_q_aR_s_aR, z_q_L_s_new, z_q_K_s_new, z_q_I_s_new, z_q_J_s_new, z_q_R_s_new, z_q_n_s_new, z_q_aI_s_new, z_q_aJ_s_new, z_q_aR_s_new, z_q_L_s_arr, z_q_K_s_arr, z_q_I_s_arr, z_q_J_s_arr, z_q_R_s_arr, z_q_n_s_arr, z_q_aI_s_arr, z_q_aJ_s_arr, z_q_aR_s_arr, pk_us], ?_⟩
    rcases u5 with ⟨v1, v2, v3, v4, v5⟩ | ⟨f', v1, v2, v3, v4, v5, v6, v7⟩
    · exact Or.inl ⟨v1, v2, by simp -implicitDefEqProofs [z_q_L_s_I, z_q_K_s_I, z_q_I_s_I, z_q_J_s_I, z_q_R_s_I, z_q_n_s_I, z_q_aI_s_I, z_q_aJ_s_I, z_q_aR_s_I, z_q_L_s_J, z_q_K_s_J, z_q_I_s_J, z_q_J_s_J, z_q_R_s_J, z_q_n_s_J, z_q_aI_s_J, z_q_aJ_s_J, z_q_aR_s_J, z_q_L_s_R, z_q_K_s_R, z_q_I_s_R, z_q_J_s_R, z_q_R_s_R, z_q_n_s_R, z_q_aI_s_R, z_q_aJ_s_R, z_q_aR_s_R, z_q_L_s_aI, z_q_K_s_aI, z_q_I_s_aI, z_q_J_s_aI, z_q_R_s_aI, z_q_n_s_aI, z_q_aI_s_aI, z_q_aJ_s_aI, z_q_aR_s_aI, z_q_L_s_aJ, z_q_K_s_aJ, z_q_I_s_aJ, z_q_J_s_aJ, z_q_R_s_aJ, z_q_n_s_aJ, z_q_aI_s_aJ, z_q_aJ_s_aJ, z_q_aR_s_aJ, z_q_L_s_aR, z_q_K_s_aR, z_q_I_s_aR, z_q_J_s_aR, z_q_R_s_aR, z_q_n_s_aR, z_q_aI_s_aR, z_q_aJ_s_aR, z_q_aR_s_aR, z_q_L_s_new, z_q_K_s_new, z_q_I_s_new, z_q_J_s_new, z_q_R_s_new, z_q_n_s_new, z_q_aI_s_new, z_q_aJ_s_new, z_q_aR_s_new, z_q_L_s_arr, z_q_K_s_arr, z_q_I_s_arr, z_q_J_s_arr, z_q_R_s_arr, z_q_n_s_arr, z_q_aI_s_arr, z_q_aJ_s_arr, z_q_aR_s_arr, v3], by simp -implicitDefEqProofs [z_q_L_s_I, z_q_K_s_I, z_q_I_s_I, z_q_J_s_I, z_q_R_s_I, z_q_n_s_I, z_q_aI_s_I, z_q_aJ_s_I, z_q_aR_s_I, z_q_L_s_J, z_q_K_s_J, z_q_I_s_J, z_q_J_s_J, z_q_R_s_J, z_q_n_s_J, z_q_aI_s_J, z_q_aJ_s_J, z_q_aR_s_J, z_q_L_s_R, z_q_K_s_R, z_q_I_s_R, z_q_J_s_R, z_q_R_s_R, z_q_n_s_R, z_q_aI_s_R, z_q_aJ_s_R, z_q_aR_s_R, z_q_L_s_aI, z_q_K_s_aI, z_q_I_s_aI, z_q_J_s_aI, z_q_R_s_aI, z_q_n_s_aI, z_q_aI_s_aI, z_q_aJ_s_aI, z_q_aR_s_aI, z_q_L_s_aJ, z_q_K_s_aJ, z_q_I_s_aJ, z_q_J_s_aJ, z_q_R_s_aJ, z_q_n_s_aJ, z_q_aI_s_aJ, z_q_aJ_s_aJ, z_q_aR_s_aJ, z_q_L_s_aR, z_q_K_s_aR, z_q_I_s_aR, z_q_J_s_aR, z_q_R_s_aR, z_q_n_s_aR, z_q_aI_s_aR, z_q_aJ_s_aR, z_q_aR_s_aR, z_q_L_s_new, z_q_K_s_new, z_q_I_s_new, z_q_J_s_new, z_q_R_s_new, z_q_n_s_new, z_q_aI_s_new, z_q_aJ_s_new, z_q_aR_s_new, z_q_L_s_arr, z_q_K_s_arr, z_q_I_s_arr, z_q_J_s_arr, z_q_R_s_arr, z_q_n_s_arr, z_q_aI_s_arr, z_q_aJ_s_arr, z_q_aR_s_arr, v4], by simp -implicitDefEqProofs [z_q_L_s_I, z_q_K_s_I, z_q_I_s_I, z_q_J_s_I, z_q_R_s_I, z_q_n_s_I, z_q_aI_s_I, z_q_aJ_s_I, z_q_aR_s_I, z_q_L_s_J, z_q_K_s_J, z_q_I_s_J, z_q_J_s_J, z_q_R_s_J, z_q_n_s_J, z_q_aI_s_J, z_q_aJ_s_J, z_q_aR_s_J, z_q_L_s_R, z_q_K_s_R, z_q_I_s_R, z_q_J_s_R, z_q_R_s_R, z_q_n_s_R, z_q_aI_s_R, z_q_aJ_s_R, z_q_aR_s_R, z_q_L_s_aI, z_q_K_s_aI, z_q_I_s_aI, z_q_J_s_aI, z_q_R_s_aI, z_q_n_s_aI, z_q_aI_s_aI, z_q_aJ_s_aI, z_q_aR_s_aI, z_q_L_s_aJ, z_q_K_s_aJ, z_q_I_s_aJ, z_q_J_s_aJ, z_q_R_s_aJ, z_q_n_s_aJ, z_q_aI_s_aJ, z_q_aJ_s_aJ, z_q_aR_s_aJ, z_q_L_s_aR, z_q_K_s_aR, z_q_I_s_aR, z_q_J_s_aR, z_q_R_s_aR, z_q_n_s_aR, z_q_aI_s_aR, z_q_aJ_s_aR, z_q_aR_s_aR, z_q_L_s_new, z_q_K_s_new, z_q_I_s_new, z_q_J_s_new, z_q_R_s_new, z_q_n_s_new, z_q_aI_s_new, z_q_aJ_s_new, z_q_aR_s_new, z_q_L_s_arr, z_q_K_s_arr, z_q_I_s_arr, z_q_J_s_arr, z_q_R_s_arr, z_q_n_s_arr, z_q_aI_s_arr, z_q_aJ_s_arr, z_q_aR_s_arr, v5]⟩
    · exact Or.inr ⟨f', v1, v2, v3, by simp -implicitDefEqProofs [z_q_L_s_I, z_q_K_s_I, z_q_I_s_I, z_q_J_s_I, z_q_R_s_I, z_q_n_s_I, z_q_aI_s_I, z_q_aJ_s_I, z_q_aR_s_I, z_q_L_s_J, z_q_K_s_J, z_q_I_s_J, z_q_J_s_J, z_q_R_s_J, z_q_n_s_J, z_q_aI_s_J, z_q_aJ_s_J, z_q_aR_s_J, z_q_L_s_R, z_q_K_s_R, z_q_I_s_R, z_q_J_s_R, z_q_R_s_R, z_q_n_s_R, z_q_aI_s_R, z_q_aJ_s_R, z_q_aR_s_R, z_q_L_s_aI, z_q_K_s_aI, z_q_I_s_aI, z_q_J_s_aI, z_q_R_s_aI, z_q_n_s_aI, z_q_aI_s_aI, z_q_aJ_s_aI, z_q_aR_s_aI, z_q_L_s_aJ, z_q_K_s_aJ, z_q_I_s_aJ, z_q_J_s_aJ, z_q_R_s_aJ, z_q_n_s_aJ, z_q_aI_s_aJ, z_q_aJ_s_aJ, z_q_aR_s_aJ, z_q_L_s_aR, z_q_K_s_aR, z_q_I_s_aR, z_q_J_s_aR, z_q_R_s_aR, z_q_n_s_aR, z_q_aI_s_aR, z_q_aJ_s_aR, z_q_aR_s_aR, z_q_L_s_new, z_q_K_s_new, z_q_I_s_new, z_q_J_s_new, z_q_R_s_new, z_q_n_s_new, z_q_aI_s_new, z_q_aJ_s_new, z_q_aR_s_new, z_q_L_s_arr, z_q_K_s_arr, z_q_I_s_arr, z_q_J_s_arr, z_q_R_s_arr, z_q_n_s_arr, z_q_aI_s_arr, z_q_aJ_s_arr, z_q_aR_s_arr, v4], by simp -implicitDefEqProofs [z_q_L_s_I, z_q_K_s_I, z_q_I_s_I, z_q_J_s_I, z_q_R_s_I, z_q_n_s_I, z_q_aI_s_I, z_q_aJ_s_I, z_q_aR_s_I, z_q_L_s_J, z_q_K_s_J, z_q_I_s_J, z_q_J_s_J, z_q_R_s_J, z_q_n_s_J, z_q_aI_s_J, z_q_aJ_s_J, z_q_aR_s_J, z_q_L_s_R, z_q_K_s_R, z_q_I_s_R, z_q_J_s_R, z_q_R_s_R, z_q_n_s_R, z_q_aI_s_R, z_q_aJ_s_R, z_q_aR_s_R, z_q_L_s_aI, z_q_K_s_aI, z_q_I_s_aI, z_q_J_s_aI, z_q_R_s_aI, z_q_n_s_aI, z_q_aI_s_aI, z_q_aJ_s_aI, z_q_aR_s_aI, z_q_L_s_aJ, z_q_K_s_aJ, z_q_I_s_aJ, z_q_J_s_aJ, z_q_R_s_aJ, z_q_n_s_aJ, z_q_aI_s_aJ, z_q_aJ_s_aJ, z_q_aR_s_aJ, z_q_L_s_aR, z_q_K_s_aR, z_q_I_s_aR, z_q_J_s_aR, z_q_R_s_aR, z_q_n_s_aR, z_q_aI_s_aR, z_q_aJ_s_aR, z_q_aR_s_aR, z_q_L_s_new, z_q_K_s_new, z_q_I_s_new, z_q_J_s_new, z_q_R_s_new, z_q_n_s_new, z_q_aI_s_new, z_q_aJ_s_new, z_q_aR_s_new, z_q_L_s_arr, z_q_K_s_arr, z_q_I_s_arr, z_q_J_s_arr, z_q_R_s_arr, z_q_n_s_arr, z_q_aI_s_arr, z_q_aJ_s_arr, z_q_aR_s_arr, v5], by simp -implicitDefEqProofs [z_q_L_s_I, z_q_K_s_I, z_q_I_s_I, z_q_J_s_I, z_q_R_s_I, z_q_n_s_I, z_q_aI_s_I, z_q_aJ_s_I, z_q_aR_s_I, z_q_L_s_J, z_q_K_s_J, z_q_I_s_J, z_q_J_s_J, z_q_R_s_J, z_q_n_s_J, z_q_aI_s_J, z_q_aJ_s_J, z_q_aR_s_J, z_q_L_s_R, z_q_K_s_R, z_q_I_s_R, z_q_J_s_R, z_q_R_s_R, z_q_n_s_R, z_q_aI_s_R, z_q_aJ_s_R, z_q_aR_s_R, z_q_L_s_aI, z_q_K_s_aI, z_q_I_s_aI, z_q_J_s_aI, z_q_R_s_aI, z_q_n_s_aI, z_q_aI_s_aI, z_q_aJ_s_aI, z_q_aR_s_aI, z_q_L_s_aJ, z_q_K_s_aJ, z_q_I_s_aJ, z_q_J_s_aJ, z_q_R_s_aJ, z_q_n_s_aJ, z_q_aI_s_aJ, z_q_aJ_s_aJ, z_q_aR_s_aJ, z_q_L_s_aR, z_q_K_s_aR, z_q_I_s_aR, z_q_J_s_aR, z_q_R_s_aR, z_q_n_s_aR, z_q_aI_s_aR, z_q_aJ_s_aR, z_q_aR_s_aR, z_q_L_s_new, z_q_K_s_new, z_q_I_s_new, z_q_J_s_new, z_q_R_s_new, z_q_n_s_new, z_q_aI_s_new, z_q_aJ_s_new, z_q_aR_s_new, z_q_L_s_arr, z_q_K_s_arr, z_q_I_s_arr, z_q_J_s_arr, z_q_R_s_arr, z_q_n_s_arr, z_q_aI_s_arr, z_q_aJ_s_arr, z_q_aR_s_arr, v6], by simp -implicitDefEqProofs [z_q_L_s_I, z_q_K_s_I, z_q_I_s_I, z_q_J_s_I, z_q_R_s_I, z_q_n_s_I, z_q_aI_s_I, z_q_aJ_s_I, z_q_aR_s_I, z_q_L_s_J, z_q_K_s_J, z_q_I_s_J, z_q_J_s_J, z_q_R_s_J, z_q_n_s_J, z_q_aI_s_J, z_q_aJ_s_J, z_q_aR_s_J, z_q_L_s_R, z_q_K_s_R, z_q_I_s_R, z_q_J_s_R, z_q_R_s_R, z_q_n_s_R, z_q_aI_s_R, z_q_aJ_s_R, z_q_aR_s_R, z_q_L_s_aI, z_q_K_s_aI, z_q_I_s_aI, z_q_J_s_aI, z_q_R_s_aI, z_q_n_s_aI, z_q_aI_s_aI, z_q_aJ_s_aI, z_q_aR_s_aI, z_q_L_s_aJ, z_q_K_s_aJ, z_q_I_s_aJ, z_q_J_s_aJ, z_q_R_s_aJ, z_q_n_s_aJ, z_q_aI_s_aJ, z_q_aJ_s_aJ, z_q_aR_s_aJ, z_q_L_s_aR, z_q_K_s_aR, z_q_I_s_aR, z_q_J_s_aR, z_q_R_s_aR, z_q_n_s_aR, z_q_aI_s_aR, z_q_aJ_s_aR, z_q_aR_s_aR, z_q_L_s_new, z_q_K_s_new, z_q_I_s_new, z_q_J_s_new, z_q_R_s_new, z_q_n_s_new, z_q_aI_s_new, z_q_aJ_s_new, z_q_aR_s_new, z_q_L_s_arr, z_q_K_s_arr, z_q_I_s_arr, z_q_J_s_arr, z_q_R_s_arr, z_q_n_s_arr, z_q_aI_s_arr, z_q_aJ_s_arr, z_q_aR_s_arr, v7]⟩
  exact ⟨⟨cD.same ⟨hx, hk, hρ, htd, ht, hdry, hlc⟩ sx (rx.rfl' x hx), cT0.same (xr.of sx) (sm.no s1 (by simp)) rx.rfl', cK0.same (xr.of sx) (sm.no s1 (by simp)) rx.rfl', cA0.same hZ (xr.of sx) (sm.no s1 (by simp)) rx.rfl', cS0.same hZ (xr.of sx) (sm.no s1 (by simp)) rx.rfl', cG1, cV0.same hZ (xr.of sx) (sm.no s1 (by simp)) rx.rfl', cF0.same hZ (xr.of sx) (sm.no s1 (by simp)) rx.rfl', cL0.same hZ (xr.of sx) (sm.no s1 (by simp)) rx.rfl', cJ0.same (xr.of sx) (sm.no s1 (by simp)) rx.rfl'⟩, FO.of (fun b hb => hb) rx.rfl' s1 (by simp), sx⟩
/-- a road wears -/
theorem CI.wo {j : Nat} (hC : CI Z ρ S x gh M) (hZ : Z.2.2.2.2.2.1 ∉ q_L S) (hj : j < M.2.2.1.1) (v : Int64) : CI Z ρ (s_J S 10 2 (gh.1 j) v) x gh (M.1, M.2.1, (M.2.2.1.1, M.2.2.1.2.1, vp_updL M.2.2.1.2.2 j v), M.2.2.2) ∧ FO ρ ρ S (s_J S 10 2 (gh.1 j) v) ∧ sameAt S (s_J S 10 2 (gh.1 j) v) x := by
  have hC0 := hC
  obtain ⟨fS, fG, fV, p, p2, fF, fL, bl⟩ := gh
  obtain ⟨⟨tn, tg, tp⟩, acts, ⟨nS, pr, wo⟩, ⟨nG, os, ps, ls, re, su, du, le, nb, bf, br, bs⟩, ⟨nV, kd, wh, be, bi, pa, pd, la⟩, ⟨nF, mo⟩, ⟨nL, lsu, lra, lrk, ldu⟩, J, ⟨td, dry, lc⟩⟩ := M
  obtain ⟨cD0, cT0, cK0, cA0, cS0, cG0, cV0, cF0, cL0, cJ0⟩ := hC
  obtain ⟨hx, hk, hρ, htd, ht, hdry, hlc⟩ := cD0
  obtain ⟨l, e, h1, h2, h3, h4, h5⟩ := id cS0
  dsimp only at hj ⊢
  have hgr := h2.2.2.2 j hj
  have s0 : ∀ b, b ∈ q_L S → b ≠ fS j → sameAt S (s_J S 10 2 (fS j) v) b := fun b hb hn => s_J_same hb hn
  have s1 : ∀ b, b ∈ q_L S → ρ b ∉ [40] → sameAt S (s_J S 10 2 (fS j) v) b := fun b hb hn => s0 b hb (fun z => hn (by rw [z, hgr]; simp))
  have sx := s1 x hx (by rw [hρ]; simp)
  have cS1 : cS Z ρ (s_J S 10 2 (fS j) v) x fS nS pr (vp_updL wo j v) := by
    refine ⟨l, e, h1, h2, h3, h4, fun i hi => ⟨(h5 i hi).1, (h5 i hi).2.1, ?_⟩⟩
    simp -implicitDefEqProofs only [z_q_L_s_I, z_q_K_s_I, z_q_I_s_I, z_q_J_s_I, z_q_R_s_I, z_q_n_s_I, z_q_aI_s_I, z_q_aJ_s_I, z_q_aR_s_I, z_q_L_s_J, z_q_K_s_J, z_q_I_s_J, z_q_J_s_J, z_q_R_s_J, z_q_n_s_J, z_q_aI_s_J, z_q_aJ_s_J, z_q_aR_s_J, z_q_L_s_R, z_q_K_s_R, z_q_I_s_R, z_q_J_s_R, z_q_R_s_R, z_q_n_s_R, z_q_aI_s_R, z_q_aJ_s_R, z_q_aR_s_R, z_q_L_s_aI, z_q_K_s_aI, z_q_I_s_aI, z_q_J_s_aI, z_q_R_s_aI, z_q_n_s_aI, z_q_aI_s_aI, z_q_aJ_s_aI, z_q_aR_s_aI, z_q_L_s_aJ, z_q_K_s_aJ, z_q_I_s_aJ, z_q_J_s_aJ, z_q_R_s_aJ, z_q_n_s_aJ, z_q_aI_s_aJ, z_q_aJ_s_aJ, z_q_aR_s_aJ, z_q_L_s_aR, z_q_K_s_aR, z_q_I_s_aR, z_q_J_s_aR, z_q_R_s_aR, z_q_n_s_aR, z_q_aI_s_aR, z_q_aJ_s_aR, z_q_aR_s_aR, z_q_L_s_new, z_q_K_s_new, z_q_I_s_new, z_q_J_s_new, z_q_R_s_new, z_q_n_s_new, z_q_aI_s_new, z_q_aJ_s_new, z_q_aR_s_new, z_q_L_s_arr, z_q_K_s_arr, z_q_I_s_arr, z_q_J_s_arr, z_q_R_s_arr, z_q_n_s_arr, z_q_aI_s_arr, z_q_aJ_s_arr, z_q_aR_s_arr]
    by_cases hij : i = j
    · subst hij
      rw [pk_uLs]
      simp
    · rw [if_neg (fun z => hij (h3 i j hi hj z.2.2)), pk_uLn hij]
      exact (h5 i hi).2.2
  exact ⟨⟨cD.same ⟨hx, hk, hρ, htd, ht, hdry, hlc⟩ sx (rx.rfl' x hx), cT0.same (xr.of sx) (sm.no s1 (by simp)) rx.rfl', cK0.same (xr.of sx) (sm.no s1 (by simp)) rx.rfl', cA0.same hZ (xr.of sx) (sm.no s1 (by simp)) rx.rfl', cS1, cG0.same hZ (xr.of sx) (sm.no s1 (by simp)) rx.rfl', cV0.same hZ (xr.of sx) (sm.no s1 (by simp)) rx.rfl', cF0.same hZ (xr.of sx) (sm.no s1 (by simp)) rx.rfl', cL0.same hZ (xr.of sx) (sm.no s1 (by simp)) rx.rfl', cJ0.same (xr.of sx) (sm.no s1 (by simp)) rx.rfl'⟩, FO.of (fun b hb => hb) rx.rfl' s1 (by simp), sx⟩
/-- the toll goes to whom it is due -/
def tollTo (M : Mt) (t g : Nat) (v : Int32) : Mt := (M.1, M.2.1, M.2.2.1, M.2.2.2.1, M.2.2.2.2.1, (M.2.2.2.2.2.1.1, (match M.2.2.2.1.2.2.2.1 g with
  | none => M.2.2.2.2.2.1.2
  | some f => vp_updL M.2.2.2.2.2.1.2 f (M.2.2.2.2.2.1.2 f + v.toInt64))), M.2.2.2.2.2.2.1, (match M.2.2.2.1.2.2.2.1 g with
  | none => if 0 < v then lineM M.2.2.2.2.2.2.2.1 (nI M.2.2.2.2.2.2.2.2.1) 0 (nI t) v.toInt64 else M.2.2.2.2.2.2.2.1
  | some _ => M.2.2.2.2.2.2.2.1), M.2.2.2.2.2.2.2.2)
theorem m_tollC {t g : Nat} {v : Int32} (hd : 4 ≤ d) (hZ : Z.2.2.2.2.2.1 ∉ q_L S) (hC : CI Z ρ S x gh M) (hg : g < M.2.2.2.1.1) (hJn : M.2.2.2.2.2.2.2.1.1 < 12000)
    (hmc : 5 * (lvl (M.2.2.2.2.2.2.2.1.1 + 1) - lvl M.2.2.2.2.2.2.2.1.1) ≤ mc) (hms : 60000 * (lvl (M.2.2.2.2.2.2.2.1.1 + 1) - lvl M.2.2.2.2.2.2.2.1.1) ≤ ms)
    (H : ∀ S' ρ', FO ρ ρ' S S' → CI Z ρ' S' x gh (tollTo M t g v) → Z.2.2.2.2.2.1 ∉ q_L S' → sameAt S S' x → QR none S') : tk_M Z mX11_takeToll d mc ms [.ref x, .int (nI t), .ref (gh.2.1 g), .int v] S QR tk_noX := by
  have hC0 := hC
  obtain ⟨fS, fG, fV, p, p2, fF, fL, bl⟩ := gh
  obtain ⟨⟨tn, tg, tp⟩, acts, ⟨nS, pr, wo⟩, ⟨nG, os, ps, ls, re, su, du, le, nb, bf, br, bs⟩, ⟨nV, kd, wh, be, bi, pa, pd, la⟩, ⟨nF, mo⟩, ⟨nL, lsu, lra, lrk, ldu⟩, J, ⟨td, dry, lc⟩⟩ := M
  obtain ⟨cD0, cT0, cK0, cA0, cS0, cG0, cV0, cF0, cL0, cJ0⟩ := hC
  obtain ⟨hx, hk, hρ, htd, ht, hdry, hlc⟩ := cD0
  dsimp only at hg hJn hmc hms H ⊢
  refine tk_M.out (m_takeToll hd hZ hx hk hρ htd cG0 cF0 cJ0 hg hJn hmc hms (fun S' ρ' g1 r1 s1 hF hJ hZ' => ?_))
  have sx := s1 x hx (by rw [hρ]; simp)
  exact H S' ρ' (FO.of g1 r1 s1 (by simp)) ⟨cD.same ⟨hx, hk, hρ, htd, ht, hdry, hlc⟩ sx (r1 x hx), cT0.same (xr.of sx) (sm.no s1 (by simp)) r1, cK0.same (xr.of sx) (sm.no s1 (by simp)) r1, cA0.same hZ (xr.of sx) (sm.no s1 (by simp)) r1, cS0.same hZ (xr.of sx) (sm.no s1 (by simp)) r1, cG0.same hZ (xr.of sx) (sm.no s1 (by simp)) r1, cV0.same hZ (xr.of sx) (sm.no s1 (by simp)) r1, hF, cL0.same hZ (xr.of sx) (sm.no s1 (by simp)) r1, hJ⟩ hZ' sx
theorem FO.trans {ρ1 ρ2 : Nat → Nat} {S1 S2 : tk_S} (h : FO ρ ρ1 S S1) (g : FO ρ1 ρ2 S1 S2) : FO ρ ρ2 S S2 := ⟨h.1.trans g.1, fun b hb => (g.2.1 b (h.1 b hb)).trans (h.2.1 b hb), fun b hb hr => (h.2.2 b hb hr).trans (g.2.2 b (h.1 b hb) (by rw [h.2.1 b hb]; exact hr))⟩
theorem actM_ok : ∀ (acts : List pA) (i : Nat) (day best bf : Int32), actM acts i day best bf = best ∨ ∃ j, i ≤ j ∧ j < i + acts.length ∧ actM acts i day best bf = nI j := by
  intro acts
  induction acts with
  | nil => intro i day best bf; exact Or.inl rfl
  | cons A r ih =>
    intro i day best bf
    rw [actM]
    by_cases h : A.1 ≤ day ∧ bf ≤ A.1
    · rw [if_pos h]
      rcases ih (i + 1) day (nI i) A.1 with h1 | ⟨j, h1, h2, h3⟩
      · exact Or.inr ⟨i, Nat.le_refl _, by simp, h1⟩
      · exact Or.inr ⟨j, by omega, by simp; omega, h3⟩
    · rw [if_neg h]
      rcases ih (i + 1) day best bf with h1 | ⟨j, h1, h2, h3⟩
      · exact Or.inl h1
      · exact Or.inr ⟨j, by omega, by simp; omega, h3⟩
/-- what a pass pays, and by whom: of the act in force -/
def passPay (M : Mt) (t g : Nat) : Int32 × Int32 := match M.2.1[(actM M.2.1 0 (nI M.2.2.2.2.2.2.2.2.1) (-1) (-1)).toNatClampNeg]? with
  | some A => if actM M.2.1 0 (nI M.2.2.2.2.2.2.2.2.1) (-1) (-1) < 0 then (0, -1) else payOf M A t g
  | none => (0, -1)
def noteM (M : Mt) (t g : Nat) (v : Int32) : Mt := (M.1, M.2.1, M.2.2.1, M.2.2.2.1, (M.2.2.2.2.1.1, M.2.2.2.2.1.2.1, M.2.2.2.2.1.2.2.1, M.2.2.2.2.1.2.2.2.1, M.2.2.2.2.1.2.2.2.2.1, upd M.2.2.2.2.1.2.2.2.2.2.1 (8 * t + g) (nI M.2.2.2.2.2.2.2.2.1), (if 0 < v then upd M.2.2.2.2.1.2.2.2.2.2.2.1 (8 * t + g) (nI M.2.2.2.2.2.2.2.2.1) else M.2.2.2.2.1.2.2.2.2.2.2.1), (if 0 < v then upd M.2.2.2.2.1.2.2.2.2.2.2.2 t (nI M.2.2.2.2.2.2.2.2.1) else M.2.2.2.2.1.2.2.2.2.2.2.2)), M.2.2.2.2.2)
def lcM (M : Mt) (v : Int32) : Mt := (M.1, M.2.1, M.2.2.1, M.2.2.2.1, M.2.2.2.2.1, M.2.2.2.2.2.1, M.2.2.2.2.2.2.1, M.2.2.2.2.2.2.2.1, (M.2.2.2.2.2.2.2.2.1, M.2.2.2.2.2.2.2.2.2.1, v))
def psM (M : Mt) (g : Nat) (v : Int32) : Mt := (M.1, M.2.1, M.2.2.1, (M.2.2.2.1.1, M.2.2.2.1.2.1, upd M.2.2.2.1.2.2.1 g v, M.2.2.2.1.2.2.2), M.2.2.2.2)
def woM (M : Mt) (j : Nat) (v : Int64) : Mt := (M.1, M.2.1, (M.2.2.1.1, M.2.2.1.2.1, vp_updL M.2.2.1.2.2 j v), M.2.2.2)
/-- a pass of traveller t at gate g -/
def passM (M : Mt) (t g : Nat) : Mt :=
  let r := passPay M t g
  let h := (harmOf (M.2.2.2.2.1.2.1 t) (M.2.2.2.2.1.2.2.1 t) (M.2.2.2.2.1.2.2.2.1 t)).toInt64
  woM (psM (noteM (tollTo (lcM M r.2) t g r.1) t g r.1) g (M.2.2.2.1.2.2.1 g + 1)) (M.2.2.2.1.2.1 g) (M.2.2.1.2.2 (M.2.2.2.1.2.1 g) + if M.2.2.2.2.2.2.2.2.1 < M.2.2.2.2.2.2.2.2.2.1 then 2 * h else h)
set_option maxHeartbeats 8000000 in
theorem c_pass {t0 g0 : Int32} (hst : Z.1.stackTraces = false) (hd : 8 ≤ d) (hZ : Z.2.2.2.2.2.1 ∉ q_L S) (hC : CI Z ρ S x gh M) (hdr : M.2.2.2.2.2.2.2.2.2.1 ≤ 20000) (hJn : M.2.2.2.2.2.2.2.1.1 < 12000) (hmc : 1 + 5 * (lvl (M.2.2.2.2.2.2.2.1.1 + 1) - lvl M.2.2.2.2.2.2.2.1.1) ≤ mc) (hms : 6 + 60000 * (lvl (M.2.2.2.2.2.2.2.1.1 + 1) - lvl M.2.2.2.2.2.2.2.1.1) ≤ ms)
    (H1 : ((t0 < 0 ∨ nI M.2.2.2.2.1.1 ≤ t0) ∨ (g0 < 0 ∨ nI M.2.2.2.1.1 ≤ g0)) → QX "java/lang/IndexOutOfBoundsException" S)
    (H0 : ∀ t g, t < M.2.2.2.2.1.1 → t0 = nI t → g < M.2.2.2.1.1 → g0 = nI g → okC Z ρ S x QR (.int (passPay M t g).1) (passM M t g)) : tk_M Z mX11_pass d mc ms [.ref x, .int t0, .int g0] S QR QX := by
  have hCC := hC
  have hC0 := hC
  obtain ⟨fS, fG, fV, p, p2, fF, fL, bl⟩ := gh
  obtain ⟨⟨tn, tg, tp⟩, acts, ⟨nS, pr, wo⟩, ⟨nG, os, ps, ls, re, su, du, le, nb, bf, br, bs⟩, ⟨nV, kd, wh, be, bi, pa, pd, la⟩, ⟨nF, mo⟩, ⟨nL, lsu, lra, lrk, ldu⟩, J, ⟨td, dry, lc⟩⟩ := M
  obtain ⟨cD0, cT0, cK0, cA0, cS0, cG0, cV0, cF0, cL0, cJ0⟩ := hC
  obtain ⟨hx, hk, hρ, htd, ht, hdry, hlc⟩ := cD0
  refine M_X11_pass hst hd (Nat.le_of_ble_eq_true rfl) (fun E hE => hE.1 _ _ _ _ _ ?_)
  show t_X11_pass_0 Z d mc ms QR QX E [some (.ref x), some (.int t0), some (.int g0), none, none, none, none, none] [] S 0 0
  obtain ⟨lA, eA, fA, a1, a2, a3, a4⟩ := id cA0
  obtain ⟨lV, eV, v1, v2, v3, v31, v32, v4, v5⟩ := id cV0
  obtain ⟨lG, eG, h1, h2, h3, h31, h4, h5⟩ := id cG0
  obtain ⟨a, q, q2, k1, hr, r1, r2, r3⟩ := id cK0
  have hlA := a2.1
  have hlV := v2.1
  have hlG := h2.1
  dsimp only at H1 H0 hdr hJn hmc hms
  rcases pk_ix t0 (n := nV) (by omega) with w | w | ⟨t, htV, rfl⟩
  · simp -implicitDefEqProofs [t_X11_pass_0, i_aload, i_iload, i_lload, i_istore, i_lstore, i_astore, i_iinc, i_push, i_getI, i_getJ, i_getR, i_putI, i_putJ, i_putR, i_iadd, i_isub, i_imul, i_iand, i_ior, i_ixor, i_ishl, i_ishr, i_iushr, i_idiv, i_irem, i_ladd, i_lsub, i_lmul, i_land, i_lor, i_lxor, i_ldiv, i_lrem, i_lshl, i_lshr, i_lcmp, i_ineg, i_lneg, i_i2l, i_l2i, i_i2b, i_i2c, i_dup, i_pop, i_dup_x1, i_dup2, i_icmp_eq, i_icmp_lt, i_icmp_ge, i_icmp_gt, i_icmp_le, i_if_eq, i_if_lt, i_if_ge, i_if_gt, i_if_le, i_goto, i_ifnull, i_iald, i_bald, i_zald, i_lald, i_aald, i_iast, i_bast, i_zast, i_last, i_alen, i_iret, i_lret, i_aret, i_vret, i_oinit, i_cast, i_tsw, i_cases, i_mmin, i_mmax, i_lmin, i_throw, nb0, nb1, nint, nby0, rf_s, rf_n, of_r, of_n, tk_orf_rf, tk_c2, tk_ls, Value.category, tk_isR_ref, tk_isR_rf, tk_isR_null, w]
    exact ⟨by omega, by omega, H1 (Or.inl (Or.inl w))⟩
  · have w0 : ¬ t0 < 0 := fun q => absurd (Int32.lt_of_le_of_lt w q) (nI_pos (by omega))
    simp -implicitDefEqProofs [t_X11_pass_0, i_aload, i_iload, i_lload, i_istore, i_lstore, i_astore, i_iinc, i_push, i_getI, i_getJ, i_getR, i_putI, i_putJ, i_putR, i_iadd, i_isub, i_imul, i_iand, i_ior, i_ixor, i_ishl, i_ishr, i_iushr, i_idiv, i_irem, i_ladd, i_lsub, i_lmul, i_land, i_lor, i_lxor, i_ldiv, i_lrem, i_lshl, i_lshr, i_lcmp, i_ineg, i_lneg, i_i2l, i_l2i, i_i2b, i_i2c, i_dup, i_pop, i_dup_x1, i_dup2, i_icmp_eq, i_icmp_lt, i_icmp_ge, i_icmp_gt, i_icmp_le, i_if_eq, i_if_lt, i_if_ge, i_if_gt, i_if_le, i_goto, i_ifnull, i_iald, i_bald, i_zald, i_lald, i_aald, i_iast, i_bast, i_zast, i_last, i_alen, i_iret, i_lret, i_aret, i_vret, i_oinit, i_cast, i_tsw, i_cases, i_mmin, i_mmax, i_lmin, i_throw, nb0, nb1, nint, nby0, rf_s, rf_n, of_r, of_n, tk_orf_rf, tk_c2, tk_ls, Value.category, tk_isR_ref, tk_isR_rf, tk_isR_null, w0, hx, hk, v1]
    refine ix_callF hlV (by omega) w ?_
    simp -implicitDefEqProofs [i_aload, i_iload, i_lload, i_istore, i_lstore, i_astore, i_iinc, i_push, i_getI, i_getJ, i_getR, i_putI, i_putJ, i_putR, i_iadd, i_isub, i_imul, i_iand, i_ior, i_ixor, i_ishl, i_ishr, i_iushr, i_idiv, i_irem, i_ladd, i_lsub, i_lmul, i_land, i_lor, i_lxor, i_ldiv, i_lrem, i_lshl, i_lshr, i_lcmp, i_ineg, i_lneg, i_i2l, i_l2i, i_i2b, i_i2c, i_dup, i_pop, i_dup_x1, i_dup2, i_icmp_eq, i_icmp_lt, i_icmp_ge, i_icmp_gt, i_icmp_le, i_if_eq, i_if_lt, i_if_ge, i_if_gt, i_if_le, i_goto, i_ifnull, i_iald, i_bald, i_zald, i_lald, i_aald, i_iast, i_bast, i_zast, i_last, i_alen, i_iret, i_lret, i_aret, i_vret, i_oinit, i_cast, i_tsw, i_cases, i_mmin, i_mmax, i_lmin, i_throw, nb0, nb1, nint, nby0, rf_s, rf_n, of_r, of_n, tk_orf_rf, tk_c2, tk_ls, Value.category, tk_isR_ref, tk_isR_rf, tk_isR_null]
    exact ⟨by omega, by omega, H1 (Or.inl (Or.inr w))⟩
  have hw1 : ¬ nI t < 0 := nI_pos (by omega)
  simp -implicitDefEqProofs [t_X11_pass_0, i_aload, i_iload, i_lload, i_istore, i_lstore, i_astore, i_iinc, i_push, i_getI, i_getJ, i_getR, i_putI, i_putJ, i_putR, i_iadd, i_isub, i_imul, i_iand, i_ior, i_ixor, i_ishl, i_ishr, i_iushr, i_idiv, i_irem, i_ladd, i_lsub, i_lmul, i_land, i_lor, i_lxor, i_ldiv, i_lrem, i_lshl, i_lshr, i_lcmp, i_ineg, i_lneg, i_i2l, i_l2i, i_i2b, i_i2c, i_dup, i_pop, i_dup_x1, i_dup2, i_icmp_eq, i_icmp_lt, i_icmp_ge, i_icmp_gt, i_icmp_le, i_if_eq, i_if_lt, i_if_ge, i_if_gt, i_if_le, i_goto, i_ifnull, i_iald, i_bald, i_zald, i_lald, i_aald, i_iast, i_bast, i_zast, i_last, i_alen, i_iret, i_lret, i_aret, i_vret, i_oinit, i_cast, i_tsw, i_cases, i_mmin, i_mmax, i_lmin, i_throw, nb0, nb1, nint, nby0, rf_s, rf_n, of_r, of_n, tk_orf_rf, tk_c2, tk_ls, Value.category, tk_isR_ref, tk_isR_rf, tk_isR_null, hw1, hx, hk, v1]
  refine ix_callS hlV (by omega) htV ?_
  rcases pk_ix g0 (n := nG) (by omega) with w | w | ⟨g, hg, rfl⟩
  · simp -implicitDefEqProofs [i_aload, i_iload, i_lload, i_istore, i_lstore, i_astore, i_iinc, i_push, i_getI, i_getJ, i_getR, i_putI, i_putJ, i_putR, i_iadd, i_isub, i_imul, i_iand, i_ior, i_ixor, i_ishl, i_ishr, i_iushr, i_idiv, i_irem, i_ladd, i_lsub, i_lmul, i_land, i_lor, i_lxor, i_ldiv, i_lrem, i_lshl, i_lshr, i_lcmp, i_ineg, i_lneg, i_i2l, i_l2i, i_i2b, i_i2c, i_dup, i_pop, i_dup_x1, i_dup2, i_icmp_eq, i_icmp_lt, i_icmp_ge, i_icmp_gt, i_icmp_le, i_if_eq, i_if_lt, i_if_ge, i_if_gt, i_if_le, i_goto, i_ifnull, i_iald, i_bald, i_zald, i_lald, i_aald, i_iast, i_bast, i_zast, i_last, i_alen, i_iret, i_lret, i_aret, i_vret, i_oinit, i_cast, i_tsw, i_cases, i_mmin, i_mmax, i_lmin, i_throw, nb0, nb1, nint, nby0, rf_s, rf_n, of_r, of_n, tk_orf_rf, tk_c2, tk_ls, Value.category, tk_isR_ref, tk_isR_rf, tk_isR_null, w]
    exact ⟨by omega, by omega, H1 (Or.inr (Or.inl w))⟩
  · have w0 : ¬ g0 < 0 := fun q => absurd (Int32.lt_of_le_of_lt w q) (nI_pos (by omega))
    simp -implicitDefEqProofs [i_aload, i_iload, i_lload, i_istore, i_lstore, i_astore, i_iinc, i_push, i_getI, i_getJ, i_getR, i_putI, i_putJ, i_putR, i_iadd, i_isub, i_imul, i_iand, i_ior, i_ixor, i_ishl, i_ishr, i_iushr, i_idiv, i_irem, i_ladd, i_lsub, i_lmul, i_land, i_lor, i_lxor, i_ldiv, i_lrem, i_lshl, i_lshr, i_lcmp, i_ineg, i_lneg, i_i2l, i_l2i, i_i2b, i_i2c, i_dup, i_pop, i_dup_x1, i_dup2, i_icmp_eq, i_icmp_lt, i_icmp_ge, i_icmp_gt, i_icmp_le, i_if_eq, i_if_lt, i_if_ge, i_if_gt, i_if_le, i_goto, i_ifnull, i_iald, i_bald, i_zald, i_lald, i_aald, i_iast, i_bast, i_zast, i_last, i_alen, i_iret, i_lret, i_aret, i_vret, i_oinit, i_cast, i_tsw, i_cases, i_mmin, i_mmax, i_lmin, i_throw, nb0, nb1, nint, nby0, rf_s, rf_n, of_r, of_n, tk_orf_rf, tk_c2, tk_ls, Value.category, tk_isR_ref, tk_isR_rf, tk_isR_null, w0, hx, hk, h1]
    refine ix_callF hlG (by omega) w ?_
    simp -implicitDefEqProofs [i_aload, i_iload, i_lload, i_istore, i_lstore, i_astore, i_iinc, i_push, i_getI, i_getJ, i_getR, i_putI, i_putJ, i_putR, i_iadd, i_isub, i_imul, i_iand, i_ior, i_ixor, i_ishl, i_ishr, i_iushr, i_idiv, i_irem, i_ladd, i_lsub, i_lmul, i_land, i_lor, i_lxor, i_ldiv, i_lrem, i_lshl, i_lshr, i_lcmp, i_ineg, i_lneg, i_i2l, i_l2i, i_i2b, i_i2c, i_dup, i_pop, i_dup_x1, i_dup2, i_icmp_eq, i_icmp_lt, i_icmp_ge, i_icmp_gt, i_icmp_le, i_if_eq, i_if_lt, i_if_ge, i_if_gt, i_if_le, i_goto, i_ifnull, i_iald, i_bald, i_zald, i_lald, i_aald, i_iast, i_bast, i_zast, i_last, i_alen, i_iret, i_lret, i_aret, i_vret, i_oinit, i_cast, i_tsw, i_cases, i_mmin, i_mmax, i_lmin, i_throw, nb0, nb1, nint, nby0, rf_s, rf_n, of_r, of_n, tk_orf_rf, tk_c2, tk_ls, Value.category, tk_isR_ref, tk_isR_rf, tk_isR_null]
    exact ⟨by omega, by omega, H1 (Or.inr (Or.inr w))⟩
  have hw2 : ¬ nI g < 0 := nI_pos (by omega)
  simp -implicitDefEqProofs [i_aload, i_iload, i_lload, i_istore, i_lstore, i_astore, i_iinc, i_push, i_getI, i_getJ, i_getR, i_putI, i_putJ, i_putR, i_iadd, i_isub, i_imul, i_iand, i_ior, i_ixor, i_ishl, i_ishr, i_iushr, i_idiv, i_irem, i_ladd, i_lsub, i_lmul, i_land, i_lor, i_lxor, i_ldiv, i_lrem, i_lshl, i_lshr, i_lcmp, i_ineg, i_lneg, i_i2l, i_l2i, i_i2b, i_i2c, i_dup, i_pop, i_dup_x1, i_dup2, i_icmp_eq, i_icmp_lt, i_icmp_ge, i_icmp_gt, i_icmp_le, i_if_eq, i_if_lt, i_if_ge, i_if_gt, i_if_le, i_goto, i_ifnull, i_iald, i_bald, i_zald, i_lald, i_aald, i_iast, i_bast, i_zast, i_last, i_alen, i_iret, i_lret, i_aret, i_vret, i_oinit, i_cast, i_tsw, i_cases, i_mmin, i_mmax, i_lmin, i_throw, nb0, nb1, nint, nby0, rf_s, rf_n, of_r, of_n, tk_orf_rf, tk_c2, tk_ls, Value.category, tk_isR_ref, tk_isR_rf, tk_isR_null, hw2, hx, hk, h1]
  refine ix_callS hlG (by omega) hg ?_
  have H0 := H0 t g htV rfl hg rfl
  obtain ⟨u1, u2⟩ := hlV.2.2.2.2.2.2.1 t htV
  obtain ⟨y1, y2⟩ := hlG.2.2.2.2.2.2.1 g hg
  have hg8 : g < 8 := by omega
  simp -implicitDefEqProofs [i_aload, i_iload, i_lload, i_istore, i_lstore, i_astore, i_iinc, i_push, i_getI, i_getJ, i_getR, i_putI, i_putJ, i_putR, i_iadd, i_isub, i_imul, i_iand, i_ior, i_ixor, i_ishl, i_ishr, i_iushr, i_idiv, i_irem, i_ladd, i_lsub, i_lmul, i_land, i_lor, i_lxor, i_ldiv, i_lrem, i_lshl, i_lshr, i_lcmp, i_ineg, i_lneg, i_i2l, i_l2i, i_i2b, i_i2c, i_dup, i_pop, i_dup_x1, i_dup2, i_icmp_eq, i_icmp_lt, i_icmp_ge, i_icmp_gt, i_icmp_le, i_if_eq, i_if_lt, i_if_ge, i_if_gt, i_if_le, i_goto, i_ifnull, i_iald, i_bald, i_zald, i_lald, i_aald, i_iast, i_bast, i_zast, i_last, i_alen, i_iret, i_lret, i_aret, i_vret, i_oinit, i_cast, i_tsw, i_cases, i_mmin, i_mmax, i_lmin, i_throw, nb0, nb1, nint, nby0, rf_s, rf_n, of_r, of_n, tk_orf_rf, tk_c2, tk_ls, Value.category, tk_isR_ref, tk_isR_rf, tk_isR_null, hx, hk, v1]
  refine get_call hlV (by omega) htV (by simp) ?_
  simp -implicitDefEqProofs [i_aload, i_iload, i_lload, i_istore, i_lstore, i_astore, i_iinc, i_push, i_getI, i_getJ, i_getR, i_putI, i_putJ, i_putR, i_iadd, i_isub, i_imul, i_iand, i_ior, i_ixor, i_ishl, i_ishr, i_iushr, i_idiv, i_irem, i_ladd, i_lsub, i_lmul, i_land, i_lor, i_lxor, i_ldiv, i_lrem, i_lshl, i_lshr, i_lcmp, i_ineg, i_lneg, i_i2l, i_l2i, i_i2b, i_i2c, i_dup, i_pop, i_dup_x1, i_dup2, i_icmp_eq, i_icmp_lt, i_icmp_ge, i_icmp_gt, i_icmp_le, i_if_eq, i_if_lt, i_if_ge, i_if_gt, i_if_le, i_goto, i_ifnull, i_iald, i_bald, i_zald, i_lald, i_aald, i_iast, i_bast, i_zast, i_last, i_alen, i_iret, i_lret, i_aret, i_vret, i_oinit, i_cast, i_tsw, i_cases, i_mmin, i_mmax, i_lmin, i_throw, nb0, nb1, nint, nby0, rf_s, rf_n, of_r, of_n, tk_orf_rf, tk_c2, tk_ls, Value.category, tk_isR_ref, tk_isR_rf, tk_isR_null, u1, u2, hx, hk, h1]
  refine get_call hlG (by omega) hg (by simp) ?_
  simp -implicitDefEqProofs [i_aload, i_iload, i_lload, i_istore, i_lstore, i_astore, i_iinc, i_push, i_getI, i_getJ, i_getR, i_putI, i_putJ, i_putR, i_iadd, i_isub, i_imul, i_iand, i_ior, i_ixor, i_ishl, i_ishr, i_iushr, i_idiv, i_irem, i_ladd, i_lsub, i_lmul, i_land, i_lor, i_lxor, i_ldiv, i_lrem, i_lshl, i_lshr, i_lcmp, i_ineg, i_lneg, i_i2l, i_l2i, i_i2b, i_i2c, i_dup, i_pop, i_dup_x1, i_dup2, i_icmp_eq, i_icmp_lt, i_icmp_ge, i_icmp_gt, i_icmp_le, i_if_eq, i_if_lt, i_if_ge, i_if_gt, i_if_le, i_goto, i_ifnull, i_iald, i_bald, i_zald, i_lald, i_aald, i_iast, i_bast, i_zast, i_last, i_alen, i_iret, i_lret, i_aret, i_vret, i_oinit, i_cast, i_tsw, i_cases, i_mmin, i_mmax, i_lmin, i_throw, nb0, nb1, nint, nby0, rf_s, rf_n, of_r, of_n, tk_orf_rf, tk_c2, tk_ls, Value.category, tk_isR_ref, tk_isR_rf, tk_isR_null, y1, y2, hx, hk, htd]
  refine ⟨by simp, hx, hk, by simp [Value.category], 4, 0, 0, by omega, by omega, by omega, ?_⟩
  refine m_actOn (Nat.le_refl 4) hx hk cA0 ?_
  have nV60 : nV ≤ 60 := v4
  have B134 : ∀ (av : Value) (y5 y6 : Int32), av.category = 1 → (∀ QR' : tk_R, (∀ S1, CI Z ρ S1 x (fS, fG, fV, p, p2, fF, fL, bl) ((tn, tg, tp), acts, (nS, pr, wo), (nG, os, ps, ls, re, su, du, le, nb, bf, br, bs), (nV, kd, wh, be, bi, pa, pd, la), (nF, mo), (nL, lsu, lra, lrk, ldu), J, (td, dry, lc)) → FO ρ ρ S S1 → sameAt S S1 x → Z.2.2.2.2.2.1 ∉ q_L S1 → a ∈ q_L S1 ∧ q_K S1 a = 9 → q_I S1 9 0 a = (passPay ((tn, tg, tp), acts, (nS, pr, wo), (nG, os, ps, ls, re, su, du, le, nb, bf, br, bs), (nV, kd, wh, be, bi, pa, pd, la), (nF, mo), (nL, lsu, lra, lrk, ldu), J, (td, dry, lc)) t g).1 → q_I S1 9 1 a = (passPay ((tn, tg, tp), acts, (nS, pr, wo), (nG, os, ps, ls, re, su, du, le, nb, bf, br, bs), (nV, kd, wh, be, bi, pa, pd, la), (nF, mo), (nL, lsu, lra, lrk, ldu), J, (td, dry, lc)) t g).2 → QR' none S1) → tk_M Z mX8_reckon 6 0 0 [.ref a, av, .ref (fV t), .int (nI g), .int (nI td)] S QR' tk_noX) → E 134 [some (.ref x), some (.int (nI t)), some (.int (nI g)), some (.ref (fV t)), some (.ref (fG g)), some (.int y5), some (.int y6), none] [av, .ref a] S 0 0 := by
    intro av y5 y6 hav hcall
    refine hE.2.2 _ _ _ _ _ ?_
    simp -implicitDefEqProofs [t_X11_pass_134, i_aload, i_iload, i_lload, i_istore, i_lstore, i_astore, i_iinc, i_push, i_getI, i_getJ, i_getR, i_putI, i_putJ, i_putR, i_iadd, i_isub, i_imul, i_iand, i_ior, i_ixor, i_ishl, i_ishr, i_iushr, i_idiv, i_irem, i_ladd, i_lsub, i_lmul, i_land, i_lor, i_lxor, i_ldiv, i_lrem, i_lshl, i_lshr, i_lcmp, i_ineg, i_lneg, i_i2l, i_l2i, i_i2b, i_i2c, i_dup, i_pop, i_dup_x1, i_dup2, i_icmp_eq, i_icmp_lt, i_icmp_ge, i_icmp_gt, i_icmp_le, i_if_eq, i_if_lt, i_if_ge, i_if_gt, i_if_le, i_goto, i_ifnull, i_iald, i_bald, i_zald, i_lald, i_aald, i_iast, i_bast, i_zast, i_last, i_alen, i_iret, i_lret, i_aret, i_vret, i_oinit, i_cast, i_tsw, i_cases, i_mmin, i_mmax, i_lmin, i_throw, nb0, nb1, nint, nby0, rf_s, rf_n, of_r, of_n, tk_orf_rf, tk_c2, tk_ls, Value.category, tk_isR_ref, tk_isR_rf, tk_isR_null, hx, hk, htd]
    refine ⟨by simp, hr.1, hr.2.1, by simp [Value.category], 6, 0, 0, by omega, by omega, by omega, ?_⟩
    refine hcall _ (fun S1 c1 F1 sx1 hZ1 ha1 e1 e2 => ?_)
    unfold passM at H0
    dsimp only at H0
    generalize passPay ((tn, tg, tp), acts, (nS, pr, wo), (nG, os, ps, ls, re, su, du, le, nb, bf, br, bs), (nV, kd, wh, be, bi, pa, pd, la), (nF, mo), (nL, lsu, lra, lrk, ldu), J, (td, dry, lc)) t g = pp at H0 e1 e2
    obtain ⟨v, bb⟩ := pp
    dsimp only at H0 e1 e2
    have hx1 := sx1.1
    have hk1 := sx1.2.1.trans hk
    simp -implicitDefEqProofs [i_aload, i_iload, i_lload, i_istore, i_lstore, i_astore, i_iinc, i_push, i_getI, i_getJ, i_getR, i_putI, i_putJ, i_putR, i_iadd, i_isub, i_imul, i_iand, i_ior, i_ixor, i_ishl, i_ishr, i_iushr, i_idiv, i_irem, i_ladd, i_lsub, i_lmul, i_land, i_lor, i_lxor, i_ldiv, i_lrem, i_lshl, i_lshr, i_lcmp, i_ineg, i_lneg, i_i2l, i_l2i, i_i2b, i_i2c, i_dup, i_pop, i_dup_x1, i_dup2, i_icmp_eq, i_icmp_lt, i_icmp_ge, i_icmp_gt, i_icmp_le, i_if_eq, i_if_lt, i_if_ge, i_if_gt, i_if_le, i_goto, i_ifnull, i_iald, i_bald, i_zald, i_lald, i_aald, i_iast, i_bast, i_zast, i_last, i_alen, i_iret, i_lret, i_aret, i_vret, i_oinit, i_cast, i_tsw, i_cases, i_mmin, i_mmax, i_lmin, i_throw, nb0, nb1, nint, nby0, rf_s, rf_n, of_r, of_n, tk_orf_rf, tk_c2, tk_ls, Value.category, tk_isR_ref, tk_isR_rf, tk_isR_null, hx1, hk1, (sx1.2.2.2.2.1 12 1).trans k1, ha1.1, ha1.2, e1, e2]
    have c2 : CI Z ρ (s_I S1 12 11 x bb) x (fS, fG, fV, p, p2, fF, fL, bl) (lcM ((tn, tg, tp), acts, (nS, pr, wo), (nG, os, ps, ls, re, su, du, le, nb, bf, br, bs), (nV, kd, wh, be, bi, pa, pd, la), (nF, mo), (nL, lsu, lra, lrk, ldu), J, (td, dry, lc)) bb) := CI.lc c1 hZ1 bb
    have hZ2 : Z.2.2.2.2.2.1 ∉ q_L (s_I S1 12 11 x bb) := hZ1
    have m3 := fun QR' H => m_tollC (mc := 5 * (lvl (J.1 + 1) - lvl J.1)) (ms := 60000 * (lvl (J.1 + 1) - lvl J.1)) (QR := QR') (t := t) (g := g) (v := v) (M := lcM ((tn, tg, tp), acts, (nS, pr, wo), (nG, os, ps, ls, re, su, du, le, nb, bf, br, bs), (nV, kd, wh, be, bi, pa, pd, la), (nF, mo), (nL, lsu, lra, lrk, ldu), J, (td, dry, lc)) bb) (gh := (fS, fG, fV, p, p2, fF, fL, bl)) (Nat.le_refl 4) hZ2 c2 hg hJn (Nat.le_refl _) (Nat.le_refl _) H
    generalize hS2 : s_I S1 12 11 x bb = S2 at c2 hZ2 m3 ⊢
    have F2 : FO ρ ρ S1 (s_I S1 12 11 x bb) := FO.of (T := [1]) (fun b hb => hb) rx.rfl' (fun b hb hn => s_I_same hb (fun z => hn (by rw [z, hρ]; simp))) (by simp)
    rw [hS2] at F2
    have hx2 := c2.1.1
    have hk2 := c2.1.2.1
    refine ⟨by simp, hx2, hk2, by simp [Value.category], 4, 5 * (lvl (J.1 + 1) - lvl J.1), 60000 * (lvl (J.1 + 1) - lvl J.1), by omega, by omega, by omega, ?_⟩
    refine m3 _ (fun S3 ρ3 F3 c3 hZ3 sx3 => ?_)
    have c3' := c3
    dsimp only [tollTo, lcM] at c3'
    obtain ⟨⟨hx3, hk3, hρ3, htd3, -, hdry3, -⟩, -, -, -, cS3, cG3, cV3, -⟩ := c3'
    obtain ⟨lV3, eV3, q1, q2', q3, q31, q32, q4, q5⟩ := id cV3
    obtain ⟨t1, t2, t3, t4, t5⟩ := q5 t htV
    have np : p2 t ≠ p t := ne_of_role t3 t2 (by decide)
    simp -implicitDefEqProofs [i_aload, i_iload, i_lload, i_istore, i_lstore, i_astore, i_iinc, i_push, i_getI, i_getJ, i_getR, i_putI, i_putJ, i_putR, i_iadd, i_isub, i_imul, i_iand, i_ior, i_ixor, i_ishl, i_ishr, i_iushr, i_idiv, i_irem, i_ladd, i_lsub, i_lmul, i_land, i_lor, i_lxor, i_ldiv, i_lrem, i_lshl, i_lshr, i_lcmp, i_ineg, i_lneg, i_i2l, i_l2i, i_i2b, i_i2c, i_dup, i_pop, i_dup_x1, i_dup2, i_icmp_eq, i_icmp_lt, i_icmp_ge, i_icmp_gt, i_icmp_le, i_if_eq, i_if_lt, i_if_ge, i_if_gt, i_if_le, i_goto, i_ifnull, i_iald, i_bald, i_zald, i_lald, i_aald, i_iast, i_bast, i_zast, i_last, i_alen, i_iret, i_lret, i_aret, i_vret, i_oinit, i_cast, i_tsw, i_cases, i_mmin, i_mmax, i_lmin, i_throw, nb0, nb1, nint, nby0, rf_s, rf_n, of_r, of_n, tk_orf_rf, tk_c2, tk_ls, Value.category, tk_isR_ref, tk_isR_rf, tk_isR_null, hx3, hk3, htd3]
    refine ⟨by simp, t1.1, t1.2.1, by simp [Value.category], 0, 0, 0, by omega, by omega, by omega, ?_⟩
    have wrap : ∀ (S4 : tk_S) (K : tk_K) lcs cs ss, S4 = (if 0 < v then s_I (s_aI (s_aI S3 (p t) (upd (q_aI S3 (p t)) g (nI td))) (p2 t) (upd (q_aI S3 (p2 t)) g (nI td))) 11 4 (fV t) (nI td) else s_aI S3 (p t) (upd (q_aI S3 (p t)) g (nI td))) → (∀ S5 : tk_S, CI Z ρ3 S5 x (fS, fG, fV, p, p2, fF, fL, bl) (noteM (tollTo (lcM ((tn, tg, tp), acts, (nS, pr, wo), (nG, os, ps, ls, re, su, du, le, nb, bf, br, bs), (nV, kd, wh, be, bi, pa, pd, la), (nF, mo), (nL, lsu, lra, lrk, ldu), J, (td, dry, lc)) bb) t g v) t g v) → FO ρ3 ρ3 S3 S5 → sameAt S3 S5 x → q_L S5 = q_L S3 → K lcs [] S5 cs ss) → K lcs [] S4 cs ss := fun S4 K lcs cs ss hS4 hK => by
      obtain ⟨n1, n2, n3, n4⟩ := CI.note c3 hZ3 htV hg8 v hS4
      exact hK S4 n1 n2 n3 n4
    refine m_noteAt (p := p t) (p2 := p2 t) t1.1 t1.2.1 t1.2.2.1.1 t1.2.2.1.2.1 t1.2.2.1.2.2.1 t1.2.2.1.2.2.2 t1.2.2.2.1.1 t1.2.2.2.1.2.1 t1.2.2.2.1.2.2.1 t1.2.2.2.1.2.2.2 np hg8 ?_ ?_
    all_goals
      intro hv
      refine wrap _ _ _ _ _ (by first | rw [if_pos hv] | rw [if_neg (Int32.not_lt.mpr hv)]) (fun S5 c5 F5 sx5 L5 => ?_)
      have c5' := c5
      dsimp only [noteM, tollTo, lcM] at c5'
      obtain ⟨⟨hx5, hk5, hρ5, htd5, -, hdry5, -⟩, -, -, -, cS5, cG5, cV5, -⟩ := c5'
      obtain ⟨lG5, eG5, m1, m2, m3', m31, m4, m5⟩ := id cG5
      obtain ⟨n1, n2⟩ := m2.1.2.2.2.2.2.2.1 g hg
      obtain ⟨⟨o1, ⟨o2, o2'⟩, o3, o4, -⟩, -⟩ := m5 g hg
      have hZ5 : Z.2.2.2.2.2.1 ∉ q_L S5 := by rw [L5]; exact hZ3
      simp -implicitDefEqProofs [i_aload, i_iload, i_lload, i_istore, i_lstore, i_astore, i_iinc, i_push, i_getI, i_getJ, i_getR, i_putI, i_putJ, i_putR, i_iadd, i_isub, i_imul, i_iand, i_ior, i_ixor, i_ishl, i_ishr, i_iushr, i_idiv, i_irem, i_ladd, i_lsub, i_lmul, i_land, i_lor, i_lxor, i_ldiv, i_lrem, i_lshl, i_lshr, i_lcmp, i_ineg, i_lneg, i_i2l, i_l2i, i_i2b, i_i2c, i_dup, i_pop, i_dup_x1, i_dup2, i_icmp_eq, i_icmp_lt, i_icmp_ge, i_icmp_gt, i_icmp_le, i_if_eq, i_if_lt, i_if_ge, i_if_gt, i_if_le, i_goto, i_ifnull, i_iald, i_bald, i_zald, i_lald, i_aald, i_iast, i_bast, i_zast, i_last, i_alen, i_iret, i_lret, i_aret, i_vret, i_oinit, i_cast, i_tsw, i_cases, i_mmin, i_mmax, i_lmin, i_throw, nb0, nb1, nint, nby0, rf_s, rf_n, of_r, of_n, tk_orf_rf, tk_c2, tk_ls, Value.category, tk_isR_ref, tk_isR_rf, tk_isR_null, n1, n2, o4]
      have c6 := CI.ps (g := g) c5 hZ5 hg (ps g + 1)
      obtain ⟨c6, F6, sx6⟩ := c6
      dsimp only at c6 F6 sx6
      generalize hS6 : s_I S5 6 3 (fG g) (ps g + 1) = S6 at *
      have hZ6 : Z.2.2.2.2.2.1 ∉ q_L S6 := by rw [← hS6]; exact hZ5
      have c6' := c6
      dsimp only [noteM, tollTo, lcM] at c6'
      obtain ⟨⟨hx6, hk6, hρ6, htd6, -, hdry6, -⟩, -, -, -, cS6, cG6, cV6, -⟩ := c6'
      obtain ⟨lG6, eG6, g1, g2, g3, g31, g4, g5⟩ := id cG6
      obtain ⟨g6, g7⟩ := g2.1.2.2.2.2.2.2.1 g hg
      obtain ⟨⟨-, ⟨g8, g9⟩, -⟩, -⟩ := g5 g hg
      obtain ⟨lS6, eS6, s1, s2, s3, s4, s5⟩ := id cS6
      obtain ⟨s6, s7⟩ := s2.1.2.2.2.2.2.2.1 (os g) g9
      have s8 := (s5 (os g) g9).2.2
      obtain ⟨lV6, eV6, w1, w2, w3, w31, w32, w4, w5⟩ := id cV6
      obtain ⟨⟨w6, w7, w8, w9, w10, w11, w12, w13⟩, -⟩ := w5 t htV
      simp -implicitDefEqProofs [i_aload, i_iload, i_lload, i_istore, i_lstore, i_astore, i_iinc, i_push, i_getI, i_getJ, i_getR, i_putI, i_putJ, i_putR, i_iadd, i_isub, i_imul, i_iand, i_ior, i_ixor, i_ishl, i_ishr, i_iushr, i_idiv, i_irem, i_ladd, i_lsub, i_lmul, i_land, i_lor, i_lxor, i_ldiv, i_lrem, i_lshl, i_lshr, i_lcmp, i_ineg, i_lneg, i_i2l, i_l2i, i_i2b, i_i2c, i_dup, i_pop, i_dup_x1, i_dup2, i_icmp_eq, i_icmp_lt, i_icmp_ge, i_icmp_gt, i_icmp_le, i_if_eq, i_if_lt, i_if_ge, i_if_gt, i_if_le, i_goto, i_ifnull, i_iald, i_bald, i_zald, i_lald, i_aald, i_iast, i_bast, i_zast, i_last, i_alen, i_iret, i_lret, i_aret, i_vret, i_oinit, i_cast, i_tsw, i_cases, i_mmin, i_mmax, i_lmin, i_throw, nb0, nb1, nint, nby0, rf_s, rf_n, of_r, of_n, tk_orf_rf, tk_c2, tk_ls, Value.category, tk_isR_ref, tk_isR_rf, tk_isR_null, g6, g7, g8, s6, s7, s8]
      refine ⟨by simp, hx6, hk6, by simp [Value.category], 0, 0, 0, by omega, by omega, by omega, ?_⟩
      refine m_rainLeft hx6 hk6 ?_
      rw [htd6, hdry6]
      have hdr2 : (if nI td < nI dry then nI dry - nI td else 0) = nI (dry - td) := by
        by_cases h : td < dry
        · rw [if_pos (nI_lt h (by omega)), pk_sub (by omega)]
        · rw [if_neg (nI_nlt (by omega) (by omega)), show dry - td = 0 by omega]
          rfl
      have hdr3 : (nI (dry - td) ≤ 0 ↔ ¬ td < dry) := by
        rw [show (0 : Int32) = nI 0 from rfl, nI_leI (by omega) (by omega)]
        omega
      rw [hdr2]
      have fin : ∀ vv : Int64, vv = wo (os g) + (if td < dry then 2 * (harmOf (kd t) (wh t) (be t)).toInt64 else (harmOf (kd t) (wh t) (be t)).toInt64) → QR (some (.int v)) (s_J S6 10 2 (fS (os g)) vv) := by
        intro vv hvv
        have c7 := CI.wo (j := os g) c6 hZ6 g9 vv
        obtain ⟨c7, F7, sx7⟩ := c7
        refine H0 _ ρ3 (fS, fG, fV, p, p2, fF, fL, bl) (F1.trans (F2.trans (F3.trans (F5.trans (F6.trans F7))))) ?_
        rw [hvv] at c7 ⊢
        exact c7
      have hm : ∀ QR' : tk_R, QR' (some (.int (harmOf (kd t) (wh t) (be t)))) S6 → tk_M Z mX10_harm 0 0 0 [.ref (fV t)] S6 QR' tk_noX := fun QR' h => m_harm w6 w7 (by rw [w10, w11, w12]; exact h)
      simp -implicitDefEqProofs [i_aload, i_iload, i_lload, i_istore, i_lstore, i_astore, i_iinc, i_push, i_getI, i_getJ, i_getR, i_putI, i_putJ, i_putR, i_iadd, i_isub, i_imul, i_iand, i_ior, i_ixor, i_ishl, i_ishr, i_iushr, i_idiv, i_irem, i_ladd, i_lsub, i_lmul, i_land, i_lor, i_lxor, i_ldiv, i_lrem, i_lshl, i_lshr, i_lcmp, i_ineg, i_lneg, i_i2l, i_l2i, i_i2b, i_i2c, i_dup, i_pop, i_dup_x1, i_dup2, i_icmp_eq, i_icmp_lt, i_icmp_ge, i_icmp_gt, i_icmp_le, i_if_eq, i_if_lt, i_if_ge, i_if_gt, i_if_le, i_goto, i_ifnull, i_iald, i_bald, i_zald, i_lald, i_aald, i_iast, i_bast, i_zast, i_last, i_alen, i_iret, i_lret, i_aret, i_vret, i_oinit, i_cast, i_tsw, i_cases, i_mmin, i_mmax, i_lmin, i_throw, nb0, nb1, nint, nby0, rf_s, rf_n, of_r, of_n, tk_orf_rf, tk_c2, tk_ls, Value.category, tk_isR_ref, tk_isR_rf, tk_isR_null, hdr3]
      refine ⟨fun hw => ?_, fun hw => ?_⟩
      · refine ⟨by simp, w6, w7, by simp [Value.category], 0, 0, 0, by omega, by omega, by omega, ?_⟩
        refine hm _ ?_
        simp -implicitDefEqProofs [i_aload, i_iload, i_lload, i_istore, i_lstore, i_astore, i_iinc, i_push, i_getI, i_getJ, i_getR, i_putI, i_putJ, i_putR, i_iadd, i_isub, i_imul, i_iand, i_ior, i_ixor, i_ishl, i_ishr, i_iushr, i_idiv, i_irem, i_ladd, i_lsub, i_lmul, i_land, i_lor, i_lxor, i_ldiv, i_lrem, i_lshl, i_lshr, i_lcmp, i_ineg, i_lneg, i_i2l, i_l2i, i_i2b, i_i2c, i_dup, i_pop, i_dup_x1, i_dup2, i_icmp_eq, i_icmp_lt, i_icmp_ge, i_icmp_gt, i_icmp_le, i_if_eq, i_if_lt, i_if_ge, i_if_gt, i_if_le, i_goto, i_ifnull, i_iald, i_bald, i_zald, i_lald, i_aald, i_iast, i_bast, i_zast, i_last, i_alen, i_iret, i_lret, i_aret, i_vret, i_oinit, i_cast, i_tsw, i_cases, i_mmin, i_mmax, i_lmin, i_throw, nb0, nb1, nint, nby0, rf_s, rf_n, of_r, of_n, tk_orf_rf, tk_c2, tk_ls, Value.category, tk_isR_ref, tk_isR_rf, tk_isR_null, s6, s7]
        refine ⟨by omega, by omega, fin _ ?_⟩
        rw [if_neg (by omega)]
      · refine ⟨by simp, w6, w7, by simp [Value.category], 0, 0, 0, by omega, by omega, by omega, ?_⟩
        refine hm _ ?_
        simp -implicitDefEqProofs [i_aload, i_iload, i_lload, i_istore, i_lstore, i_astore, i_iinc, i_push, i_getI, i_getJ, i_getR, i_putI, i_putJ, i_putR, i_iadd, i_isub, i_imul, i_iand, i_ior, i_ixor, i_ishl, i_ishr, i_iushr, i_idiv, i_irem, i_ladd, i_lsub, i_lmul, i_land, i_lor, i_lxor, i_ldiv, i_lrem, i_lshl, i_lshr, i_lcmp, i_ineg, i_lneg, i_i2l, i_l2i, i_i2b, i_i2c, i_dup, i_pop, i_dup_x1, i_dup2, i_icmp_eq, i_icmp_lt, i_icmp_ge, i_icmp_gt, i_icmp_le, i_if_eq, i_if_lt, i_if_ge, i_if_gt, i_if_le, i_goto, i_ifnull, i_iald, i_bald, i_zald, i_lald, i_aald, i_iast, i_bast, i_zast, i_last, i_alen, i_iret, i_lret, i_aret, i_vret, i_oinit, i_cast, i_tsw, i_cases, i_mmin, i_mmax, i_lmin, i_throw, nb0, nb1, nint, nby0, rf_s, rf_n, of_r, of_n, tk_orf_rf, tk_c2, tk_ls, Value.category, tk_isR_ref, tk_isR_rf, tk_isR_null, s6, s7]
        refine ⟨by omega, by omega, fin _ ?_⟩
        rw [if_pos (by omega)]
  have hpay : ∀ n : Int32, actM acts 0 (nI td) (-1) (-1) = n → n < 0 → passPay ((tn, tg, tp), acts, (nS, pr, wo), (nG, os, ps, ls, re, su, du, le, nb, bf, br, bs), (nV, kd, wh, be, bi, pa, pd, la), (nF, mo), (nL, lsu, lra, lrk, ldu), J, (td, dry, lc)) t g = (0, -1) := by
    intro n h hn
    unfold passPay
    dsimp only
    rw [h]
    split
    · rw [if_pos hn]
    · rfl
  rcases actM_ok acts 0 (nI td) (-1) (-1) with h | ⟨j, -, hj, h⟩
  · have hp := hpay _ h (by decide)
    rw [hp] at B134
    simp -implicitDefEqProofs [i_aload, i_iload, i_lload, i_istore, i_lstore, i_astore, i_iinc, i_push, i_getI, i_getJ, i_getR, i_putI, i_putJ, i_putR, i_iadd, i_isub, i_imul, i_iand, i_ior, i_ixor, i_ishl, i_ishr, i_iushr, i_idiv, i_irem, i_ladd, i_lsub, i_lmul, i_land, i_lor, i_lxor, i_ldiv, i_lrem, i_lshl, i_lshr, i_lcmp, i_ineg, i_lneg, i_i2l, i_l2i, i_i2b, i_i2c, i_dup, i_pop, i_dup_x1, i_dup2, i_icmp_eq, i_icmp_lt, i_icmp_ge, i_icmp_gt, i_icmp_le, i_if_eq, i_if_lt, i_if_ge, i_if_gt, i_if_le, i_goto, i_ifnull, i_iald, i_bald, i_zald, i_lald, i_aald, i_iast, i_bast, i_zast, i_last, i_alen, i_iret, i_lret, i_aret, i_vret, i_oinit, i_cast, i_tsw, i_cases, i_mmin, i_mmax, i_lmin, i_throw, nb0, nb1, nint, nby0, rf_s, rf_n, of_r, of_n, tk_orf_rf, tk_c2, tk_ls, Value.category, tk_isR_ref, tk_isR_rf, tk_isR_null, h]
    refine hE.2.1 _ _ _ _ _ ?_
    simp -implicitDefEqProofs [t_X11_pass_106, i_aload, i_iload, i_lload, i_istore, i_lstore, i_astore, i_iinc, i_push, i_getI, i_getJ, i_getR, i_putI, i_putJ, i_putR, i_iadd, i_isub, i_imul, i_iand, i_ior, i_ixor, i_ishl, i_ishr, i_iushr, i_idiv, i_irem, i_ladd, i_lsub, i_lmul, i_land, i_lor, i_lxor, i_ldiv, i_lrem, i_lshl, i_lshr, i_lcmp, i_ineg, i_lneg, i_i2l, i_l2i, i_i2b, i_i2c, i_dup, i_pop, i_dup_x1, i_dup2, i_icmp_eq, i_icmp_lt, i_icmp_ge, i_icmp_gt, i_icmp_le, i_if_eq, i_if_lt, i_if_ge, i_if_gt, i_if_le, i_goto, i_ifnull, i_iald, i_bald, i_zald, i_lald, i_aald, i_iast, i_bast, i_zast, i_last, i_alen, i_iret, i_lret, i_aret, i_vret, i_oinit, i_cast, i_tsw, i_cases, i_mmin, i_mmax, i_lmin, i_throw, nb0, nb1, nint, nby0, rf_s, rf_n, of_r, of_n, tk_orf_rf, tk_c2, tk_ls, Value.category, tk_isR_ref, tk_isR_rf, tk_isR_null, hx, hk, k1]
    exact B134 .null (-1) 0 rfl (fun QR' HH => m_reckonC0 (M := ((tn, tg, tp), acts, (nS, pr, wo), (nG, os, ps, ls, re, su, du, le, nb, bf, br, bs), (nV, kd, wh, be, bi, pa, pd, la), (nF, mo), (nL, lsu, lra, lrk, ldu), J, (td, dry, lc))) (gh := (fS, fG, fV, p, p2, fF, fL, bl)) hZ hCC k1 HH)
  · have hj2 : j < acts.length := by omega
    have hn0 : ¬ nI j < 0 := nI_pos (by omega)
    have hnl : ¬ nI acts.length ≤ nI j := nI_ge hj2 (by omega)
    have ej : acts[j]? = some acts[j] := by simp [hj2]
    have hp : passPay ((tn, tg, tp), acts, (nS, pr, wo), (nG, os, ps, ls, re, su, du, le, nb, bf, br, bs), (nV, kd, wh, be, bi, pa, pd, la), (nF, mo), (nL, lsu, lra, lrk, ldu), J, (td, dry, lc)) t g = payOf ((tn, tg, tp), acts, (nS, pr, wo), (nG, os, ps, ls, re, su, du, le, nb, bf, br, bs), (nV, kd, wh, be, bi, pa, pd, la), (nF, mo), (nL, lsu, lra, lrk, ldu), J, (td, dry, lc)) acts[j] t g := by
      unfold passPay
      dsimp only
      rw [h, nI_clamp (by omega), ej]
      dsimp only
      rw [if_neg hn0]
    rw [hp] at B134
    obtain ⟨z1, z2⟩ := hlA.2.2.2.2.2.2.1 j hj2
    simp -implicitDefEqProofs [i_aload, i_iload, i_lload, i_istore, i_lstore, i_astore, i_iinc, i_push, i_getI, i_getJ, i_getR, i_putI, i_putJ, i_putR, i_iadd, i_isub, i_imul, i_iand, i_ior, i_ixor, i_ishl, i_ishr, i_iushr, i_idiv, i_irem, i_ladd, i_lsub, i_lmul, i_land, i_lor, i_lxor, i_ldiv, i_lrem, i_lshl, i_lshr, i_lcmp, i_ineg, i_lneg, i_i2l, i_l2i, i_i2b, i_i2c, i_dup, i_pop, i_dup_x1, i_dup2, i_icmp_eq, i_icmp_lt, i_icmp_ge, i_icmp_gt, i_icmp_le, i_if_eq, i_if_lt, i_if_ge, i_if_gt, i_if_le, i_goto, i_ifnull, i_iald, i_bald, i_zald, i_lald, i_aald, i_iast, i_bast, i_zast, i_last, i_alen, i_iret, i_lret, i_aret, i_vret, i_oinit, i_cast, i_tsw, i_cases, i_mmin, i_mmax, i_lmin, i_throw, nb0, nb1, nint, nby0, rf_s, rf_n, of_r, of_n, tk_orf_rf, tk_c2, tk_ls, Value.category, tk_isR_ref, tk_isR_rf, tk_isR_null, h, hn0, hx, hk, a1]
    refine ⟨by simp, hlA.1, hlA.2.1, by simp [Value.category], 0, 0, 0, by omega, by omega, by omega, ?_⟩
    refine l_size hlA ?_
    simp -implicitDefEqProofs [i_aload, i_iload, i_lload, i_istore, i_lstore, i_astore, i_iinc, i_push, i_getI, i_getJ, i_getR, i_putI, i_putJ, i_putR, i_iadd, i_isub, i_imul, i_iand, i_ior, i_ixor, i_ishl, i_ishr, i_iushr, i_idiv, i_irem, i_ladd, i_lsub, i_lmul, i_land, i_lor, i_lxor, i_ldiv, i_lrem, i_lshl, i_lshr, i_lcmp, i_ineg, i_lneg, i_i2l, i_l2i, i_i2b, i_i2c, i_dup, i_pop, i_dup_x1, i_dup2, i_icmp_eq, i_icmp_lt, i_icmp_ge, i_icmp_gt, i_icmp_le, i_if_eq, i_if_lt, i_if_ge, i_if_gt, i_if_le, i_goto, i_ifnull, i_iald, i_bald, i_zald, i_lald, i_aald, i_iast, i_bast, i_zast, i_last, i_alen, i_iret, i_lret, i_aret, i_vret, i_oinit, i_cast, i_tsw, i_cases, i_mmin, i_mmax, i_lmin, i_throw, nb0, nb1, nint, nby0, rf_s, rf_n, of_r, of_n, tk_orf_rf, tk_c2, tk_ls, Value.category, tk_isR_ref, tk_isR_rf, tk_isR_null, hnl, hx, hk, k1, a1]
    refine get_call hlA (by omega) hj2 (by simp [Value.category]) ?_
    simp -implicitDefEqProofs [i_aload, i_iload, i_lload, i_istore, i_lstore, i_astore, i_iinc, i_push, i_getI, i_getJ, i_getR, i_putI, i_putJ, i_putR, i_iadd, i_isub, i_imul, i_iand, i_ior, i_ixor, i_ishl, i_ishr, i_iushr, i_idiv, i_irem, i_ladd, i_lsub, i_lmul, i_land, i_lor, i_lxor, i_ldiv, i_lrem, i_lshl, i_lshr, i_lcmp, i_ineg, i_lneg, i_i2l, i_l2i, i_i2b, i_i2c, i_dup, i_pop, i_dup_x1, i_dup2, i_icmp_eq, i_icmp_lt, i_icmp_ge, i_icmp_gt, i_icmp_le, i_if_eq, i_if_lt, i_if_ge, i_if_gt, i_if_le, i_goto, i_ifnull, i_iald, i_bald, i_zald, i_lald, i_aald, i_iast, i_bast, i_zast, i_last, i_alen, i_iret, i_lret, i_aret, i_vret, i_oinit, i_cast, i_tsw, i_cases, i_mmin, i_mmax, i_lmin, i_throw, nb0, nb1, nint, nby0, rf_s, rf_n, of_r, of_n, tk_orf_rf, tk_c2, tk_ls, Value.category, tk_isR_ref, tk_isR_rf, tk_isR_null, z1, z2]
    exact B134 (.ref (fA j)) (nI j) 1 rfl (fun QR' HH => m_reckonC (M := ((tn, tg, tp), acts, (nS, pr, wo), (nG, os, ps, ls, re, su, du, le, nb, bf, br, bs), (nV, kd, wh, be, bi, pa, pd, la), (nF, mo), (nL, lsu, lra, lrk, ldu), J, (td, dry, lc))) (gh := (fS, fG, fV, p, p2, fF, fL, bl)) (t := t) (Nat.le_refl 6) hZ hCC k1 ⟨z1, z2⟩ (a4 j _ ej) htV hg8 HH)
end PUB7



/-! by program: the readers over the writers -/
theorem z_q_L_s_I (S : tk_S) (c k a : Nat) (v : Int32) : q_L (s_I S c k a v) = q_L S := rfl
theorem z_q_K_s_I (S : tk_S) (c k a : Nat) (v : Int32) : q_K (s_I S c k a v) = q_K S := rfl
theorem z_q_I_s_I (S : tk_S) (c k a : Nat) (v : Int32) (c' k' b : Nat) : q_I (s_I S c k a v) c' k' b = if c' = c ∧ k' = k ∧ b = a then v else q_I S c' k' b := rfl
theorem z_q_J_s_I (S : tk_S) (c k a : Nat) (v : Int32) : q_J (s_I S c k a v) = q_J S := rfl
theorem z_q_R_s_I (S : tk_S) (c k a : Nat) (v : Int32) : q_R (s_I S c k a v) = q_R S := rfl
theorem z_q_n_s_I (S : tk_S) (c k a : Nat) (v : Int32) : q_n (s_I S c k a v) = q_n S := rfl
theorem z_q_aI_s_I (S : tk_S) (c k a : Nat) (v : Int32) : q_aI (s_I S c k a v) = q_aI S := rfl
theorem z_q_aJ_s_I (S : tk_S) (c k a : Nat) (v : Int32) : q_aJ (s_I S c k a v) = q_aJ S := rfl
theorem z_q_aR_s_I (S : tk_S) (c k a : Nat) (v : Int32) : q_aR (s_I S c k a v) = q_aR S := rfl
theorem z_q_L_s_J (S : tk_S) (c k a : Nat) (v : Int64) : q_L (s_J S c k a v) = q_L S := rfl
theorem z_q_K_s_J (S : tk_S) (c k a : Nat) (v : Int64) : q_K (s_J S c k a v) = q_K S := rfl
theorem z_q_I_s_J (S : tk_S) (c k a : Nat) (v : Int64) : q_I (s_J S c k a v) = q_I S := rfl
theorem z_q_J_s_J (S : tk_S) (c k a : Nat) (v : Int64) (c' k' b : Nat) : q_J (s_J S c k a v) c' k' b = if c' = c ∧ k' = k ∧ b = a then v else q_J S c' k' b := rfl
theorem z_q_R_s_J (S : tk_S) (c k a : Nat) (v : Int64) : q_R (s_J S c k a v) = q_R S := rfl
theorem z_q_n_s_J (S : tk_S) (c k a : Nat) (v : Int64) : q_n (s_J S c k a v) = q_n S := rfl
theorem z_q_aI_s_J (S : tk_S) (c k a : Nat) (v : Int64) : q_aI (s_J S c k a v) = q_aI S := rfl
theorem z_q_aJ_s_J (S : tk_S) (c k a : Nat) (v : Int64) : q_aJ (s_J S c k a v) = q_aJ S := rfl
theorem z_q_aR_s_J (S : tk_S) (c k a : Nat) (v : Int64) : q_aR (s_J S c k a v) = q_aR S := rfl
theorem z_q_L_s_R (S : tk_S) (c k a : Nat) (v : Option Nat) : q_L (s_R S c k a v) = q_L S := rfl
theorem z_q_K_s_R (S : tk_S) (c k a : Nat) (v : Option Nat) : q_K (s_R S c k a v) = q_K S := rfl
theorem z_q_I_s_R (S : tk_S) (c k a : Nat) (v : Option Nat) : q_I (s_R S c k a v) = q_I S := rfl
theorem z_q_J_s_R (S : tk_S) (c k a : Nat) (v : Option Nat) : q_J (s_R S c k a v) = q_J S := rfl
theorem z_q_R_s_R (S : tk_S) (c k a : Nat) (v : Option Nat) (c' k' b : Nat) : q_R (s_R S c k a v) c' k' b = if c' = c ∧ k' = k ∧ b = a then v else q_R S c' k' b := rfl
theorem z_q_n_s_R (S : tk_S) (c k a : Nat) (v : Option Nat) : q_n (s_R S c k a v) = q_n S := rfl
theorem z_q_aI_s_R (S : tk_S) (c k a : Nat) (v : Option Nat) : q_aI (s_R S c k a v) = q_aI S := rfl
theorem z_q_aJ_s_R (S : tk_S) (c k a : Nat) (v : Option Nat) : q_aJ (s_R S c k a v) = q_aJ S := rfl
theorem z_q_aR_s_R (S : tk_S) (c k a : Nat) (v : Option Nat) : q_aR (s_R S c k a v) = q_aR S := rfl
theorem z_q_L_s_aI (S : tk_S) (a : Nat) (f : Nat → Int32) : q_L (s_aI S a f) = q_L S := rfl
theorem z_q_K_s_aI (S : tk_S) (a : Nat) (f : Nat → Int32) : q_K (s_aI S a f) = q_K S := rfl
theorem z_q_I_s_aI (S : tk_S) (a : Nat) (f : Nat → Int32) : q_I (s_aI S a f) = q_I S := rfl
theorem z_q_J_s_aI (S : tk_S) (a : Nat) (f : Nat → Int32) : q_J (s_aI S a f) = q_J S := rfl
theorem z_q_R_s_aI (S : tk_S) (a : Nat) (f : Nat → Int32) : q_R (s_aI S a f) = q_R S := rfl
theorem z_q_n_s_aI (S : tk_S) (a : Nat) (f : Nat → Int32) : q_n (s_aI S a f) = q_n S := rfl
theorem z_q_aI_s_aI (S : tk_S) (a : Nat) (f : Nat → Int32) (b : Nat) : q_aI (s_aI S a f) b = if b = a then f else q_aI S b := rfl
theorem z_q_aJ_s_aI (S : tk_S) (a : Nat) (f : Nat → Int32) : q_aJ (s_aI S a f) = q_aJ S := rfl
theorem z_q_aR_s_aI (S : tk_S) (a : Nat) (f : Nat → Int32) : q_aR (s_aI S a f) = q_aR S := rfl
theorem z_q_L_s_aJ (S : tk_S) (a : Nat) (f : Nat → Int64) : q_L (s_aJ S a f) = q_L S := rfl
theorem z_q_K_s_aJ (S : tk_S) (a : Nat) (f : Nat → Int64) : q_K (s_aJ S a f) = q_K S := rfl
theorem z_q_I_s_aJ (S : tk_S) (a : Nat) (f : Nat → Int64) : q_I (s_aJ S a f) = q_I S := rfl
theorem z_q_J_s_aJ (S : tk_S) (a : Nat) (f : Nat → Int64) : q_J (s_aJ S a f) = q_J S := rfl
theorem z_q_R_s_aJ (S : tk_S) (a : Nat) (f : Nat → Int64) : q_R (s_aJ S a f) = q_R S := rfl
theorem z_q_n_s_aJ (S : tk_S) (a : Nat) (f : Nat → Int64) : q_n (s_aJ S a f) = q_n S := rfl
theorem z_q_aI_s_aJ (S : tk_S) (a : Nat) (f : Nat → Int64) : q_aI (s_aJ S a f) = q_aI S := rfl
theorem z_q_aJ_s_aJ (S : tk_S) (a : Nat) (f : Nat → Int64) (b : Nat) : q_aJ (s_aJ S a f) b = if b = a then f else q_aJ S b := rfl
theorem z_q_aR_s_aJ (S : tk_S) (a : Nat) (f : Nat → Int64) : q_aR (s_aJ S a f) = q_aR S := rfl
theorem z_q_L_s_aR (S : tk_S) (a : Nat) (f : Nat → Option Nat) : q_L (s_aR S a f) = q_L S := rfl
theorem z_q_K_s_aR (S : tk_S) (a : Nat) (f : Nat → Option Nat) : q_K (s_aR S a f) = q_K S := rfl
theorem z_q_I_s_aR (S : tk_S) (a : Nat) (f : Nat → Option Nat) : q_I (s_aR S a f) = q_I S := rfl
theorem z_q_J_s_aR (S : tk_S) (a : Nat) (f : Nat → Option Nat) : q_J (s_aR S a f) = q_J S := rfl
theorem z_q_R_s_aR (S : tk_S) (a : Nat) (f : Nat → Option Nat) : q_R (s_aR S a f) = q_R S := rfl
theorem z_q_n_s_aR (S : tk_S) (a : Nat) (f : Nat → Option Nat) : q_n (s_aR S a f) = q_n S := rfl
theorem z_q_aI_s_aR (S : tk_S) (a : Nat) (f : Nat → Option Nat) : q_aI (s_aR S a f) = q_aI S := rfl
theorem z_q_aJ_s_aR (S : tk_S) (a : Nat) (f : Nat → Option Nat) : q_aJ (s_aR S a f) = q_aJ S := rfl
theorem z_q_aR_s_aR (S : tk_S) (a : Nat) (f : Nat → Option Nat) (b : Nat) : q_aR (s_aR S a f) b = if b = a then f else q_aR S b := rfl
theorem z_q_L_s_new (S : tk_S) (c a : Nat) : q_L (s_new S c a) = q_L S ++ [a] := rfl
theorem z_q_K_s_new (S : tk_S) (c a : Nat) (b : Nat) : q_K (s_new S c a) b = if b = a then c else q_K S b := rfl
theorem z_q_I_s_new (S : tk_S) (c a : Nat) (c' k' b : Nat) : q_I (s_new S c a) c' k' b = if b = a then 0 else q_I S c' k' b := rfl
theorem z_q_J_s_new (S : tk_S) (c a : Nat) (c' k' b : Nat) : q_J (s_new S c a) c' k' b = if b = a then 0 else q_J S c' k' b := rfl
theorem z_q_R_s_new (S : tk_S) (c a : Nat) (c' k' b : Nat) : q_R (s_new S c a) c' k' b = if b = a then none else q_R S c' k' b := rfl
theorem z_q_n_s_new (S : tk_S) (c a : Nat) : q_n (s_new S c a) = q_n S := rfl
theorem z_q_aI_s_new (S : tk_S) (c a : Nat) : q_aI (s_new S c a) = q_aI S := rfl
theorem z_q_aJ_s_new (S : tk_S) (c a : Nat) : q_aJ (s_new S c a) = q_aJ S := rfl
theorem z_q_aR_s_new (S : tk_S) (c a : Nat) : q_aR (s_new S c a) = q_aR S := rfl
theorem z_q_L_s_arr (S : tk_S) (c a n : Nat) : q_L (s_arr S c a n) = q_L S ++ [a] := rfl
theorem z_q_K_s_arr (S : tk_S) (c a n : Nat) (b : Nat) : q_K (s_arr S c a n) b = if b = a then c else q_K S b := rfl
theorem z_q_I_s_arr (S : tk_S) (c a n : Nat) : q_I (s_arr S c a n) = q_I S := rfl
theorem z_q_J_s_arr (S : tk_S) (c a n : Nat) : q_J (s_arr S c a n) = q_J S := rfl
theorem z_q_R_s_arr (S : tk_S) (c a n : Nat) : q_R (s_arr S c a n) = q_R S := rfl
theorem z_q_n_s_arr (S : tk_S) (c a n : Nat) (b : Nat) : q_n (s_arr S c a n) b = if b = a then n else q_n S b := rfl
theorem z_q_aI_s_arr (S : tk_S) (c a n : Nat) (b : Nat) : q_aI (s_arr S c a n) b = if b = a then (fun _ => 0) else q_aI S b := rfl
theorem z_q_aJ_s_arr (S : tk_S) (c a n : Nat) (b : Nat) : q_aJ (s_arr S c a n) b = if b = a then (fun _ => 0) else q_aJ S b := rfl
theorem z_q_aR_s_arr (S : tk_S) (c a n : Nat) (b : Nat) : q_aR (s_arr S c a n) b = if b = a then (fun _ => none) else q_aR S b := rfl
theorem nb0 : narrow FieldType.boolean (.int 0) = .int 0 := rfl
theorem nb1 : narrow FieldType.boolean (.int 1) = .int 1 := rfl
theorem nint (v : Int32) : narrow FieldType.int (.int v) = .int v := rfl
theorem nby0 : narrow FieldType.byte (.int 0) = .int 0 := rfl
theorem rf_s (a : Nat) : va_rf (some a) = .ref a := rfl
theorem rf_n : va_rf none = .null := rfl
theorem of_r (a : Nat) : tk_orf (.ref a) = some (some a) := rfl
theorem of_n : tk_orf .null = some none := rfl

/-! THE REFERENCE'S CALLS, over their outcomes -/
section RQ
variable {Z : tk_Z} {d mc ms c : Nat} {QR : tk_R} {m hw k : Nat} {B : bS} {V : vR} {ρ : Nat → Nat} {S : tk_S} {R : Nat → Nat} {M : Mt}
set_option maxHeartbeats 2000000 in
theorem q_stretch {i : Int32} (hd : 50 ≤ d) (hR : RS B m ρ S (rLk (cp 400 hw) (cp 600 M.2.2.2.2.2.2.2.1.1)) R V) (hI : RI V k M) (hIV : IV c M) (hB : BD M) (hc : c ≤ 511) (hk : k ≤ hw) (hhw : hw ≤ 12000) (hmc : 4 * (lv 600 (jnM (o_stretch M i).2.2) - lv 600 (jnM M)) ≤ mc) (hms : 80000 * (lv 600 (jnM (o_stretch M i).2.2) - lv 600 (jnM M)) ≤ ms)
    (H : okI B m hw k QR (o_stretch M i)) : tk_M Z mX12_stretch d mc ms [.ref m, .int i] S QR tk_noX := by
  refine rr_stretch (by omega) hR hI hB (fun h1 => ?_) (fun h1 h2 => ?_) (fun h1 h2 => ?_)
  · have h := H
    unfold o_stretch at h
    rw [if_pos h1] at h
    first | exact h 0 (fun z => absurd z (show ¬ (1 : Int32) = 0 by decide)) | exact h 0 (fun z => absurd z (show ¬ (2 : Int32) = 0 by decide)) | exact h 0 (fun z => absurd z (show ¬ (3 : Int32) = 0 by decide))
  · have h := H
    unfold o_stretch at h
    rw [if_neg (fun z => z h1), if_pos h2] at h
    first | exact h 0 (fun z => absurd z (show ¬ (1 : Int32) = 0 by decide)) | exact h 0 (fun z => absurd z (show ¬ (2 : Int32) = 0 by decide)) | exact h 0 (fun z => absurd z (show ¬ (3 : Int32) = 0 by decide))
  · have h := H
    unfold o_stretch at h
    rw [if_neg (fun z => z h1), if_neg (Nat.not_le.mpr h2)] at h
    exact h _ (fun _ => rfl)
set_option maxHeartbeats 2000000 in
theorem q_gate {i : Int32} (hd : 50 ≤ d) (hR : RS B m ρ S (rLk (cp 400 hw) (cp 600 M.2.2.2.2.2.2.2.1.1)) R V) (hI : RI V k M) (hIV : IV c M) (hB : BD M) (hc : c ≤ 511) (hk : k ≤ hw) (hhw : hw ≤ 12000) (hmc : 4 * (lv 600 (jnM (o_gate M i).2.2) - lv 600 (jnM M)) ≤ mc) (hms : 80000 * (lv 600 (jnM (o_gate M i).2.2) - lv 600 (jnM M)) ≤ ms)
    (H : okI B m hw k QR (o_gate M i)) : tk_M Z mX12_gate d mc ms [.ref m, .int i] S QR tk_noX := by
  refine rr_gate (by omega) hR hI hB hIV.g0.2 (fun h1 => ?_) (fun h1 h2 => ?_) (fun j hj hi h2 => ?_)
  · have h := H
    unfold o_gate at h
    rw [if_pos h1] at h
    first | exact h 0 (fun z => absurd z (show ¬ (1 : Int32) = 0 by decide)) | exact h 0 (fun z => absurd z (show ¬ (2 : Int32) = 0 by decide)) | exact h 0 (fun z => absurd z (show ¬ (3 : Int32) = 0 by decide))
  · have h := H
    unfold o_gate at h
    rw [if_neg h1, if_pos h2] at h
    first | exact h 0 (fun z => absurd z (show ¬ (1 : Int32) = 0 by decide)) | exact h 0 (fun z => absurd z (show ¬ (2 : Int32) = 0 by decide)) | exact h 0 (fun z => absurd z (show ¬ (3 : Int32) = 0 by decide))
  · subst hi
    have b1 := hB.nV
    have b2 := hB.nG
    have b3 := hB.nS
    have b4 := hB.nF
    have b5 := hB.nL
    have b6 := hB.acts
    have b7 := hB.jn
    have h := H
    unfold o_gate at h
    rw [if_neg (fun z => z.elim (nI_pos (by omega)) (nI_ge hj (by omega))), if_neg (Nat.not_le.mpr h2), nI_clamp (by omega)] at h
    exact h _ (fun _ => rfl)
set_option maxHeartbeats 2000000 in
theorem q_traveller {k0 w0 b0 t0 : Int32} (hd : 50 ≤ d) (hR : RS B m ρ S (rLk (cp 400 hw) (cp 600 M.2.2.2.2.2.2.2.1.1)) R V) (hI : RI V k M) (hIV : IV c M) (hB : BD M) (hc : c ≤ 511) (hk : k ≤ hw) (hhw : hw ≤ 12000) (hmc : 4 * (lv 600 (jnM (o_traveller M k0 w0 b0 t0).2.2) - lv 600 (jnM M)) ≤ mc) (hms : 80000 * (lv 600 (jnM (o_traveller M k0 w0 b0 t0).2.2) - lv 600 (jnM M)) ≤ ms)
    (H : okI B m hw k QR (o_traveller M k0 w0 b0 t0)) : tk_M Z mX12_traveller d mc ms [.ref m, .int k0, .int w0, .int b0, .int t0] S QR tk_noX := by
  refine rr_traveller (pa' := (fun q => if q < 8 * M.2.2.2.2.1.1 then M.2.2.2.2.1.2.2.2.2.2.1 q else -1)) (pd' := (fun q => if q < 8 * M.2.2.2.2.1.1 then M.2.2.2.2.1.2.2.2.2.2.2.1 q else -1)) (by omega) hR hI hB (fun j hj => ⟨if_pos hj, if_pos hj⟩) (fun g hg => ⟨if_neg (by omega), if_neg (by omega)⟩) (fun h1 => ?_) (fun h1 h2 => ?_) (fun h1 h2 => ?_)
  · have h := H
    unfold o_traveller at h
    rw [if_pos h1] at h
    first | exact h 0 (fun z => absurd z (show ¬ (1 : Int32) = 0 by decide)) | exact h 0 (fun z => absurd z (show ¬ (2 : Int32) = 0 by decide)) | exact h 0 (fun z => absurd z (show ¬ (3 : Int32) = 0 by decide))
  · have h := H
    unfold o_traveller at h
    rw [if_neg (fun z => z h1), if_pos h2] at h
    first | exact h 0 (fun z => absurd z (show ¬ (1 : Int32) = 0 by decide)) | exact h 0 (fun z => absurd z (show ¬ (2 : Int32) = 0 by decide)) | exact h 0 (fun z => absurd z (show ¬ (3 : Int32) = 0 by decide))
  · have h := H
    unfold o_traveller at h
    rw [if_neg (fun z => z h1), if_neg (Nat.not_le.mpr h2)] at h
    exact h _ (fun _ => rfl)
set_option maxHeartbeats 2000000 in
theorem q_pass {t0 g0 : Int32} (hd : 50 ≤ d) (hR : RS B m ρ S (rLk (cp 400 hw) (cp 600 M.2.2.2.2.2.2.2.1.1)) R V) (hI : RI V k M) (hIV : IV c M) (hB : BD M) (hc : c ≤ 511) (hk : k ≤ hw) (hhw : hw ≤ 12000) (hmc : 4 * (lv 600 (jnM (o_pass M t0 g0).2.2) - lv 600 (jnM M)) ≤ mc) (hms : 80000 * (lv 600 (jnM (o_pass M t0 g0).2.2) - lv 600 (jnM M)) ≤ ms)
    (H : okI B m hw k QR (o_pass M t0 g0)) : tk_M Z mX12_pass d mc ms [.ref m, .int t0, .int g0] S QR tk_noX := by
  refine rr_pass2 (by omega) hR hI hB (hIV.la hB) hk hhw hIV.hda hIV.dry (by have := (hIV.lines hB (by omega)).1; omega) (fun t g ht htt hg hgg h3 h4 => ?_) (fun t g ht htt hg hgg h3 h4 => ?_) (fun h1 => ?_) (fun t g ht htt hg hgg => ?_)
  · subst htt hgg
    have b1 := hB.nV
    have b2 := hB.nG
    have b3 := hB.nS
    have b4 := hB.nF
    have b5 := hB.nL
    have b6 := hB.acts
    have b7 := hB.jn
    have h := hmc
    unfold o_pass at h
    rw [if_neg (fun z => z.elim (fun z => z.elim (nI_pos (by omega)) (nI_ge ht (by omega))) (fun z => z.elim (nI_pos (by omega)) (nI_ge hg (by omega)))), nI_clamp (n := t) (by omega), nI_clamp (n := g) (by omega)] at h
    have hk2 : (passM M t g).2.2.2.2.2.2.2.1.1 = M.2.2.2.2.2.2.2.1.1 + 1 := by
      unfold passM woM psM noteM tollTo lcM
      dsimp only
      rw [h3]
      dsimp only
      rw [if_pos h4]
      rfl
    have h2 : 4 * (lv 600 (passM M t g).2.2.2.2.2.2.2.1.1 - lv 600 M.2.2.2.2.2.2.2.1.1) ≤ mc := h
    rw [hk2] at h2
    exact h2
  · subst htt hgg
    have b1 := hB.nV
    have b2 := hB.nG
    have b3 := hB.nS
    have b4 := hB.nF
    have b5 := hB.nL
    have b6 := hB.acts
    have b7 := hB.jn
    have h := hms
    unfold o_pass at h
    rw [if_neg (fun z => z.elim (fun z => z.elim (nI_pos (by omega)) (nI_ge ht (by omega))) (fun z => z.elim (nI_pos (by omega)) (nI_ge hg (by omega)))), nI_clamp (n := t) (by omega), nI_clamp (n := g) (by omega)] at h
    have hk2 : (passM M t g).2.2.2.2.2.2.2.1.1 = M.2.2.2.2.2.2.2.1.1 + 1 := by
      unfold passM woM psM noteM tollTo lcM
      dsimp only
      rw [h3]
      dsimp only
      rw [if_pos h4]
      rfl
    have h2 : 80000 * (lv 600 (passM M t g).2.2.2.2.2.2.2.1.1 - lv 600 M.2.2.2.2.2.2.2.1.1) ≤ ms := h
    rw [hk2] at h2
    exact h2
  · have h := H
    unfold o_pass at h
    rw [if_pos h1] at h
    first | exact h 0 (fun z => absurd z (show ¬ (1 : Int32) = 0 by decide)) | exact h 0 (fun z => absurd z (show ¬ (2 : Int32) = 0 by decide)) | exact h 0 (fun z => absurd z (show ¬ (3 : Int32) = 0 by decide))
  · subst htt hgg
    have b1 := hB.nV
    have b2 := hB.nG
    have b3 := hB.nS
    have b4 := hB.nF
    have b5 := hB.nL
    have b6 := hB.acts
    have b7 := hB.jn
    have h := H
    unfold o_pass at h
    rw [if_neg (fun z => z.elim (fun z => z.elim (nI_pos (by omega)) (nI_ge ht (by omega))) (fun z => z.elim (nI_pos (by omega)) (nI_ge hg (by omega)))), nI_clamp (n := t) (by omega), nI_clamp (n := g) (by omega)] at h
    exact h _ (fun _ => rfl)
set_option maxHeartbeats 2000000 in
theorem q_asked {i t0 g0 : Int32} (hd : 50 ≤ d) (hR : RS B m ρ S (rLk (cp 400 hw) (cp 600 M.2.2.2.2.2.2.2.1.1)) R V) (hI : RI V k M) (hIV : IV c M) (hB : BD M) (hc : c ≤ 511) (hk : k ≤ hw) (hhw : hw ≤ 12000) (hmc : 4 * (lv 600 (jnM (o_asked M i t0 g0).2.2) - lv 600 (jnM M)) ≤ mc) (hms : 80000 * (lv 600 (jnM (o_asked M i t0 g0).2.2) - lv 600 (jnM M)) ≤ ms)
    (H : okI B m hw k QR (o_asked M i t0 g0)) : tk_M Z mX12_asked d mc ms [.ref m, .int i, .int t0, .int g0] S QR tk_noX := by
  refine rr_asked (by omega) hR hI hB (hIV.la hB) hk hhw (fun h1 => ?_) (fun j A t g hA hi ht htt hg hgg => ?_)
  · have h := H
    unfold o_asked at h
    rw [if_pos h1] at h
    first | exact h 0 (fun z => absurd z (show ¬ (1 : Int32) = 0 by decide)) | exact h 0 (fun z => absurd z (show ¬ (2 : Int32) = 0 by decide)) | exact h 0 (fun z => absurd z (show ¬ (3 : Int32) = 0 by decide))
  · subst hi htt hgg
    have b1 := hB.nV
    have b2 := hB.nG
    have b3 := hB.nS
    have b4 := hB.nF
    have b5 := hB.nL
    have b6 := hB.acts
    have b7 := hB.jn
    have hj := (List.getElem?_eq_some_iff.mp hA).1
    have h := H
    unfold o_asked at h
    rw [if_neg (fun z => z.elim (fun z => z.elim (nI_pos (by omega)) (nI_ge hj (by omega))) (fun z => z.elim (fun z => z.elim (nI_pos (by omega)) (nI_ge ht (by omega))) (fun z => z.elim (nI_pos (by omega)) (nI_ge hg (by omega))))), nI_clamp (n := j) (by omega), nI_clamp (n := t) (by omega), nI_clamp (n := g) (by omega), hA] at h
    exact h _ (fun _ => rfl)
set_option maxHeartbeats 2000000 in
theorem q_force {i : Int32} (hd : 50 ≤ d) (hR : RS B m ρ S (rLk (cp 400 hw) (cp 600 M.2.2.2.2.2.2.2.1.1)) R V) (hI : RI V k M) (hIV : IV c M) (hB : BD M) (hc : c ≤ 511) (hk : k ≤ hw) (hhw : hw ≤ 12000) (hmc : 4 * (lv 600 (jnM (o_force M i).2.2) - lv 600 (jnM M)) ≤ mc) (hms : 80000 * (lv 600 (jnM (o_force M i).2.2) - lv 600 (jnM M)) ≤ ms)
    (H : okI B m hw k QR (o_force M i)) : tk_M Z mX12_force d mc ms [.ref m, .int i] S QR tk_noX := by
  refine rr_force (by omega) hR hI hB hIV.hda (fun h1 => ?_) (fun h1 => ?_)
  · have h := H
    unfold o_force at h
    rw [if_pos h1] at h
    first | exact h 0 (fun z => absurd z (show ¬ (1 : Int32) = 0 by decide)) | exact h 0 (fun z => absurd z (show ¬ (2 : Int32) = 0 by decide)) | exact h 0 (fun z => absurd z (show ¬ (3 : Int32) = 0 by decide))
  · have h := H
    unfold o_force at h
    rw [if_neg (fun z => z h1)] at h
    exact h _ (fun _ => rfl)
set_option maxHeartbeats 2000000 in
theorem q_wait {i : Int32} (hd : 50 ≤ d) (hR : RS B m ρ S (rLk (cp 400 hw) (cp 600 M.2.2.2.2.2.2.2.1.1)) R V) (hI : RI V k M) (hIV : IV c M) (hB : BD M) (hc : c ≤ 511) (hk : k ≤ hw) (hhw : hw ≤ 12000) (hmc : 4 * (lv 600 (jnM (o_wait M i).2.2) - lv 600 (jnM M)) ≤ mc) (hms : 80000 * (lv 600 (jnM (o_wait M i).2.2) - lv 600 (jnM M)) ≤ ms)
    (H : okI B m hw k QR (o_wait M i)) : tk_M Z mX12_wait d mc ms [.ref m, .int i] S QR tk_noX := by
  refine rr_wait2 (by omega) hR hI hB.td hIV.dry (fun n hi hn hnt j hj => ((hIV.days hB hc n hnt).2.2 j hj).2) (fun n hi hn hnt => ?_) (fun n hi hn hnt => ?_) (fun h1 => ?_) (fun n hi hn hnt => ?_)
  · subst hi
    have h := hmc
    unfold o_wait at h
    rw [if_neg (fun z => z.elim (fun z => z ⟨nI_pos' (by omega), (nI_leI (b := 1000) (by omega) (by omega)).mpr hn⟩) (fun z => z (by rw [nI_add]; exact (nI_leI (b := 9999) (by omega) (by omega)).mpr hnt))), nI_clamp (n := n) (by omega)] at h
    have h2 : 4 * (lv 600 (daysM n M).2.2.2.2.2.2.2.1.1 - lv 600 M.2.2.2.2.2.2.2.1.1) ≤ mc := h
    exact h2
  · subst hi
    have h := hms
    unfold o_wait at h
    rw [if_neg (fun z => z.elim (fun z => z ⟨nI_pos' (by omega), (nI_leI (b := 1000) (by omega) (by omega)).mpr hn⟩) (fun z => z (by rw [nI_add]; exact (nI_leI (b := 9999) (by omega) (by omega)).mpr hnt))), nI_clamp (n := n) (by omega)] at h
    have h2 : 80000 * (lv 600 (daysM n M).2.2.2.2.2.2.2.1.1 - lv 600 M.2.2.2.2.2.2.2.1.1) ≤ ms := h
    exact h2
  · have h := H
    unfold o_wait at h
    rw [if_pos h1] at h
    first | exact h 0 (fun z => absurd z (show ¬ (1 : Int32) = 0 by decide)) | exact h 0 (fun z => absurd z (show ¬ (2 : Int32) = 0 by decide)) | exact h 0 (fun z => absurd z (show ¬ (3 : Int32) = 0 by decide))
  · subst hi
    have h := H
    unfold o_wait at h
    rw [if_neg (fun z => z.elim (fun z => z ⟨nI_pos' (by omega), (nI_leI (b := 1000) (by omega) (by omega)).mpr hn⟩) (fun z => z (by rw [nI_add]; exact (nI_leI (b := 9999) (by omega) (by omega)).mpr hnt))), nI_clamp (n := n) (by omega)] at h
    exact h _ (fun _ => rfl)
set_option maxHeartbeats 2000000 in
theorem q_mend {i : Int32} (hd : 50 ≤ d) (hR : RS B m ρ S (rLk (cp 400 hw) (cp 600 M.2.2.2.2.2.2.2.1.1)) R V) (hI : RI V k M) (hIV : IV c M) (hB : BD M) (hc : c ≤ 511) (hk : k ≤ hw) (hhw : hw ≤ 12000) (hmc : 4 * (lv 600 (jnM (o_mend M i).2.2) - lv 600 (jnM M)) ≤ mc) (hms : 80000 * (lv 600 (jnM (o_mend M i).2.2) - lv 600 (jnM M)) ≤ ms)
    (H : okI B m hw k QR (o_mend M i)) : tk_M Z mX12_mend d mc ms [.ref m, .int i] S QR tk_noX := by
  refine rr_mend (by omega) hR hI hB.nS hIV.wop ((hIV.lines hB (by omega)).2 hc) (fun n hi hn => ?_) (fun n hi hn => ?_) (fun h1 => ?_) (fun n hi hn => ?_)
  · subst hi
    have h := hmc
    unfold o_mend at h
    rw [if_neg (fun z => z ⟨nI_pos' (by omega), (nI_leI (b := 20) (by omega) (by omega)).mpr hn⟩), nI_clamp (n := n) (by omega)] at h
    have h2 : 4 * (lv 600 (mendM n 0 M).2.2.2.2.2.2.2.2.1.1 - lv 600 M.2.2.2.2.2.2.2.1.1) ≤ mc := h
    exact h2
  · subst hi
    have h := hms
    unfold o_mend at h
    rw [if_neg (fun z => z ⟨nI_pos' (by omega), (nI_leI (b := 20) (by omega) (by omega)).mpr hn⟩), nI_clamp (n := n) (by omega)] at h
    have h2 : 80000 * (lv 600 (mendM n 0 M).2.2.2.2.2.2.2.2.1.1 - lv 600 M.2.2.2.2.2.2.2.1.1) ≤ ms := h
    exact h2
  · have h := H
    unfold o_mend at h
    rw [if_pos h1] at h
    first | exact h 0 (fun z => absurd z (show ¬ (1 : Int32) = 0 by decide)) | exact h 0 (fun z => absurd z (show ¬ (2 : Int32) = 0 by decide)) | exact h 0 (fun z => absurd z (show ¬ (3 : Int32) = 0 by decide))
  · subst hi
    have h := H
    unfold o_mend at h
    rw [if_neg (fun z => z ⟨nI_pos' (by omega), (nI_leI (b := 20) (by omega) (by omega)).mpr hn⟩), nI_clamp (n := n) (by omega)] at h
    exact h _ (fun _ => rfl)
set_option maxHeartbeats 2000000 in
theorem q_farmer {i : Int32} (hd : 50 ≤ d) (hR : RS B m ρ S (rLk (cp 400 hw) (cp 600 M.2.2.2.2.2.2.2.1.1)) R V) (hI : RI V k M) (hIV : IV c M) (hB : BD M) (hc : c ≤ 511) (hk : k ≤ hw) (hhw : hw ≤ 12000) (hmc : 4 * (lv 600 (jnM (o_farmer M i).2.2) - lv 600 (jnM M)) ≤ mc) (hms : 80000 * (lv 600 (jnM (o_farmer M i).2.2) - lv 600 (jnM M)) ≤ ms)
    (H : okI B m hw k QR (o_farmer M i)) : tk_M Z mX12_farmer d mc ms [.ref m, .int i] S QR tk_noX := by
  refine rr_farmer (by omega) hR hI hB (fun h1 => ?_) (fun h1 h2 => ?_) (fun h1 h2 => ?_)
  · have h := H
    unfold o_farmer at h
    rw [if_pos h1] at h
    first | exact h 0 (fun z => absurd z (show ¬ (1 : Int32) = 0 by decide)) | exact h 0 (fun z => absurd z (show ¬ (2 : Int32) = 0 by decide)) | exact h 0 (fun z => absurd z (show ¬ (3 : Int32) = 0 by decide))
  · have h := H
    unfold o_farmer at h
    rw [if_neg (fun z => z h1), if_pos h2] at h
    first | exact h 0 (fun z => absurd z (show ¬ (1 : Int32) = 0 by decide)) | exact h 0 (fun z => absurd z (show ¬ (2 : Int32) = 0 by decide)) | exact h 0 (fun z => absurd z (show ¬ (3 : Int32) = 0 by decide))
  · have h := H
    unfold o_farmer at h
    rw [if_neg (fun z => z h1), if_neg (Nat.not_le.mpr h2)] at h
    exact h _ (fun _ => rfl)
set_option maxHeartbeats 2000000 in
theorem q_bid {i f0 r0 s0 : Int32} (hd : 50 ≤ d) (hR : RS B m ρ S (rLk (cp 400 hw) (cp 600 M.2.2.2.2.2.2.2.1.1)) R V) (hI : RI V k M) (hIV : IV c M) (hB : BD M) (hc : c ≤ 511) (hk : k ≤ hw) (hhw : hw ≤ 12000) (hmc : 4 * (lv 600 (jnM (o_bid M i f0 r0 s0).2.2) - lv 600 (jnM M)) ≤ mc) (hms : 80000 * (lv 600 (jnM (o_bid M i f0 r0 s0).2.2) - lv 600 (jnM M)) ≤ ms)
    (H : okI B m hw k QR (o_bid M i f0 r0 s0)) : tk_M Z mX12_bid d mc ms [.ref m, .int i, .int f0, .int r0, .int s0] S QR tk_noX := by
  refine rr_bid (by omega) hR hI hB (fun h1 => ?_) (fun j f hj hi hf hfi h2 => ?_) (fun j f hj hi hf hfi h2 h3 => ?_) (fun j f hj hi hf hfi h2 h3 => ?_)
  · have h := H
    unfold o_bid at h
    rw [if_pos h1] at h
    first | exact h 0 (fun z => absurd z (show ¬ (1 : Int32) = 0 by decide)) | exact h 0 (fun z => absurd z (show ¬ (2 : Int32) = 0 by decide)) | exact h 0 (fun z => absurd z (show ¬ (3 : Int32) = 0 by decide))
  · subst hi hfi
    have b1 := hB.nV
    have b2 := hB.nG
    have b3 := hB.nS
    have b4 := hB.nF
    have b5 := hB.nL
    have b6 := hB.acts
    have b7 := hB.jn
    have h := H
    unfold o_bid at h
    rw [if_neg (fun z => z.elim (fun z => z.elim (nI_pos (by omega)) (nI_ge hj (by omega))) (fun z => z.elim (nI_pos (by omega)) (nI_ge hf (by omega)))), if_pos h2] at h
    first | exact h 0 (fun z => absurd z (show ¬ (1 : Int32) = 0 by decide)) | exact h 0 (fun z => absurd z (show ¬ (2 : Int32) = 0 by decide)) | exact h 0 (fun z => absurd z (show ¬ (3 : Int32) = 0 by decide))
  · subst hi hfi
    have b1 := hB.nV
    have b2 := hB.nG
    have b3 := hB.nS
    have b4 := hB.nF
    have b5 := hB.nL
    have b6 := hB.acts
    have b7 := hB.jn
    have h := H
    unfold o_bid at h
    rw [if_neg (fun z => z.elim (fun z => z.elim (nI_pos (by omega)) (nI_ge hj (by omega))) (fun z => z.elim (nI_pos (by omega)) (nI_ge hf (by omega)))), if_neg (fun z => z h2), nI_clamp (n := j) (by omega), if_pos h3] at h
    first | exact h 0 (fun z => absurd z (show ¬ (1 : Int32) = 0 by decide)) | exact h 0 (fun z => absurd z (show ¬ (2 : Int32) = 0 by decide)) | exact h 0 (fun z => absurd z (show ¬ (3 : Int32) = 0 by decide))
  · subst hi hfi
    have b1 := hB.nV
    have b2 := hB.nG
    have b3 := hB.nS
    have b4 := hB.nF
    have b5 := hB.nL
    have b6 := hB.acts
    have b7 := hB.jn
    have h := H
    unfold o_bid at h
    rw [if_neg (fun z => z.elim (fun z => z.elim (nI_pos (by omega)) (nI_ge hj (by omega))) (fun z => z.elim (nI_pos (by omega)) (nI_ge hf (by omega)))), if_neg (fun z => z h2), nI_clamp (n := j) (by omega), nI_clamp (n := f) (by omega), if_neg h3] at h
    exact h _ (fun _ => rfl)
set_option maxHeartbeats 2000000 in
theorem q_let {i q0 : Int32} (hd : 50 ≤ d) (hR : RS B m ρ S (rLk (cp 400 hw) (cp 600 M.2.2.2.2.2.2.2.1.1)) R V) (hI : RI V k M) (hIV : IV c M) (hB : BD M) (hc : c ≤ 511) (hk : k ≤ hw) (hhw : hw ≤ 12000) (hmc : 4 * (lv 600 (jnM (o_let M i q0).2.2) - lv 600 (jnM M)) ≤ mc) (hms : 80000 * (lv 600 (jnM (o_let M i q0).2.2) - lv 600 (jnM M)) ≤ ms)
    (H : okI B m hw k QR (o_let M i q0)) : tk_M Z mX12_let d mc ms [.ref m, .int i, .int q0] S QR tk_noX := by
  refine rr_let2 (by omega) hR hI hB (by have := (hIV.lines hB (by omega)).1; omega) (fun j n b hj hi hn1 hn2 hq h3 h4 => ?_) (fun j n b hj hi hn1 hn2 hq h3 h4 => ?_) (fun h1 => ?_) (fun j hj hi h2 => ?_) (fun j hj hi h2 h3 => ?_) (fun j hj hi h2 h3 h4 => ?_) (fun j n b hj hi hn1 hn2 hq h3 h4 => ?_)
  · subst hi hq
    have b1 := hB.nV
    have b2 := hB.nG
    have b3 := hB.nS
    have b4 := hB.nF
    have b5 := hB.nL
    have b6 := hB.acts
    have b7 := hB.jn
    have h := hmc
    unfold o_let at h
    rw [if_neg (fun z => z.elim (nI_pos (by omega)) (nI_ge hj (by omega))), if_neg (fun z => z ⟨(nI_leI (a := 1) (by omega) (by omega)).mpr hn1, (nI_leI (b := 40) (by omega) (by omega)).mpr hn2⟩), nI_clamp (n := j) (by omega), if_neg (fun z => z h3), h4, nI_clamp (n := n) (by omega)] at h
    have hk2 : (letM M j b n).2.2.2.2.2.2.2.1.1 = M.2.2.2.2.2.2.2.1.1 + 1 := by
      unfold letM
      dsimp only
      unfold keepM
      dsimp only
      rw [if_neg (show ¬ va_up M.2.2.2.1.2.2.2.2.2.2.2.1 j n j = 0 by rw [va_up_self]; omega)]
      split <;> rfl
    have h2 : 4 * (lv 600 (letM M j b n).2.2.2.2.2.2.2.1.1 - lv 600 M.2.2.2.2.2.2.2.1.1) ≤ mc := h
    rw [hk2] at h2
    exact h2
  · subst hi hq
    have b1 := hB.nV
    have b2 := hB.nG
    have b3 := hB.nS
    have b4 := hB.nF
    have b5 := hB.nL
    have b6 := hB.acts
    have b7 := hB.jn
    have h := hms
    unfold o_let at h
    rw [if_neg (fun z => z.elim (nI_pos (by omega)) (nI_ge hj (by omega))), if_neg (fun z => z ⟨(nI_leI (a := 1) (by omega) (by omega)).mpr hn1, (nI_leI (b := 40) (by omega) (by omega)).mpr hn2⟩), nI_clamp (n := j) (by omega), if_neg (fun z => z h3), h4, nI_clamp (n := n) (by omega)] at h
    have hk2 : (letM M j b n).2.2.2.2.2.2.2.1.1 = M.2.2.2.2.2.2.2.1.1 + 1 := by
      unfold letM
      dsimp only
      unfold keepM
      dsimp only
      rw [if_neg (show ¬ va_up M.2.2.2.1.2.2.2.2.2.2.2.1 j n j = 0 by rw [va_up_self]; omega)]
      split <;> rfl
    have h2 : 80000 * (lv 600 (letM M j b n).2.2.2.2.2.2.2.1.1 - lv 600 M.2.2.2.2.2.2.2.1.1) ≤ ms := h
    rw [hk2] at h2
    exact h2
  · have h := H
    unfold o_let at h
    rw [if_pos h1] at h
    first | exact h 0 (fun z => absurd z (show ¬ (1 : Int32) = 0 by decide)) | exact h 0 (fun z => absurd z (show ¬ (2 : Int32) = 0 by decide)) | exact h 0 (fun z => absurd z (show ¬ (3 : Int32) = 0 by decide))
  · subst hi
    have b1 := hB.nV
    have b2 := hB.nG
    have b3 := hB.nS
    have b4 := hB.nF
    have b5 := hB.nL
    have b6 := hB.acts
    have b7 := hB.jn
    have h := H
    unfold o_let at h
    rw [if_neg (fun z => z.elim (nI_pos (by omega)) (nI_ge hj (by omega))), if_pos h2] at h
    first | exact h 0 (fun z => absurd z (show ¬ (1 : Int32) = 0 by decide)) | exact h 0 (fun z => absurd z (show ¬ (2 : Int32) = 0 by decide)) | exact h 0 (fun z => absurd z (show ¬ (3 : Int32) = 0 by decide))
  · subst hi
    have b1 := hB.nV
    have b2 := hB.nG
    have b3 := hB.nS
    have b4 := hB.nF
    have b5 := hB.nL
    have b6 := hB.acts
    have b7 := hB.jn
    have h := H
    unfold o_let at h
    rw [if_neg (fun z => z.elim (nI_pos (by omega)) (nI_ge hj (by omega))), if_neg (fun z => z h2), nI_clamp (n := j) (by omega), if_pos h3] at h
    first | exact h 0 (fun z => absurd z (show ¬ (1 : Int32) = 0 by decide)) | exact h 0 (fun z => absurd z (show ¬ (2 : Int32) = 0 by decide)) | exact h 0 (fun z => absurd z (show ¬ (3 : Int32) = 0 by decide))
  · subst hi
    have b1 := hB.nV
    have b2 := hB.nG
    have b3 := hB.nS
    have b4 := hB.nF
    have b5 := hB.nL
    have b6 := hB.acts
    have b7 := hB.jn
    have h := H
    unfold o_let at h
    rw [if_neg (fun z => z.elim (nI_pos (by omega)) (nI_ge hj (by omega))), if_neg (fun z => z h2), nI_clamp (n := j) (by omega), if_neg (fun z => z h3), h4] at h
    exact h _ (fun _ => rfl)
  · subst hi hq
    have b1 := hB.nV
    have b2 := hB.nG
    have b3 := hB.nS
    have b4 := hB.nF
    have b5 := hB.nL
    have b6 := hB.acts
    have b7 := hB.jn
    have h := H
    unfold o_let at h
    rw [if_neg (fun z => z.elim (nI_pos (by omega)) (nI_ge hj (by omega))), if_neg (fun z => z ⟨(nI_leI (a := 1) (by omega) (by omega)).mpr hn1, (nI_leI (b := 40) (by omega) (by omega)).mpr hn2⟩), nI_clamp (n := j) (by omega), if_neg (fun z => z h3), h4, nI_clamp (n := n) (by omega)] at h
    exact h _ (fun _ => rfl)
set_option maxHeartbeats 2000000 in
theorem q_gateTold {i w0 : Int32} (hd : 50 ≤ d) (hR : RS B m ρ S (rLk (cp 400 hw) (cp 600 M.2.2.2.2.2.2.2.1.1)) R V) (hI : RI V k M) (hIV : IV c M) (hB : BD M) (hc : c ≤ 511) (hk : k ≤ hw) (hhw : hw ≤ 12000) (hmc : 4 * (lv 600 (jnM (o_gateTold M i w0).2.2) - lv 600 (jnM M)) ≤ mc) (hms : 80000 * (lv 600 (jnM (o_gateTold M i w0).2.2) - lv 600 (jnM M)) ≤ ms)
    (H : okI B m hw k QR (o_gateTold M i w0)) : tk_M Z mX12_gateTold d mc ms [.ref m, .int i, .int w0] S QR tk_noX := by
  refine rr_gateTold (by omega) hR hI hB (fun h1 => ?_) (fun h1 h2 => ?_) (fun j hj hi h2 => ?_)
  · have h := H
    unfold o_gateTold at h
    rw [if_pos h1] at h
    first | exact h 0 (fun z => absurd z (show ¬ (1 : Int32) = 0 by decide)) | exact h 0 (fun z => absurd z (show ¬ (2 : Int32) = 0 by decide)) | exact h 0 (fun z => absurd z (show ¬ (3 : Int32) = 0 by decide))
  · have h := H
    unfold o_gateTold at h
    rw [if_neg h1, if_pos h2] at h
    first | exact h 0 (fun z => absurd z (show ¬ (1 : Int32) = 0 by decide)) | exact h 0 (fun z => absurd z (show ¬ (2 : Int32) = 0 by decide)) | exact h 0 (fun z => absurd z (show ¬ (3 : Int32) = 0 by decide))
  · subst hi
    have b1 := hB.nV
    have b2 := hB.nG
    have b3 := hB.nS
    have b4 := hB.nF
    have b5 := hB.nL
    have b6 := hB.acts
    have b7 := hB.jn
    have h := H
    unfold o_gateTold at h
    rw [if_neg (fun z => z.elim (nI_pos (by omega)) (nI_ge hj (by omega))), if_neg (fun z => z h2), nI_clamp (n := j) (by omega)] at h
    exact h _ (fun _ => rfl)
set_option maxHeartbeats 2000000 in
theorem q_borrow {i ra0 rk0 : Int32} (hd : 50 ≤ d) (hR : RS B m ρ S (rLk (cp 400 hw) (cp 600 M.2.2.2.2.2.2.2.1.1)) R V) (hI : RI V k M) (hIV : IV c M) (hB : BD M) (hc : c ≤ 511) (hk : k ≤ hw) (hhw : hw ≤ 12000) (hmc : 4 * (lv 600 (jnM (o_borrow M i ra0 rk0).2.2) - lv 600 (jnM M)) ≤ mc) (hms : 80000 * (lv 600 (jnM (o_borrow M i ra0 rk0).2.2) - lv 600 (jnM M)) ≤ ms)
    (H : okI B m hw k QR (o_borrow M i ra0 rk0)) : tk_M Z mX12_borrow d mc ms [.ref m, .int i, .int ra0, .int rk0] S QR tk_noX := by
  refine rr_borrow2 (by omega) hR hI hB (by have := (hIV.lines hB (by omega)).1; omega) (fun h1 h2 => ?_) (fun h1 h2 => ?_) (fun h1 => ?_) (fun h1 h2 => ?_) (fun h1 h2 => ?_)
  · have h := hmc
    unfold o_borrow at h
    rw [if_neg (fun z => z h1), if_neg (Nat.not_le.mpr h2)] at h
    have h3 : 4 * (lv 600 (M.2.2.2.2.2.2.2.1.1 + 1) - lv 600 M.2.2.2.2.2.2.2.1.1) ≤ mc := h
    exact h3
  · have h := hms
    unfold o_borrow at h
    rw [if_neg (fun z => z h1), if_neg (Nat.not_le.mpr h2)] at h
    have h3 : 80000 * (lv 600 (M.2.2.2.2.2.2.2.1.1 + 1) - lv 600 M.2.2.2.2.2.2.2.1.1) ≤ ms := h
    exact h3
  · have h := H
    unfold o_borrow at h
    rw [if_pos h1] at h
    first | exact h 0 (fun z => absurd z (show ¬ (1 : Int32) = 0 by decide)) | exact h 0 (fun z => absurd z (show ¬ (2 : Int32) = 0 by decide)) | exact h 0 (fun z => absurd z (show ¬ (3 : Int32) = 0 by decide))
  · have h := H
    unfold o_borrow at h
    rw [if_neg (fun z => z h1), if_pos h2] at h
    first | exact h 0 (fun z => absurd z (show ¬ (1 : Int32) = 0 by decide)) | exact h 0 (fun z => absurd z (show ¬ (2 : Int32) = 0 by decide)) | exact h 0 (fun z => absurd z (show ¬ (3 : Int32) = 0 by decide))
  · have h := H
    unfold o_borrow at h
    rw [if_neg (fun z => z h1), if_neg (Nat.not_le.mpr h2)] at h
    exact h _ (fun _ => rfl)
set_option maxHeartbeats 2000000 in
theorem q_repay {i s0 : Int32} (hd : 50 ≤ d) (hR : RS B m ρ S (rLk (cp 400 hw) (cp 600 M.2.2.2.2.2.2.2.1.1)) R V) (hI : RI V k M) (hIV : IV c M) (hB : BD M) (hc : c ≤ 511) (hk : k ≤ hw) (hhw : hw ≤ 12000) (hmc : 4 * (lv 600 (jnM (o_repay M i s0).2.2) - lv 600 (jnM M)) ≤ mc) (hms : 80000 * (lv 600 (jnM (o_repay M i s0).2.2) - lv 600 (jnM M)) ≤ ms)
    (H : okI B m hw k QR (o_repay M i s0)) : tk_M Z mX12_repay d mc ms [.ref m, .int i, .int s0] S QR tk_noX := by
  refine rr_repay2 (by omega) hR hI hB (by have := (hIV.lines hB (by omega)).1; omega) (fun j hj hi h2 h3 => ?_) (fun j hj hi h2 h3 => ?_) (fun h1 => ?_) (fun h1 h2 => ?_) (fun j hj hi h2 h3 => ?_) (fun j hj hi h2 h3 => ?_)
  · subst hi
    have b1 := hB.nV
    have b2 := hB.nG
    have b3 := hB.nS
    have b4 := hB.nF
    have b5 := hB.nL
    have b6 := hB.acts
    have b7 := hB.jn
    have h := hmc
    unfold o_repay at h
    rw [if_neg (fun z => z.elim (nI_pos (by omega)) (nI_ge hj (by omega))), if_neg h2, nI_clamp (n := j) (by omega), if_neg h3] at h
    have h4 : 4 * (lv 600 (M.2.2.2.2.2.2.2.1.1 + 1) - lv 600 M.2.2.2.2.2.2.2.1.1) ≤ mc := h
    exact h4
  · subst hi
    have b1 := hB.nV
    have b2 := hB.nG
    have b3 := hB.nS
    have b4 := hB.nF
    have b5 := hB.nL
    have b6 := hB.acts
    have b7 := hB.jn
    have h := hms
    unfold o_repay at h
    rw [if_neg (fun z => z.elim (nI_pos (by omega)) (nI_ge hj (by omega))), if_neg h2, nI_clamp (n := j) (by omega), if_neg h3] at h
    have h4 : 80000 * (lv 600 (M.2.2.2.2.2.2.2.1.1 + 1) - lv 600 M.2.2.2.2.2.2.2.1.1) ≤ ms := h
    exact h4
  · have h := H
    unfold o_repay at h
    rw [if_pos h1] at h
    first | exact h 0 (fun z => absurd z (show ¬ (1 : Int32) = 0 by decide)) | exact h 0 (fun z => absurd z (show ¬ (2 : Int32) = 0 by decide)) | exact h 0 (fun z => absurd z (show ¬ (3 : Int32) = 0 by decide))
  · have h := H
    unfold o_repay at h
    rw [if_neg h1, if_pos h2] at h
    first | exact h 0 (fun z => absurd z (show ¬ (1 : Int32) = 0 by decide)) | exact h 0 (fun z => absurd z (show ¬ (2 : Int32) = 0 by decide)) | exact h 0 (fun z => absurd z (show ¬ (3 : Int32) = 0 by decide))
  · subst hi
    have b1 := hB.nV
    have b2 := hB.nG
    have b3 := hB.nS
    have b4 := hB.nF
    have b5 := hB.nL
    have b6 := hB.acts
    have b7 := hB.jn
    have h := H
    unfold o_repay at h
    rw [if_neg (fun z => z.elim (nI_pos (by omega)) (nI_ge hj (by omega))), if_neg h2, nI_clamp (n := j) (by omega), if_pos h3] at h
    exact h _ (fun _ => rfl)
  · subst hi
    have b1 := hB.nV
    have b2 := hB.nG
    have b3 := hB.nS
    have b4 := hB.nF
    have b5 := hB.nL
    have b6 := hB.acts
    have b7 := hB.jn
    have h := H
    unfold o_repay at h
    rw [if_neg (fun z => z.elim (nI_pos (by omega)) (nI_ge hj (by omega))), if_neg h2, nI_clamp (n := j) (by omega), if_neg h3] at h
    exact h _ (fun _ => rfl)
set_option maxHeartbeats 2000000 in
theorem q_loan {i w0 : Int32} (hd : 50 ≤ d) (hR : RS B m ρ S (rLk (cp 400 hw) (cp 600 M.2.2.2.2.2.2.2.1.1)) R V) (hI : RI V k M) (hIV : IV c M) (hB : BD M) (hc : c ≤ 511) (hk : k ≤ hw) (hhw : hw ≤ 12000) (hmc : 4 * (lv 600 (jnM (o_loan M i w0).2.2) - lv 600 (jnM M)) ≤ mc) (hms : 80000 * (lv 600 (jnM (o_loan M i w0).2.2) - lv 600 (jnM M)) ≤ ms)
    (H : okJ B m hw k QR (o_loan M i w0)) : tk_M Z mX12_loan d mc ms [.ref m, .int i, .int w0] S QR tk_noX := by
  refine rr_loan (by omega) hR hI hB (fun h1 => ?_) (fun h1 h2 => ?_) (fun j hj hi h2 => ?_)
  · have h := H
    unfold o_loan at h
    rw [if_pos h1] at h
    first | exact h 0 (fun z => absurd z (show ¬ (1 : Int32) = 0 by decide)) | exact h 0 (fun z => absurd z (show ¬ (2 : Int32) = 0 by decide)) | exact h 0 (fun z => absurd z (show ¬ (3 : Int32) = 0 by decide))
  · have h := H
    unfold o_loan at h
    rw [if_neg h1, if_pos h2] at h
    first | exact h 0 (fun z => absurd z (show ¬ (1 : Int32) = 0 by decide)) | exact h 0 (fun z => absurd z (show ¬ (2 : Int32) = 0 by decide)) | exact h 0 (fun z => absurd z (show ¬ (3 : Int32) = 0 by decide))
  · subst hi
    have b1 := hB.nV
    have b2 := hB.nG
    have b3 := hB.nS
    have b4 := hB.nF
    have b5 := hB.nL
    have b6 := hB.acts
    have b7 := hB.jn
    have h := H
    unfold o_loan at h
    rw [if_neg (fun z => z.elim (nI_pos (by omega)) (nI_ge hj (by omega))), if_neg (fun z => z h2), nI_clamp (n := j) (by omega)] at h
    exact h _ (fun _ => rfl)
set_option maxHeartbeats 2000000 in
theorem q_money {i : Int32} (hd : 50 ≤ d) (hR : RS B m ρ S (rLk (cp 400 hw) (cp 600 M.2.2.2.2.2.2.2.1.1)) R V) (hI : RI V k M) (hIV : IV c M) (hB : BD M) (hc : c ≤ 511) (hk : k ≤ hw) (hhw : hw ≤ 12000) (hmc : 4 * (lv 600 (jnM (o_money M i).2.2) - lv 600 (jnM M)) ≤ mc) (hms : 80000 * (lv 600 (jnM (o_money M i).2.2) - lv 600 (jnM M)) ≤ ms)
    (H : okJ B m hw k QR (o_money M i)) : tk_M Z mX12_money d mc ms [.ref m, .int i] S QR tk_noX := by
  refine rr_money (by omega) hR hI hB (fun h1 => ?_) (fun j hj hi => ?_)
  · have h := H
    unfold o_money at h
    rw [if_pos h1] at h
    first | exact h 0 (fun z => absurd z (show ¬ (1 : Int32) = 0 by decide)) | exact h 0 (fun z => absurd z (show ¬ (2 : Int32) = 0 by decide)) | exact h 0 (fun z => absurd z (show ¬ (3 : Int32) = 0 by decide))
  · subst hi
    have b1 := hB.nV
    have b2 := hB.nG
    have b3 := hB.nS
    have b4 := hB.nF
    have b5 := hB.nL
    have b6 := hB.acts
    have b7 := hB.jn
    have h := H
    unfold o_money at h
    rw [if_neg (fun z => z.elim (nI_pos (by omega)) (nI_ge hj (by omega))), nI_clamp (n := j) (by omega)] at h
    exact h _ (fun _ => rfl)
set_option maxHeartbeats 2000000 in
theorem q_wear {i : Int32} (hd : 50 ≤ d) (hR : RS B m ρ S (rLk (cp 400 hw) (cp 600 M.2.2.2.2.2.2.2.1.1)) R V) (hI : RI V k M) (hIV : IV c M) (hB : BD M) (hc : c ≤ 511) (hk : k ≤ hw) (hhw : hw ≤ 12000) (hmc : 4 * (lv 600 (jnM (o_wear M i).2.2) - lv 600 (jnM M)) ≤ mc) (hms : 80000 * (lv 600 (jnM (o_wear M i).2.2) - lv 600 (jnM M)) ≤ ms)
    (H : okJ B m hw k QR (o_wear M i)) : tk_M Z mX12_wear d mc ms [.ref m, .int i] S QR tk_noX := by
  refine rr_wear (by omega) hR hI hB (fun h1 => ?_) (fun j hj hi => ?_)
  · have h := H
    unfold o_wear at h
    rw [if_pos h1] at h
    first | exact h 0 (fun z => absurd z (show ¬ (1 : Int32) = 0 by decide)) | exact h 0 (fun z => absurd z (show ¬ (2 : Int32) = 0 by decide)) | exact h 0 (fun z => absurd z (show ¬ (3 : Int32) = 0 by decide))
  · subst hi
    have b1 := hB.nV
    have b2 := hB.nG
    have b3 := hB.nS
    have b4 := hB.nF
    have b5 := hB.nL
    have b6 := hB.acts
    have b7 := hB.jn
    have h := H
    unfold o_wear at h
    rw [if_neg (fun z => z.elim (nI_pos (by omega)) (nI_ge hj (by omega))), nI_clamp (n := j) (by omega)] at h
    exact h _ (fun _ => rfl)
set_option maxHeartbeats 2000000 in
theorem q_box {i : Int32} (hd : 50 ≤ d) (hR : RS B m ρ S (rLk (cp 400 hw) (cp 600 M.2.2.2.2.2.2.2.1.1)) R V) (hI : RI V k M) (hIV : IV c M) (hB : BD M) (hc : c ≤ 511) (hk : k ≤ hw) (hhw : hw ≤ 12000) (hmc : 4 * (lv 600 (jnM (o_box M i).2.2) - lv 600 (jnM M)) ≤ mc) (hms : 80000 * (lv 600 (jnM (o_box M i).2.2) - lv 600 (jnM M)) ≤ ms)
    (H : okJ B m hw k QR (o_box M i)) : tk_M Z mX12_box d mc ms [.ref m, .int i] S QR tk_noX := by
  refine rr_box (by omega) hR hI hB (fun h1 => ?_) (fun h1 => ?_)
  · have h := H
    unfold o_box at h
    rw [if_pos h1] at h
    first | exact h 0 (fun z => absurd z (show ¬ (1 : Int32) = 0 by decide)) | exact h 0 (fun z => absurd z (show ¬ (2 : Int32) = 0 by decide)) | exact h 0 (fun z => absurd z (show ¬ (3 : Int32) = 0 by decide))
  · have h := H
    unfold o_box at h
    rw [if_neg (fun z => z h1)] at h
    exact h _ (fun _ => rfl)
set_option maxHeartbeats 2000000 in
theorem q_journal {i w0 : Int32} (hd : 50 ≤ d) (hR : RS B m ρ S (rLk (cp 400 hw) (cp 600 M.2.2.2.2.2.2.2.1.1)) R V) (hI : RI V k M) (hIV : IV c M) (hB : BD M) (hc : c ≤ 511) (hk : k ≤ hw) (hhw : hw ≤ 12000) (hmc : 4 * (lv 600 (jnM (o_journal M i w0).2.2) - lv 600 (jnM M)) ≤ mc) (hms : 80000 * (lv 600 (jnM (o_journal M i w0).2.2) - lv 600 (jnM M)) ≤ ms)
    (H : okJ B m hw k QR (o_journal M i w0)) : tk_M Z mX12_journal d mc ms [.ref m, .int i, .int w0] S QR tk_noX := by
  refine rr_journal (by omega) hR hI hB (fun h1 => ?_) (fun h1 h2 => ?_) (fun j hj hi h2 => ?_)
  · have h := H
    unfold o_journal at h
    rw [if_pos h1] at h
    first | exact h 0 (fun z => absurd z (show ¬ (1 : Int32) = 0 by decide)) | exact h 0 (fun z => absurd z (show ¬ (2 : Int32) = 0 by decide)) | exact h 0 (fun z => absurd z (show ¬ (3 : Int32) = 0 by decide))
  · have h := H
    unfold o_journal at h
    rw [if_neg h1, if_pos h2] at h
    first | exact h 0 (fun z => absurd z (show ¬ (1 : Int32) = 0 by decide)) | exact h 0 (fun z => absurd z (show ¬ (2 : Int32) = 0 by decide)) | exact h 0 (fun z => absurd z (show ¬ (3 : Int32) = 0 by decide))
  · subst hi
    have b1 := hB.nV
    have b2 := hB.nG
    have b3 := hB.nS
    have b4 := hB.nF
    have b5 := hB.nL
    have b6 := hB.acts
    have b7 := hB.jn
    have h := H
    unfold o_journal at h
    rw [if_neg (fun z => z.elim (nI_pos (by omega)) (nI_ge hj (by omega))), if_neg (fun z => z h2), nI_clamp (n := j) (by omega)] at h
    exact h _ (fun _ => rfl)
set_option maxHeartbeats 2000000 in
theorem q_rain {v : Int64} {i : Int32} (hd : 50 ≤ d) (hR : RS B m ρ S (rLk (cp 400 hw) (cp 600 M.2.2.2.2.2.2.2.1.1)) R V) (hI : RI V k M) (hIV : IV c M) (hB : BD M) (hc : c ≤ 511) (hk : k ≤ hw) (hhw : hw ≤ 12000) (hmc : 4 * (lv 600 (jnM (o_rain M v i).2.2) - lv 600 (jnM M)) ≤ mc) (hms : 80000 * (lv 600 (jnM (o_rain M v i).2.2) - lv 600 (jnM M)) ≤ ms)
    (H : okR B m hw k QR none (o_rain M v i).1 (o_rain M v i).2.2) : tk_M Z mX12_rain d mc ms [.ref m, .int i] S QR tk_noX := by
  refine rr_rain (by omega) hR hI (fun h1 => ?_) (fun j hj hi => ?_)
  · have h := H
    unfold o_rain at h
    rw [if_pos h1] at h
    exact h
  · subst hi
    have h := H
    unfold o_rain at h
    rw [if_neg (fun z => z ⟨nI_pos' (by omega), (nI_leI (b := 1000) (by omega) (by omega)).mpr hj⟩), nI_clamp (n := j) (by omega)] at h
    exact h
end RQ

/-- what stands in the class's group rows behind regroup -/
def GI (σ : Sg) (P J : Int) : Prop := ∀ p, 0 ≤ p → p < P → σ 29 p = cobS σ P J p ∧ σ 30 p = whoS σ P J p ∧ σ 31 p = trnS σ P J p ∧ σ 32 p = sumZ (fun q => b2i (cobS σ P J q = p)) P
def CW (σ : Sg) (P J : Int) : Prop := CB σ P J ∧ (∀ j, 0 ≤ j → j < J → 0 ≤ σ 24 j ∧ σ 24 j ≤ 7) ∧ ∀ j, 0 ≤ j → j < J → σ 25 j ≤ 999 ∧ σ 26 j ≤ 999
theorem onB_fr {σ σ' : Sg} (h : σ' 26 = σ 26) (h2 : σ' 27 = σ 27) : onB σ' = onB σ := by unfold onB; rw [h, h2]
theorem cobS_fr {σ σ' : Sg} {P J : Int} (h1 : σ' 26 = σ 26) (h2 : σ' 22 = σ 22) (h3 : σ' 23 = σ 23) : cobS σ' P J = cobS σ P J := by unfold cobS; rw [onS_fr h1, h2, h3]
theorem whoS_fr {σ σ' : Sg} {P J : Int} (h0 : σ' 27 = σ 27) (h1 : σ' 26 = σ 26) (h2 : σ' 22 = σ 22) (h3 : σ' 23 = σ 23) : whoS σ' P J = whoS σ P J := by unfold whoS; rw [onB_fr h1 h0, h2, h3]
theorem trnS_fr {σ σ' : Sg} {P J : Int} (h1 : σ' 26 = σ 26) (h2 : σ' 22 = σ 22) (h3 : σ' 23 = σ 23) (h4 : σ' 24 = σ 24) : trnS σ' P J = trnS σ P J := by unfold trnS; rw [onS_fr h1, h2, h3, h4]
set_option maxRecDepth 20000 in
set_option maxHeartbeats 2000000 in
theorem sp_X0_forget (d : Nat) (hd : 1 ≤ d) (xs : List (Nat × Nat)) (t dd rr : Nat) (σ : Sg)  : Ev d 129 [(73, 0)] (Wd xs t dd rr σ) (8, 0) (Wd xs t dd rr (up2 σ 57 4 (-1))) := by
  obtain ⟨d, rfl⟩ : ∃ e, d = e + 1 := ⟨d - 1, by omega⟩
  refine evP (nL := 1) (code := k_X0_forget) rfl pb0 rfl (fun E hE => ?_)
  show pCm (Ev d) k_X0_forget E 0 [(73, 0)] [] _
  refine R_aload rfl rfl rfl ?_
  refine R_push rfl ?_
  refine T_puti rfl rfl rfl ?_
  refine R_vret rfl ?_
  exact hE _ rfl
set_option maxRecDepth 20000 in
set_option maxHeartbeats 2000000 in
theorem sp_X2_forget (d : Nat) (hd : 1 ≤ d) (xs : List (Nat × Nat)) (t dd rr : Nat) (σ : Sg)  : Ev d 164 [(80, 0)] (Wd xs t dd rr σ) (8, 0) (Wd xs t dd rr (up2 σ 64 10 (-1))) := by
  obtain ⟨d, rfl⟩ : ∃ e, d = e + 1 := ⟨d - 1, by omega⟩
  refine evP (nL := 1) (code := k_X2_forget) rfl pb0 rfl (fun E hE => ?_)
  show pCm (Ev d) k_X2_forget E 0 [(80, 0)] [] _
  refine R_aload rfl rfl rfl ?_
  refine R_push rfl ?_
  refine T_puti rfl rfl rfl ?_
  refine R_vret rfl ?_
  exact hE _ rfl
set_option maxRecDepth 20000 in
set_option maxHeartbeats 2000000 in
theorem sp_X9_regroup (d : Nat) (hd : 6 ≤ d) (xs : List (Nat × Nat)) (t dd rr : Nat) (σ : Sg) (P J : Int) (hC : CW σ P J) : ∃ σ', Ev d 25 [(16, 0)] (Wd xs t dd rr σ) (8, 0) (Wd xs t dd rr σ') ∧ Fr [29, 30, 31, 32, 34] [(57, 4), (64, 10)] σ σ' ∧ GI σ' P J ∧ σ' 57 4 = -1 ∧ σ' 64 10 = -1 := by
  obtain ⟨d, rfl⟩ : ∃ e, d = e + 1 := ⟨d - 1, by omega⟩
  refine evS (nL := 1) (code := k_X9_regroup) rfl dc_X9_regroup rfl (fun E hE => ?_)
  show pCm (Ev d) k_X9_regroup E 0 [(16, 0)] [] _
  refine R_aload rfl rfl rfl ?_
  refine T_getr (v := 44) rfl rfl rfl rfl ?_
  obtain ⟨s1, hev, hF, hv⟩ := sp_X3_regroup d (by omega) xs t dd rr σ P J hC.1 hC.2.1 hC.2.2
  refine R_invv rfl rfl rfl rfl rfl rfl (hev) rfl ?_
  show pCm _ _ _ 7 _ [] _
  refine R_aload rfl rfl rfl ?_
  refine T_getr (v := 73) rfl rfl rfl rfl ?_
  refine R_invv rfl rfl rfl rfl rfl rfl (sp_X0_forget d (by omega) xs t dd rr _) rfl ?_
  show pCm _ _ _ 14 _ [] _
  refine R_aload rfl rfl rfl ?_
  refine T_getr (v := 80) rfl rfl rfl rfl ?_
  refine R_invv rfl rfl rfl rfl rfl rfl (sp_X2_forget d (by omega) xs t dd rr _) rfl ?_
  show pCm _ _ _ 21 _ [] _
  refine R_vret rfl ?_
  generalize hs2 : up2 (up2 s1 57 4 (-1)) 64 10 (-1) = s2
  have hF2 : Fr [29, 30, 31, 32, 34] [(57, 4), (64, 10)] σ s2 := by rw [← hs2]; exact ((hF.tr (r2 := []) (s2 := []) Fr.rf rfl rfl).up rfl).up rfl
  have hr : ∀ k, k ≠ 57 → k ≠ 64 → ∀ i, s2 k i = s1 k i := fun k h1 h2 i => by rw [← hs2]; simp [up2, h1, h2]
  refine hE _ _ rfl ⟨hF2, fun p h0 h1 => ?_, by rw [← hs2]; simp [up2], by rw [← hs2]; simp [up2]⟩
  rw [cobS_fr (hF2.fn 26 rfl) (hF2.fn 22 rfl) (hF2.fn 23 rfl), whoS_fr (hF2.fn 27 rfl) (hF2.fn 26 rfl) (hF2.fn 22 rfl) (hF2.fn 23 rfl), trnS_fr (hF2.fn 26 rfl) (hF2.fn 22 rfl) (hF2.fn 23 rfl) (hF2.fn 24 rfl), hr 29 (by decide) (by decide), hr 30 (by decide) (by decide), hr 31 (by decide) (by decide), hr 32 (by decide) (by decide)]
  exact hv p h0 h1
set_option maxRecDepth 20000 in
set_option maxHeartbeats 2000000 in
theorem sp_X9_piece (d : Nat) (hd : 7 ≤ d) (xs : List (Nat × Nat)) (t dd rr : Nat) (σ : Sg) (a z x y l P J : Int) (hC : CW σ P J) : ∃ σ', Ev d 2 [(16, 0), (0, a), (0, z), (0, x), (0, y), (0, l)] (Wd xs t dd rr σ) (0, if ((-1 ≤ a ∧ a ≤ 7) ∧ (1 ≤ z ∧ z ≤ 200) ∧ (0 ≤ x ∧ x ≤ 999) ∧ (0 ≤ y ∧ y ≤ 999) ∧ (0 ≤ l ∧ l ≤ 4)) ∧ P < 40 then P else -1) (Wd xs t dd rr σ') ∧ (¬ (((-1 ≤ a ∧ a ≤ 7) ∧ (1 ≤ z ∧ z ≤ 200) ∧ (0 ≤ x ∧ x ≤ 999) ∧ (0 ≤ y ∧ y ≤ 999) ∧ (0 ≤ l ∧ l ≤ 4)) ∧ P < 40) → σ' = σ) ∧ (((-1 ≤ a ∧ a ≤ 7) ∧ (1 ≤ z ∧ z ≤ 200) ∧ (0 ≤ x ∧ x ≤ 999) ∧ (0 ≤ y ∧ y ≤ 999) ∧ (0 ≤ l ∧ l ≤ 4)) ∧ P < 40 → Fr [29, 30, 31, 32, 34] [(57, 4), (64, 10)] (up2 (up2 (up2 (up2 (up2 (up2 (σ) 2 (P) (a)) 3 (P) (z)) 4 (P) (x)) 5 (P) (y)) 6 (P) (l)) 1 (0) (P + 1)) σ' ∧ GI σ' (P + 1) J ∧ σ' 57 4 = -1 ∧ σ' 64 10 = -1) := by
  obtain ⟨d, rfl⟩ : ∃ e, d = e + 1 := ⟨d - 1, by omega⟩
  have hP := hC.1.1
  have hP0 := hC.1.2.2.1
  refine evS (nL := 8) (code := k_X9_piece) rfl dc_X9_piece rfl (fun E hE => ?_)
  show pCm (Ev d) k_X9_piece E 0 [(16, 0), (0, a), (0, z), (0, x), (0, y), (0, l), (9, 0), (9, 0)] [] _
  have J38 : ∀ v : Int, v = b2i ((0 ≤ x ∧ x ≤ 999) ∧ (0 ≤ y ∧ y ≤ 999) ∧ (0 ≤ l ∧ l ≤ 4)) → pCm (Ev d) k_X9_piece E 38 [(16, 0), (0, a), (0, z), (0, x), (0, y), (0, l), (9, 0), (9, 0)] [(0, v)] (Wd xs t dd rr σ) := by
    intro v hv
    have hv : v = 1 ∧ ((0 ≤ x ∧ x ≤ 999) ∧ (0 ≤ y ∧ y ≤ 999) ∧ (0 ≤ l ∧ l ≤ 4)) ∨ v = 0 ∧ ¬ ((0 ≤ x ∧ x ≤ 999) ∧ (0 ≤ y ∧ y ≤ 999) ∧ (0 ≤ l ∧ l ≤ 4)) := by
      rw [hv]; unfold b2i; split <;> omega
    refine R_istore rfl rfl ?_
    refine R_iload rfl rfl ?_
    refine R_if rfl (fun h42 => ?_) (fun h42 => ?_)
    · try simp only [ne_eq, b2i_e, b2i_1, Classical.not_not] at h42
      refine R_push rfl ?_
      refine R_iret rfl ?_
      exact hE _ _ (by rw [if_neg (by omega)]) ⟨fun _ => rfl, fun z => absurd z (by omega)⟩
    · try simp only [ne_eq, b2i_e, b2i_1, Classical.not_not] at h42
      refine R_iload rfl rfl ?_
      refine R_push rfl ?_
      refine R_push rfl ?_
      refine R_inv rfl rfl rfl rfl rfl (sp_X9_within d (by omega) _ _ _ _) rfl ?_
      show pCm _ _ _ 52 _ [(0, _)] _
      refine R_if rfl (fun h52 => ?_) (fun h52 => ?_)
      · try simp only [ne_eq, b2i_e, b2i_1, Classical.not_not] at h52
        refine R_push rfl ?_
        refine R_iret rfl ?_
        exact hE _ _ (by rw [if_neg (by omega)]) ⟨fun _ => rfl, fun z => absurd z (by omega)⟩
      · try simp only [ne_eq, b2i_e, b2i_1, Classical.not_not] at h52
        refine R_iload rfl rfl ?_
        refine R_push rfl ?_
        refine R_push rfl ?_
        refine R_inv rfl rfl rfl rfl rfl (sp_X9_within d (by omega) _ _ _ _) rfl ?_
        show pCm _ _ _ 63 _ [(0, _)] _
        refine R_if rfl (fun h63 => ?_) (fun h63 => ?_)
        · try simp only [ne_eq, b2i_e, b2i_1, Classical.not_not] at h63
          refine R_push rfl ?_
          refine R_iret rfl ?_
          exact hE _ _ (by rw [if_neg (by omega)]) ⟨fun _ => rfl, fun z => absurd z (by omega)⟩
        · try simp only [ne_eq, b2i_e, b2i_1, Classical.not_not] at h63
          refine R_aload rfl rfl rfl ?_
          refine T_getr (v := 17) rfl rfl rfl rfl ?_
          refine T_geti rfl rfl rfl ?_
          
          refine R_push rfl ?_
          refine R_ic rfl (fun h75 => ?_) (fun h75 => ?_)
          · try simp only [ne_eq, b2i_e, b2i_1, Classical.not_not] at h75
            refine R_aload rfl rfl rfl ?_
            refine T_getr (v := 17) rfl rfl rfl rfl ?_
            refine T_geti rfl rfl rfl ?_
            rw [hP]
            refine R_istore rfl rfl ?_
            refine R_aload rfl rfl rfl ?_
            refine T_getr (v := 17) rfl rfl rfl rfl ?_
            refine T_getr (v := 18) rfl rfl rfl rfl ?_
            refine R_iload rfl rfl ?_
            refine R_iload rfl rfl ?_
            refine T_iast rfl rfl (by omega) (by omega) ?_
            refine R_aload rfl rfl rfl ?_
            refine T_getr (v := 17) rfl rfl rfl rfl ?_
            refine T_getr (v := 19) rfl rfl rfl rfl ?_
            refine R_iload rfl rfl ?_
            refine R_iload rfl rfl ?_
            refine T_iast rfl rfl (by omega) (by omega) ?_
            refine R_aload rfl rfl rfl ?_
            refine T_getr (v := 17) rfl rfl rfl rfl ?_
            refine T_getr (v := 20) rfl rfl rfl rfl ?_
            refine R_iload rfl rfl ?_
            refine R_iload rfl rfl ?_
            refine T_iast rfl rfl (by omega) (by omega) ?_
            refine R_aload rfl rfl rfl ?_
            refine T_getr (v := 17) rfl rfl rfl rfl ?_
            refine T_getr (v := 21) rfl rfl rfl rfl ?_
            refine R_iload rfl rfl ?_
            refine R_iload rfl rfl ?_
            refine T_iast rfl rfl (by omega) (by omega) ?_
            refine R_aload rfl rfl rfl ?_
            refine T_getr (v := 17) rfl rfl rfl rfl ?_
            refine T_getr (v := 22) rfl rfl rfl rfl ?_
            refine R_iload rfl rfl ?_
            refine R_iload rfl rfl ?_
            refine T_iast rfl rfl (by omega) (by omega) ?_
            refine R_aload rfl rfl rfl ?_
            refine T_getr (v := 17) rfl rfl rfl rfl ?_
            refine R_dup rfl rfl ?_
            refine T_geti rfl rfl rfl ?_
            have eP : (up2 (up2 (up2 (up2 (up2 (σ) 2 (P) (a)) 3 (P) (z)) 4 (P) (x)) 5 (P) (y)) 6 (P) (l)) 1 0 = P := by simp [up2, hP]
            rw [eP]
            refine R_push rfl ?_
            refine R_add rfl (by omega) (by omega) ?_
            refine T_puti rfl rfl rfl ?_
            refine R_aload rfl rfl rfl ?_
            generalize hs1 : up2 (up2 (up2 (up2 (up2 (up2 (σ) 2 (P) (a)) 3 (P) (z)) 4 (P) (x)) 5 (P) (y)) 6 (P) (l)) 1 (0) (P + 1) = s1
            have hr : ∀ k, 20 < k → ∀ i, s1 k i = σ k i := fun k hk i => by
              rw [← hs1]
              have h1 : k ≠ 1 := by omega
              have h2 : k ≠ 2 := by omega
              have h3 : k ≠ 3 := by omega
              have h4 : k ≠ 4 := by omega
              have h5 : k ≠ 5 := by omega
              have h6 : k ≠ 6 := by omega
              simp [up2, h1, h2, h3, h4, h5, h6]
            have hC2 : CW s1 (P + 1) J := by
              refine ⟨⟨by rw [← hs1]; simp [up2], by rw [hr 21 (by decide)]; exact hC.1.2.1, by omega, hC.1.2.2.2.1, fun j h0 h1 => ?_⟩, fun j h0 h1 => ?_, fun j h0 h1 => ?_⟩
              · rw [hr 22 (by decide), hr 23 (by decide)]
                have := hC.1.2.2.2.2 j h0 h1
                omega
              · rw [hr 24 (by decide)]; exact hC.2.1 j h0 h1
              · rw [hr 25 (by decide), hr 26 (by decide)]; exact hC.2.2 j h0 h1
            obtain ⟨s2, hev, hp⟩ := sp_X9_regroup d (by omega) xs t dd rr s1 (P + 1) J hC2
            rw [← hs1] at hp
            refine R_invv rfl rfl rfl rfl rfl rfl (hev) rfl ?_
            show pCm _ _ _ 163 _ [] _
            refine R_iload rfl rfl ?_
            refine R_iret rfl ?_
            exact hE _ _ (by rw [if_pos (by omega)]) ⟨fun q => absurd (show ((-1 ≤ a ∧ a ≤ 7) ∧ (1 ≤ z ∧ z ≤ 200) ∧ (0 ≤ x ∧ x ≤ 999) ∧ (0 ≤ y ∧ y ≤ 999) ∧ (0 ≤ l ∧ l ≤ 4)) ∧ P < 40 by omega) q, fun _ => hp⟩
          · try simp only [ne_eq, b2i_e, b2i_1, Classical.not_not] at h75
            refine R_push rfl ?_
            refine R_iret rfl ?_
            exact hE _ _ (by rw [if_neg (by omega)]) ⟨fun _ => rfl, fun z => absurd z (by omega)⟩
  refine R_iload rfl rfl ?_
  refine R_push rfl ?_
  refine R_push rfl ?_
  refine R_inv rfl rfl rfl rfl rfl (sp_X9_within d (by omega) _ _ _ _) rfl ?_
  show pCm _ _ _ 8 _ [(0, _)] _
  refine R_if rfl (fun h8 => ?_) (fun h8 => ?_)
  · try simp only [ne_eq, b2i_e, b2i_1, Classical.not_not] at h8
    refine R_push rfl ?_
    exact J38 _ (by first | rw [b2i_t (by omega)] | rw [b2i_f (by omega)])
  · try simp only [ne_eq, b2i_e, b2i_1, Classical.not_not] at h8
    refine R_iload rfl rfl ?_
    refine R_push rfl ?_
    refine R_push rfl ?_
    refine R_inv rfl rfl rfl rfl rfl (sp_X9_within d (by omega) _ _ _ _) rfl ?_
    show pCm _ _ _ 20 _ [(0, _)] _
    refine R_if rfl (fun h20 => ?_) (fun h20 => ?_)
    · try simp only [ne_eq, b2i_e, b2i_1, Classical.not_not] at h20
      refine R_push rfl ?_
      exact J38 _ (by first | rw [b2i_t (by omega)] | rw [b2i_f (by omega)])
    · try simp only [ne_eq, b2i_e, b2i_1, Classical.not_not] at h20
      refine R_iload rfl rfl ?_
      refine R_push rfl ?_
      refine R_push rfl ?_
      refine R_inv rfl rfl rfl rfl rfl (sp_X9_within d (by omega) _ _ _ _) rfl ?_
      show pCm _ _ _ 30 _ [(0, _)] _
      refine R_if rfl (fun h30 => ?_) (fun h30 => ?_)
      · try simp only [ne_eq, b2i_e, b2i_1, Classical.not_not] at h30
        refine R_push rfl ?_
        exact J38 _ (by first | rw [b2i_t (by omega)] | rw [b2i_f (by omega)])
      · try simp only [ne_eq, b2i_e, b2i_1, Classical.not_not] at h30
        refine R_push rfl ?_
        refine R_goto rfl ?_
        exact J38 _ (by first | rw [b2i_t (by omega)] | rw [b2i_f (by omega)])
set_option maxRecDepth 20000 in
set_option maxHeartbeats 2000000 in
theorem sp_X10_piece (d : Nat) (hd : 2 ≤ d) (xs : List (Nat × Nat)) (t dd rr : Nat) (σ : Sg) (a z x y l : Int) (h : 0 ≤ σ 71 26 ∧ σ 71 26 ≤ 40) : ∃ σ', Ev d 66 [(87, 0), (0, a), (0, z), (0, x), (0, y), (0, l)] (Wd xs t dd rr σ) (0, if ((-1 ≤ a ∧ a ≤ 7) ∧ (1 ≤ z ∧ z ≤ 200) ∧ (0 ≤ x ∧ x ≤ 999) ∧ (0 ≤ y ∧ y ≤ 999) ∧ (0 ≤ l ∧ l ≤ 4)) ∧ σ 71 26 < 40 then σ 71 26 else -1) (Wd xs t dd rr σ') ∧ σ' = if ((-1 ≤ a ∧ a ≤ 7) ∧ (1 ≤ z ∧ z ≤ 200) ∧ (0 ≤ x ∧ x ≤ 999) ∧ (0 ≤ y ∧ y ≤ 999) ∧ (0 ≤ l ∧ l ≤ 4)) ∧ σ 71 26 < 40 then up2 (up2 (up2 (up2 (up2 (up2 (up2 (σ) 71 (0) (0)) 88 (σ 71 26) (a)) 89 (σ 71 26) (z)) 90 (σ 71 26) (x)) 91 (σ 71 26) (y)) 92 (σ 71 26) (l)) 71 (26) (σ 71 26 + 1) else up2 (σ) 71 (0) (0) := by
  obtain ⟨d, rfl⟩ : ∃ e, d = e + 1 := ⟨d - 1, by omega⟩
  refine evS (nL := 6) (code := k_X10_piece) rfl dc_X10_piece rfl (fun E hE => ?_)
  show pCm (Ev d) k_X10_piece E 0 [(87, 0), (0, a), (0, z), (0, x), (0, y), (0, l)] [] _
  refine R_aload rfl rfl rfl ?_
  refine R_push rfl ?_
  refine T_puti rfl rfl rfl ?_
  have e0 : (up2 (σ) 71 (0) (0)) 71 (26) = σ 71 (26) := by simp [up2]
  refine R_iload rfl rfl ?_
  refine R_push rfl ?_
  refine R_push rfl ?_
  refine R_inv rfl rfl rfl rfl rfl (sp_X10_within d (by omega) _ _ _ _) rfl ?_
  show pCm _ _ _ 12 _ [(0, _)] _
  refine R_if rfl (fun h12 => ?_) (fun h12 => ?_)
  · try simp only [ne_eq, b2i_e, b2i_1, Classical.not_not] at h12
    refine R_push rfl ?_
    refine R_iret rfl ?_
    first
    | exact hE _ _ (by rw [if_pos (by omega)]; congr 1; simp [up2]) (by rw [if_pos (by omega)])
    | exact hE _ _ (by rw [if_neg (by omega)]) (by rw [if_neg (by omega)])
  · try simp only [ne_eq, b2i_e, b2i_1, Classical.not_not] at h12
    refine R_iload rfl rfl ?_
    refine R_push rfl ?_
    refine R_push rfl ?_
    refine R_inv rfl rfl rfl rfl rfl (sp_X10_within d (by omega) _ _ _ _) rfl ?_
    show pCm _ _ _ 23 _ [(0, _)] _
    refine R_if rfl (fun h23 => ?_) (fun h23 => ?_)
    · try simp only [ne_eq, b2i_e, b2i_1, Classical.not_not] at h23
      refine R_push rfl ?_
      refine R_iret rfl ?_
      first
      | exact hE _ _ (by rw [if_pos (by omega)]; congr 1; simp [up2]) (by rw [if_pos (by omega)])
      | exact hE _ _ (by rw [if_neg (by omega)]) (by rw [if_neg (by omega)])
    · try simp only [ne_eq, b2i_e, b2i_1, Classical.not_not] at h23
      refine R_iload rfl rfl ?_
      refine R_push rfl ?_
      refine R_push rfl ?_
      refine R_inv rfl rfl rfl rfl rfl (sp_X10_within d (by omega) _ _ _ _) rfl ?_
      show pCm _ _ _ 34 _ [(0, _)] _
      refine R_if rfl (fun h34 => ?_) (fun h34 => ?_)
      · try simp only [ne_eq, b2i_e, b2i_1, Classical.not_not] at h34
        refine R_push rfl ?_
        refine R_iret rfl ?_
        first
        | exact hE _ _ (by rw [if_pos (by omega)]; congr 1; simp [up2]) (by rw [if_pos (by omega)])
        | exact hE _ _ (by rw [if_neg (by omega)]) (by rw [if_neg (by omega)])
      · try simp only [ne_eq, b2i_e, b2i_1, Classical.not_not] at h34
        refine R_iload rfl rfl ?_
        refine R_push rfl ?_
        refine R_push rfl ?_
        refine R_inv rfl rfl rfl rfl rfl (sp_X10_within d (by omega) _ _ _ _) rfl ?_
        show pCm _ _ _ 46 _ [(0, _)] _
        refine R_if rfl (fun h46 => ?_) (fun h46 => ?_)
        · try simp only [ne_eq, b2i_e, b2i_1, Classical.not_not] at h46
          refine R_push rfl ?_
          refine R_iret rfl ?_
          first
          | exact hE _ _ (by rw [if_pos (by omega)]; congr 1; simp [up2]) (by rw [if_pos (by omega)])
          | exact hE _ _ (by rw [if_neg (by omega)]) (by rw [if_neg (by omega)])
        · try simp only [ne_eq, b2i_e, b2i_1, Classical.not_not] at h46
          refine R_iload rfl rfl ?_
          refine R_push rfl ?_
          refine R_push rfl ?_
          refine R_inv rfl rfl rfl rfl rfl (sp_X10_within d (by omega) _ _ _ _) rfl ?_
          show pCm _ _ _ 56 _ [(0, _)] _
          refine R_if rfl (fun h56 => ?_) (fun h56 => ?_)
          · try simp only [ne_eq, b2i_e, b2i_1, Classical.not_not] at h56
            refine R_push rfl ?_
            refine R_iret rfl ?_
            first
            | exact hE _ _ (by rw [if_pos (by omega)]; congr 1; simp [up2]) (by rw [if_pos (by omega)])
            | exact hE _ _ (by rw [if_neg (by omega)]) (by rw [if_neg (by omega)])
          · try simp only [ne_eq, b2i_e, b2i_1, Classical.not_not] at h56
            refine R_aload rfl rfl rfl ?_
            refine T_geti rfl rfl rfl ?_
            rw [e0]
            refine R_push rfl ?_
            refine R_ic rfl (fun h65 => ?_) (fun h65 => ?_)
            · try simp only [ne_eq, b2i_e, b2i_1, Classical.not_not] at h65
              refine R_aload rfl rfl rfl ?_
              refine T_getr (v := 104) rfl rfl rfl rfl ?_
              refine R_aload rfl rfl rfl ?_
              refine T_geti rfl rfl rfl ?_
              rw [e0]
              refine R_iload rfl rfl ?_
              refine T_iast rfl rfl (by omega) (by omega) ?_
              have e1 : (up2 (up2 (σ) 71 (0) (0)) 88 (σ 71 26) (a)) 71 (26) = σ 71 (26) := by simp [up2]
              refine R_aload rfl rfl rfl ?_
              refine T_getr (v := 105) rfl rfl rfl rfl ?_
              refine R_aload rfl rfl rfl ?_
              refine T_geti rfl rfl rfl ?_
              rw [e1]
              refine R_iload rfl rfl ?_
              refine T_iast rfl rfl (by omega) (by omega) ?_
              have e2 : (up2 (up2 (up2 (σ) 71 (0) (0)) 88 (σ 71 26) (a)) 89 (σ 71 26) (z)) 71 (26) = σ 71 (26) := by simp [up2]
              refine R_aload rfl rfl rfl ?_
              refine T_getr (v := 106) rfl rfl rfl rfl ?_
              refine R_aload rfl rfl rfl ?_
              refine T_geti rfl rfl rfl ?_
              rw [e2]
              refine R_iload rfl rfl ?_
              refine T_iast rfl rfl (by omega) (by omega) ?_
              have e3 : (up2 (up2 (up2 (up2 (σ) 71 (0) (0)) 88 (σ 71 26) (a)) 89 (σ 71 26) (z)) 90 (σ 71 26) (x)) 71 (26) = σ 71 (26) := by simp [up2]
              refine R_aload rfl rfl rfl ?_
              refine T_getr (v := 107) rfl rfl rfl rfl ?_
              refine R_aload rfl rfl rfl ?_
              refine T_geti rfl rfl rfl ?_
              rw [e3]
              refine R_iload rfl rfl ?_
              refine T_iast rfl rfl (by omega) (by omega) ?_
              have e4 : (up2 (up2 (up2 (up2 (up2 (σ) 71 (0) (0)) 88 (σ 71 26) (a)) 89 (σ 71 26) (z)) 90 (σ 71 26) (x)) 91 (σ 71 26) (y)) 71 (26) = σ 71 (26) := by simp [up2]
              refine R_aload rfl rfl rfl ?_
              refine T_getr (v := 108) rfl rfl rfl rfl ?_
              refine R_aload rfl rfl rfl ?_
              refine T_geti rfl rfl rfl ?_
              rw [e4]
              refine R_iload rfl rfl ?_
              refine T_iast rfl rfl (by omega) (by omega) ?_
              have e5 : (up2 (up2 (up2 (up2 (up2 (up2 (σ) 71 (0) (0)) 88 (σ 71 26) (a)) 89 (σ 71 26) (z)) 90 (σ 71 26) (x)) 91 (σ 71 26) (y)) 92 (σ 71 26) (l)) 71 (26) = σ 71 (26) := by simp [up2]
              refine R_aload rfl rfl rfl ?_
              refine R_dup rfl rfl ?_
              refine T_geti rfl rfl rfl ?_
              rw [e5]
              refine R_push rfl ?_
              refine R_add rfl (by omega) (by omega) ?_
              refine T_puti rfl rfl rfl ?_
              refine R_aload rfl rfl rfl ?_
              refine T_geti rfl rfl rfl ?_
              refine R_push rfl ?_
              refine R_sub rfl (by simp [up2]; omega) (by simp [up2]; omega) ?_
              refine R_iret rfl ?_
              first
              | exact hE _ _ (by rw [if_pos (by omega)]; congr 1; simp [up2]) (by rw [if_pos (by omega)])
              | exact hE _ _ (by rw [if_neg (by omega)]) (by rw [if_neg (by omega)])
            · try simp only [ne_eq, b2i_e, b2i_1, Classical.not_not] at h65
              refine R_push rfl ?_
              refine R_iret rfl ?_
              first
              | exact hE _ _ (by rw [if_pos (by omega)]; congr 1; simp [up2]) (by rw [if_pos (by omega)])
              | exact hE _ _ (by rw [if_neg (by omega)]) (by rw [if_neg (by omega)])
set_option maxRecDepth 20000 in
set_option maxHeartbeats 2000000 in
theorem sp_X9_marks (d : Nat) (hd : 2 ≤ d) (xs : List (Nat × Nat)) (t dd rr : Nat) (σ : Sg) (p c g s b f P : Int) (hP : σ 1 0 = P) (h0 : P ≤ 40) (hb : b = 0 ∨ b = 1) : ∃ σ', Ev d 3 [(16, 0), (0, p), (0, c), (0, g), (0, s), (0, b), (0, f)] (Wd xs t dd rr σ) (0, if ((0 ≤ c ∧ c ≤ 99) ∧ (0 ≤ g ∧ g ≤ 99) ∧ (0 ≤ s ∧ s ≤ 9) ∧ (0 ≤ f ∧ f ≤ 9)) ∧ (0 ≤ p ∧ p < P) then 1 else 0) (Wd xs t dd rr σ') ∧ σ' = if ((0 ≤ c ∧ c ≤ 99) ∧ (0 ≤ g ∧ g ≤ 99) ∧ (0 ≤ s ∧ s ≤ 9) ∧ (0 ≤ f ∧ f ≤ 9)) ∧ (0 ≤ p ∧ p < P) then up2 (up2 (up2 (up2 (up2 (σ) 7 (p) (c)) 8 (p) (g)) 9 (p) (s)) 10 (p) (b)) 11 (p) (f) else σ := by
  obtain ⟨d, rfl⟩ : ∃ e, d = e + 1 := ⟨d - 1, by omega⟩
  refine evS (nL := 8) (code := k_X9_marks) rfl dc_X9_marks rfl (fun E hE => ?_)
  show pCm (Ev d) k_X9_marks E 0 [(16, 0), (0, p), (0, c), (0, g), (0, s), (0, b), (0, f), (9, 0)] [] _
  have J47 : ∀ v : Int, v = b2i ((0 ≤ c ∧ c ≤ 99) ∧ (0 ≤ g ∧ g ≤ 99) ∧ (0 ≤ s ∧ s ≤ 9) ∧ (0 ≤ f ∧ f ≤ 9)) → pCm (Ev d) k_X9_marks E 47 [(16, 0), (0, p), (0, c), (0, g), (0, s), (0, b), (0, f), (9, 0)] [(0, v)] (Wd xs t dd rr σ) := by
    intro v hv
    have hv : v = 1 ∧ ((0 ≤ c ∧ c ≤ 99) ∧ (0 ≤ g ∧ g ≤ 99) ∧ (0 ≤ s ∧ s ≤ 9) ∧ (0 ≤ f ∧ f ≤ 9)) ∨ v = 0 ∧ ¬ ((0 ≤ c ∧ c ≤ 99) ∧ (0 ≤ g ∧ g ≤ 99) ∧ (0 ≤ s ∧ s ≤ 9) ∧ (0 ≤ f ∧ f ≤ 9)) := by
      rw [hv]; unfold b2i; split <;> omega
    refine R_istore rfl rfl ?_
    refine R_iload rfl rfl ?_
    refine R_if rfl (fun h51 => ?_) (fun h51 => ?_)
    · try simp only [ne_eq, b2i_e, b2i_1, Classical.not_not] at h51
      refine R_push rfl ?_
      refine R_zret rfl (by first | exact Or.inl rfl | exact Or.inr rfl | omega | grind) ?_
      first
      | exact hE _ _ (by rw [if_pos (by omega)]; try rfl; try (congr 1; simp [up2])) (by rw [if_pos (by omega)])
      | exact hE _ _ (by rw [if_neg (by omega)]) (by rw [if_neg (by omega)])
    · try simp only [ne_eq, b2i_e, b2i_1, Classical.not_not] at h51
      refine R_aload rfl rfl rfl ?_
      refine T_getr (v := 17) rfl rfl rfl rfl ?_
      refine R_iload rfl rfl ?_
      refine R_invv rfl rfl rfl rfl rfl rfl (sp_X6_has d (by omega) xs t dd rr σ p P hP) rfl ?_
      show pCm _ _ _ 62 _ [(0, _)] _
      refine R_if rfl (fun h62 => ?_) (fun h62 => ?_)
      · try simp only [ne_eq, b2i_e, b2i_1, Classical.not_not] at h62
        refine R_aload rfl rfl rfl ?_
        refine T_getr (v := 17) rfl rfl rfl rfl ?_
        refine T_getr (v := 23) rfl rfl rfl rfl ?_
        refine R_iload rfl rfl ?_
        refine R_iload rfl rfl ?_
        refine T_iast rfl rfl (by omega) (by omega) ?_
        refine R_aload rfl rfl rfl ?_
        refine T_getr (v := 17) rfl rfl rfl rfl ?_
        refine T_getr (v := 24) rfl rfl rfl rfl ?_
        refine R_iload rfl rfl ?_
        refine R_iload rfl rfl ?_
        refine T_iast rfl rfl (by omega) (by omega) ?_
        refine R_aload rfl rfl rfl ?_
        refine T_getr (v := 17) rfl rfl rfl rfl ?_
        refine T_getr (v := 25) rfl rfl rfl rfl ?_
        refine R_iload rfl rfl ?_
        refine R_iload rfl rfl ?_
        refine T_iast rfl rfl (by omega) (by omega) ?_
        refine R_aload rfl rfl rfl ?_
        refine T_getr (v := 17) rfl rfl rfl rfl ?_
        refine T_getr (v := 26) rfl rfl rfl rfl ?_
        refine R_iload rfl rfl ?_
        
        have J116 : ∀ u : Int, u = b → pCm (Ev d) k_X9_marks E 116 [(16, 0), (0, p), (0, c), (0, g), (0, s), (0, b), (0, f), (0, v)] [(0, u), (0, p), (26, 0)] (Wd xs t dd rr (up2 (up2 (up2 (σ) 7 (p) (c)) 8 (p) (g)) 9 (p) (s))) := by
          intro u hvb
          rw [hvb]
          refine T_iast rfl rfl (by omega) (by omega) ?_
          refine R_aload rfl rfl rfl ?_
          refine T_getr (v := 17) rfl rfl rfl rfl ?_
          refine T_getr (v := 27) rfl rfl rfl rfl ?_
          refine R_iload rfl rfl ?_
          refine R_iload rfl rfl ?_
          refine T_iast rfl rfl (by omega) (by omega) ?_
          refine R_push rfl ?_
          refine R_zret rfl (by first | exact Or.inl rfl | exact Or.inr rfl | omega | grind) ?_
          first
          | exact hE _ _ (by rw [if_pos (by omega)]; try rfl; try (congr 1; simp [up2])) (by rw [if_pos (by omega)])
          | exact hE _ _ (by rw [if_neg (by omega)]) (by rw [if_neg (by omega)])
        refine R_iload rfl rfl ?_
        refine R_if rfl (fun h108 => ?_) (fun h108 => ?_)
        · try simp only [ne_eq, b2i_e, b2i_1, Classical.not_not] at h108
          refine R_push rfl ?_
          exact J116 _ (by omega)
        · try simp only [ne_eq, b2i_e, b2i_1, Classical.not_not] at h108
          refine R_push rfl ?_
          refine R_goto rfl ?_
          exact J116 _ (by omega)
      · try simp only [ne_eq, b2i_e, b2i_1, Classical.not_not] at h62
        refine R_push rfl ?_
        refine R_zret rfl (by first | exact Or.inl rfl | exact Or.inr rfl | omega | grind) ?_
        first
        | exact hE _ _ (by rw [if_pos (by omega)]; try rfl; try (congr 1; simp [up2])) (by rw [if_pos (by omega)])
        | exact hE _ _ (by rw [if_neg (by omega)]) (by rw [if_neg (by omega)])
  refine R_iload rfl rfl ?_
  refine R_push rfl ?_
  refine R_push rfl ?_
  refine R_inv rfl rfl rfl rfl rfl (sp_X9_within d (by omega) _ _ _ _) rfl ?_
  show pCm _ _ _ 7 _ [(0, _)] _
  refine R_if rfl (fun h7 => ?_) (fun h7 => ?_)
  · try simp only [ne_eq, b2i_e, b2i_1, Classical.not_not] at h7
    refine R_push rfl ?_
    exact J47 _ (by first | rw [b2i_t (by omega)] | rw [b2i_f (by omega)])
  · try simp only [ne_eq, b2i_e, b2i_1, Classical.not_not] at h7
    refine R_iload rfl rfl ?_
    refine R_push rfl ?_
    refine R_push rfl ?_
    refine R_inv rfl rfl rfl rfl rfl (sp_X9_within d (by omega) _ _ _ _) rfl ?_
    show pCm _ _ _ 17 _ [(0, _)] _
    refine R_if rfl (fun h17 => ?_) (fun h17 => ?_)
    · try simp only [ne_eq, b2i_e, b2i_1, Classical.not_not] at h17
      refine R_push rfl ?_
      exact J47 _ (by first | rw [b2i_t (by omega)] | rw [b2i_f (by omega)])
    · try simp only [ne_eq, b2i_e, b2i_1, Classical.not_not] at h17
      refine R_iload rfl rfl ?_
      refine R_push rfl ?_
      refine R_push rfl ?_
      refine R_inv rfl rfl rfl rfl rfl (sp_X9_within d (by omega) _ _ _ _) rfl ?_
      show pCm _ _ _ 28 _ [(0, _)] _
      refine R_if rfl (fun h28 => ?_) (fun h28 => ?_)
      · try simp only [ne_eq, b2i_e, b2i_1, Classical.not_not] at h28
        refine R_push rfl ?_
        exact J47 _ (by first | rw [b2i_t (by omega)] | rw [b2i_f (by omega)])
      · try simp only [ne_eq, b2i_e, b2i_1, Classical.not_not] at h28
        refine R_iload rfl rfl ?_
        refine R_push rfl ?_
        refine R_push rfl ?_
        refine R_inv rfl rfl rfl rfl rfl (sp_X9_within d (by omega) _ _ _ _) rfl ?_
        show pCm _ _ _ 39 _ [(0, _)] _
        refine R_if rfl (fun h39 => ?_) (fun h39 => ?_)
        · try simp only [ne_eq, b2i_e, b2i_1, Classical.not_not] at h39
          refine R_push rfl ?_
          exact J47 _ (by first | rw [b2i_t (by omega)] | rw [b2i_f (by omega)])
        · try simp only [ne_eq, b2i_e, b2i_1, Classical.not_not] at h39
          refine R_push rfl ?_
          refine R_goto rfl ?_
          exact J47 _ (by first | rw [b2i_t (by omega)] | rw [b2i_f (by omega)])
set_option maxRecDepth 20000 in
set_option maxHeartbeats 2000000 in
theorem sp_X10_marks (d : Nat) (hd : 2 ≤ d) (xs : List (Nat × Nat)) (t dd rr : Nat) (σ : Sg) (p c g s b f P : Int) (hP : σ 71 26 = P) (h0 : P ≤ 40) (hb : b = 0 ∨ b = 1) : ∃ σ', Ev d 68 [(87, 0), (0, p), (0, c), (0, g), (0, s), (0, b), (0, f)] (Wd xs t dd rr σ) (0, if ((0 ≤ c ∧ c ≤ 99) ∧ (0 ≤ g ∧ g ≤ 99) ∧ (0 ≤ s ∧ s ≤ 9) ∧ (0 ≤ f ∧ f ≤ 9)) ∧ (0 ≤ p ∧ p < P) then 1 else 0) (Wd xs t dd rr σ') ∧ σ' = if ((0 ≤ c ∧ c ≤ 99) ∧ (0 ≤ g ∧ g ≤ 99) ∧ (0 ≤ s ∧ s ≤ 9) ∧ (0 ≤ f ∧ f ≤ 9)) ∧ (0 ≤ p ∧ p < P) then up2 (up2 (up2 (up2 (up2 (up2 (σ) 71 (0) (0)) 93 (p) (c)) 94 (p) (g)) 95 (p) (s)) 96 (p) (b)) 97 (p) (f) else up2 (σ) 71 (0) (0) := by
  obtain ⟨d, rfl⟩ : ∃ e, d = e + 1 := ⟨d - 1, by omega⟩
  refine evS (nL := 7) (code := k_X10_marks) rfl dc_X10_marks rfl (fun E hE => ?_)
  show pCm (Ev d) k_X10_marks E 0 [(87, 0), (0, p), (0, c), (0, g), (0, s), (0, b), (0, f)] [] _
  refine R_aload rfl rfl rfl ?_
  refine R_push rfl ?_
  refine T_puti rfl rfl rfl ?_
  have e0 : (up2 (σ) 71 (0) (0)) 71 (26) = σ 71 (26) := by simp [up2]
  refine R_aload rfl rfl rfl ?_
  refine R_iload rfl rfl ?_
  refine R_invv rfl rfl rfl rfl rfl rfl (sp_X10_isPiece d (by omega) xs t dd rr _ p P (by rw [e0, hP])) rfl ?_
  show pCm _ _ _ 10 _ [(0, _)] _
  refine R_if rfl (fun h10 => ?_) (fun h10 => ?_)
  · try simp only [ne_eq, b2i_e, b2i_1, Classical.not_not] at h10
    refine R_push rfl ?_
    refine R_zret rfl (by first | exact Or.inl rfl | exact Or.inr rfl | omega | grind) ?_
    first
    | exact hE _ _ (by rw [if_pos (by omega)]; try rfl; try (congr 1; simp [up2])) (by rw [if_pos (by omega)])
    | exact hE _ _ (by rw [if_neg (by omega)]) (by rw [if_neg (by omega)])
  · try simp only [ne_eq, b2i_e, b2i_1, Classical.not_not] at h10
    refine R_iload rfl rfl ?_
    refine R_push rfl ?_
    refine R_push rfl ?_
    refine R_inv rfl rfl rfl rfl rfl (sp_X10_within d (by omega) _ _ _ _) rfl ?_
    show pCm _ _ _ 20 _ [(0, _)] _
    refine R_if rfl (fun h20 => ?_) (fun h20 => ?_)
    · try simp only [ne_eq, b2i_e, b2i_1, Classical.not_not] at h20
      refine R_push rfl ?_
      refine R_zret rfl (by first | exact Or.inl rfl | exact Or.inr rfl | omega | grind) ?_
      first
      | exact hE _ _ (by rw [if_pos (by omega)]; try rfl; try (congr 1; simp [up2])) (by rw [if_pos (by omega)])
      | exact hE _ _ (by rw [if_neg (by omega)]) (by rw [if_neg (by omega)])
    · try simp only [ne_eq, b2i_e, b2i_1, Classical.not_not] at h20
      refine R_iload rfl rfl ?_
      refine R_push rfl ?_
      refine R_push rfl ?_
      refine R_inv rfl rfl rfl rfl rfl (sp_X10_within d (by omega) _ _ _ _) rfl ?_
      show pCm _ _ _ 30 _ [(0, _)] _
      refine R_if rfl (fun h30 => ?_) (fun h30 => ?_)
      · try simp only [ne_eq, b2i_e, b2i_1, Classical.not_not] at h30
        refine R_push rfl ?_
        refine R_zret rfl (by first | exact Or.inl rfl | exact Or.inr rfl | omega | grind) ?_
        first
        | exact hE _ _ (by rw [if_pos (by omega)]; try rfl; try (congr 1; simp [up2])) (by rw [if_pos (by omega)])
        | exact hE _ _ (by rw [if_neg (by omega)]) (by rw [if_neg (by omega)])
      · try simp only [ne_eq, b2i_e, b2i_1, Classical.not_not] at h30
        refine R_iload rfl rfl ?_
        refine R_push rfl ?_
        refine R_push rfl ?_
        refine R_inv rfl rfl rfl rfl rfl (sp_X10_within d (by omega) _ _ _ _) rfl ?_
        show pCm _ _ _ 41 _ [(0, _)] _
        refine R_if rfl (fun h41 => ?_) (fun h41 => ?_)
        · try simp only [ne_eq, b2i_e, b2i_1, Classical.not_not] at h41
          refine R_push rfl ?_
          refine R_zret rfl (by first | exact Or.inl rfl | exact Or.inr rfl | omega | grind) ?_
          first
          | exact hE _ _ (by rw [if_pos (by omega)]; try rfl; try (congr 1; simp [up2])) (by rw [if_pos (by omega)])
          | exact hE _ _ (by rw [if_neg (by omega)]) (by rw [if_neg (by omega)])
        · try simp only [ne_eq, b2i_e, b2i_1, Classical.not_not] at h41
          refine R_iload rfl rfl ?_
          refine R_push rfl ?_
          refine R_push rfl ?_
          refine R_inv rfl rfl rfl rfl rfl (sp_X10_within d (by omega) _ _ _ _) rfl ?_
          show pCm _ _ _ 52 _ [(0, _)] _
          refine R_if rfl (fun h52 => ?_) (fun h52 => ?_)
          · try simp only [ne_eq, b2i_e, b2i_1, Classical.not_not] at h52
            refine R_aload rfl rfl rfl ?_
            refine T_getr (v := 109) rfl rfl rfl rfl ?_
            refine R_iload rfl rfl ?_
            refine R_iload rfl rfl ?_
            refine T_iast rfl rfl (by omega) (by omega) ?_
            refine R_aload rfl rfl rfl ?_
            refine T_getr (v := 110) rfl rfl rfl rfl ?_
            refine R_iload rfl rfl ?_
            refine R_iload rfl rfl ?_
            refine T_iast rfl rfl (by omega) (by omega) ?_
            refine R_aload rfl rfl rfl ?_
            refine T_getr (v := 111) rfl rfl rfl rfl ?_
            refine R_iload rfl rfl ?_
            refine R_iload rfl rfl ?_
            refine T_iast rfl rfl (by omega) (by omega) ?_
            refine R_aload rfl rfl rfl ?_
            refine T_getr (v := 112) rfl rfl rfl rfl ?_
            refine R_iload rfl rfl ?_
            refine R_iload rfl rfl ?_
            refine T_zast rfl rfl (by omega) (by omega) (by omega) ?_
            refine R_aload rfl rfl rfl ?_
            refine T_getr (v := 113) rfl rfl rfl rfl ?_
            refine R_iload rfl rfl ?_
            refine R_iload rfl rfl ?_
            refine T_iast rfl rfl (by omega) (by omega) ?_
            refine R_push rfl ?_
            refine R_zret rfl (by first | exact Or.inl rfl | exact Or.inr rfl | omega | grind) ?_
            first
            | exact hE _ _ (by rw [if_pos (by omega)]; try rfl; try (congr 1; simp [up2])) (by rw [if_pos (by omega)])
            | exact hE _ _ (by rw [if_neg (by omega)]) (by rw [if_neg (by omega)])
          · try simp only [ne_eq, b2i_e, b2i_1, Classical.not_not] at h52
            refine R_push rfl ?_
            refine R_zret rfl (by first | exact Or.inl rfl | exact Or.inr rfl | omega | grind) ?_
            first
            | exact hE _ _ (by rw [if_pos (by omega)]; try rfl; try (congr 1; simp [up2])) (by rw [if_pos (by omega)])
            | exact hE _ _ (by rw [if_neg (by omega)]) (by rw [if_neg (by omega)])
set_option maxRecDepth 20000 in
set_option maxHeartbeats 2000000 in
theorem sp_X4_add (d : Nat) (hd : 1 ≤ d) (xs : List (Nat × Nat)) (t dd rr : Nat) (σ : Sg) (a b t0 n J : Int) (hJ : σ 21 0 = J) (h0 : 0 ≤ J ∧ J < 80) : ∃ σ', Ev d 195 [(37, 0), (0, a), (0, b), (0, t0), (0, n)] (Wd xs t dd rr σ) (0, J) (Wd xs t dd rr σ') ∧ σ' = up2 (up2 (up2 (up2 (up2 (up2 (σ) 22 (J) (a)) 23 (J) (b)) 24 (J) (t0)) 25 (J) (n)) 26 (J) (-1)) 21 (0) (J + 1) := by
  obtain ⟨d, rfl⟩ : ∃ e, d = e + 1 := ⟨d - 1, by omega⟩
  refine evS (nL := 6) (code := k_X4_add) rfl dc_X4_add rfl (fun E hE => ?_)
  show pCm (Ev d) k_X4_add E 0 [(37, 0), (0, a), (0, b), (0, t0), (0, n), (9, 0)] [] _
  refine R_aload rfl rfl rfl ?_
  refine T_geti rfl rfl rfl ?_
  rw [hJ]
  refine R_istore rfl rfl ?_
  refine R_aload rfl rfl rfl ?_
  refine T_getr (v := 38) rfl rfl rfl rfl ?_
  refine R_iload rfl rfl ?_
  refine R_iload rfl rfl ?_
  refine T_iast rfl rfl (by omega) (by omega) ?_
  refine R_aload rfl rfl rfl ?_
  refine T_getr (v := 39) rfl rfl rfl rfl ?_
  refine R_iload rfl rfl ?_
  refine R_iload rfl rfl ?_
  refine T_iast rfl rfl (by omega) (by omega) ?_
  refine R_aload rfl rfl rfl ?_
  refine T_getr (v := 40) rfl rfl rfl rfl ?_
  refine R_iload rfl rfl ?_
  refine R_iload rfl rfl ?_
  refine T_iast rfl rfl (by omega) (by omega) ?_
  refine R_aload rfl rfl rfl ?_
  refine T_getr (v := 41) rfl rfl rfl rfl ?_
  refine R_iload rfl rfl ?_
  refine R_iload rfl rfl ?_
  refine T_iast rfl rfl (by omega) (by omega) ?_
  refine R_aload rfl rfl rfl ?_
  refine T_getr (v := 42) rfl rfl rfl rfl ?_
  refine R_iload rfl rfl ?_
  refine R_push rfl ?_
  refine T_iast rfl rfl (by omega) (by omega) ?_
  refine R_aload rfl rfl rfl ?_
  refine R_dup rfl rfl ?_
  refine T_geti rfl rfl rfl ?_
  have e5 : (up2 (up2 (up2 (up2 (up2 (σ) 22 (J) (a)) 23 (J) (b)) 24 (J) (t0)) 25 (J) (n)) 26 (J) (-1)) 21 0 = J := by simp [up2, hJ]
  rw [e5]
  refine R_push rfl ?_
  refine R_add rfl (by omega) (by omega) ?_
  refine T_puti rfl rfl rfl ?_
  refine R_iload rfl rfl ?_
  refine R_iret rfl ?_
  exact hE _ _ rfl rfl
set_option maxRecDepth 20000 in
set_option maxHeartbeats 2000000 in
theorem sp_X9_part (d : Nat) (hd : 7 ≤ d) (xs : List (Nat × Nat)) (t dd rr : Nat) (σ : Sg) (j P J : Int) (hC : CW σ P J) (hn : 0 ≤ σ 0 8 ∧ σ 0 8 ≤ 999) : ∃ σ', Ev d 11 [(16, 0), (0, j)] (Wd xs t dd rr σ) (0, b2i ((0 ≤ j ∧ j < J) ∧ σ 26 j = -1)) (Wd xs t dd rr σ') ∧ (¬ ((0 ≤ j ∧ j < J) ∧ σ 26 j = -1) → σ' = σ) ∧ ((0 ≤ j ∧ j < J) ∧ σ 26 j = -1 → Fr [29, 30, 31, 32, 34] [(57, 4), (64, 10)] (up2 (up2 (up2 (σ) 26 (j) (σ 0 8)) 17 (σ 22 j) (-1)) 17 (σ 23 j) (-1)) σ' ∧ GI σ' P J ∧ σ' 57 4 = -1 ∧ σ' 64 10 = -1) := by
  obtain ⟨d, rfl⟩ : ∃ e, d = e + 1 := ⟨d - 1, by omega⟩
  refine evS (nL := 2) (code := k_X9_part) rfl dc_X9_part rfl (fun E hE => ?_)
  show pCm (Ev d) k_X9_part E 0 [(16, 0), (0, j)] [] _
  refine R_aload rfl rfl rfl ?_
  refine T_getr (v := 37) rfl rfl rfl rfl ?_
  refine R_iload rfl rfl ?_
  refine R_invv rfl rfl rfl rfl rfl rfl (sp_X4_stands d (by omega) xs t dd rr σ j J hC.1.2.1 hC.1.2.2.2.1.2) rfl ?_
  show pCm _ _ _ 8 _ [(0, _)] _
  refine R_if rfl (fun h8 => ?_) (fun h8 => ?_)
  · try simp only [ne_eq, b2i_e, b2i_1, Classical.not_not] at h8
    have hj := hC.1.2.2.2.2 j (by omega) (by omega)
    have hPP := hC.1.2.2.1
    have hJJ := hC.1.2.2.2.1
    have e0 : up2 σ 26 j (σ 0 8) 22 j = σ 22 j := by simp [up2]
    have e1 : up2 (up2 σ 26 j (σ 0 8)) 17 (σ 22 j) (-1) 23 j = σ 23 j := by simp [up2]
    refine R_aload rfl rfl rfl ?_
    refine T_getr (v := 37) rfl rfl rfl rfl ?_
    refine T_getr (v := 42) rfl rfl rfl rfl ?_
    refine R_iload rfl rfl ?_
    refine R_aload rfl rfl rfl ?_
    refine T_geti rfl rfl rfl ?_
    refine T_iast rfl rfl (by omega) (by omega) ?_
    refine R_aload rfl rfl rfl ?_
    refine T_getr (v := 28) rfl rfl rfl rfl ?_
    refine T_getr (v := 33) rfl rfl rfl rfl ?_
    refine R_aload rfl rfl rfl ?_
    refine T_getr (v := 37) rfl rfl rfl rfl ?_
    refine T_getr (v := 38) rfl rfl rfl rfl ?_
    refine R_iload rfl rfl ?_
    refine T_ald rfl rfl (by omega) (by omega) ?_
    rw [e0]
    refine R_push rfl ?_
    refine T_iast rfl rfl (by omega) (by omega) ?_
    refine R_aload rfl rfl rfl ?_
    refine T_getr (v := 28) rfl rfl rfl rfl ?_
    refine T_getr (v := 33) rfl rfl rfl rfl ?_
    refine R_aload rfl rfl rfl ?_
    refine T_getr (v := 37) rfl rfl rfl rfl ?_
    refine T_getr (v := 39) rfl rfl rfl rfl ?_
    refine R_iload rfl rfl ?_
    refine T_ald rfl rfl (by omega) (by omega) ?_
    rw [e1]
    refine R_push rfl ?_
    refine T_iast rfl rfl (by omega) (by omega) ?_
    refine R_aload rfl rfl rfl ?_
    generalize hs1 : up2 (up2 (up2 (σ) 26 (j) (σ 0 8)) 17 (σ 22 j) (-1)) 17 (σ 23 j) (-1) = s1
    have hr : ∀ k, k ≠ 17 → k ≠ 26 → ∀ i, s1 k i = σ k i := fun k h1 h2 i => by
      rw [← hs1]
      simp [up2, h1, h2]
    have hC2 : CW s1 P J := by
      refine ⟨⟨by rw [hr 1 (by decide) (by decide)]; exact hC.1.1, by rw [hr 21 (by decide) (by decide)]; exact hC.1.2.1, hC.1.2.2.1, hC.1.2.2.2.1, fun j h0 h1 => ?_⟩, fun j h0 h1 => ?_, fun i h0 h1 => ?_⟩
      · rw [hr 22 (by decide) (by decide), hr 23 (by decide) (by decide)]; exact hC.1.2.2.2.2 j h0 h1
      · rw [hr 24 (by decide) (by decide)]; exact hC.2.1 j h0 h1
      · rw [hr 25 (by decide) (by decide)]
        refine ⟨(hC.2.2 i h0 h1).1, ?_⟩
        have := (hC.2.2 i h0 h1).2
        rw [← hs1]
        by_cases q : i = j
        · simp [up2, q]; omega
        · simp [up2, q]; omega
    obtain ⟨s2, hev, hp⟩ := sp_X9_regroup d (by omega) xs t dd rr s1 P J hC2
    rw [← hs1] at hp
    refine R_invv rfl rfl rfl rfl rfl rfl (hev) rfl ?_
    show pCm _ _ _ 66 _ [] _
    refine R_push rfl ?_
    refine R_zret rfl (by first | exact Or.inl rfl | exact Or.inr rfl | omega | grind) ?_
    exact hE _ _ (by rw [b2i_t (by omega)]) ⟨fun q => absurd (show (0 ≤ j ∧ j < J) ∧ σ 26 j = -1 by omega) q, fun _ => hp⟩
  · try simp only [ne_eq, b2i_e, b2i_1, Classical.not_not] at h8
    refine R_push rfl ?_
    refine R_zret rfl (by first | exact Or.inl rfl | exact Or.inr rfl | omega | grind) ?_
    exact hE _ _ (by rw [b2i_f (by omega)]) ⟨fun _ => rfl, fun q => absurd q (by omega)⟩
set_option maxRecDepth 20000 in
set_option maxHeartbeats 2000000 in
theorem sp_X10_part (d : Nat) (hd : 2 ≤ d) (xs : List (Nat × Nat)) (t dd rr : Nat) (σ : Sg) (j : Int) (h : 0 ≤ σ 71 43 ∧ σ 71 43 ≤ 80) : ∃ σ', Ev d 83 [(87, 0), (0, j)] (Wd xs t dd rr σ) (0, if (0 ≤ j ∧ j < σ 71 43) ∧ σ 106 j = -1 then 1 else 0) (Wd xs t dd rr σ') ∧ σ' = if (0 ≤ j ∧ j < σ 71 43) ∧ σ 106 j = -1 then up2 (up2 (σ) 71 (0) (0)) 106 (j) (σ 71 24) else up2 (σ) 71 (0) (0) := by
  obtain ⟨d, rfl⟩ : ∃ e, d = e + 1 := ⟨d - 1, by omega⟩
  refine evS (nL := 2) (code := k_X10_part) rfl dc_X10_part rfl (fun E hE => ?_)
  show pCm (Ev d) k_X10_part E 0 [(87, 0), (0, j)] [] _
  refine R_aload rfl rfl rfl ?_
  refine R_push rfl ?_
  refine T_puti rfl rfl rfl ?_
  have e0 : (up2 (σ) 71 (0) (0)) 71 (43) = σ 71 (43) := by simp [up2]
  have e1 : (up2 (σ) 71 (0) (0)) 71 24 = σ 71 24 := by simp [up2]
  have e2 : (up2 (σ) 71 (0) (0)) 106 j = σ 106 j := by simp [up2]
  refine R_iload rfl rfl ?_
  refine R_if rfl (fun h6 => ?_) (fun h6 => ?_)
  · try simp only [ne_eq, b2i_e, b2i_1, Classical.not_not] at h6
    refine R_push rfl ?_
    refine R_zret rfl (by first | exact Or.inl rfl | exact Or.inr rfl | omega | grind) ?_
    first
    | exact hE _ _ (by rw [if_pos (by omega)]; try rfl; try (congr 1; simp [up2])) (by rw [if_pos (by omega)])
    | exact hE _ _ (by rw [if_neg (by omega)]) (by rw [if_neg (by omega)])
  · try simp only [ne_eq, b2i_e, b2i_1, Classical.not_not] at h6
    refine R_iload rfl rfl ?_
    refine R_aload rfl rfl rfl ?_
    refine T_geti rfl rfl rfl ?_
    rw [e0]
    refine R_ic rfl (fun h14 => ?_) (fun h14 => ?_)
    · try simp only [ne_eq, b2i_e, b2i_1, Classical.not_not] at h14
      refine R_push rfl ?_
      refine R_zret rfl (by first | exact Or.inl rfl | exact Or.inr rfl | omega | grind) ?_
      first
      | exact hE _ _ (by rw [if_pos (by omega)]; try rfl; try (congr 1; simp [up2])) (by rw [if_pos (by omega)])
      | exact hE _ _ (by rw [if_neg (by omega)]) (by rw [if_neg (by omega)])
    · try simp only [ne_eq, b2i_e, b2i_1, Classical.not_not] at h14
      refine R_aload rfl rfl rfl ?_
      refine R_iload rfl rfl ?_
      refine R_invv rfl rfl rfl rfl rfl rfl (sp_X10_isOn d (by omega) xs t dd rr _ j ⟨by omega, by omega⟩) rfl ?_
      show pCm _ _ _ 22 _ [(0, _)] _
      refine R_if rfl (fun h22 => ?_) (fun h22 => ?_)
      · try simp only [ne_eq, b2i_e, b2i_1, Classical.not_not] at h22
        refine R_aload rfl rfl rfl ?_
        refine T_getr (v := 122) rfl rfl rfl rfl ?_
        refine R_iload rfl rfl ?_
        refine R_aload rfl rfl rfl ?_
        refine T_geti rfl rfl rfl ?_
        rw [e1]
        refine T_iast rfl rfl (by omega) (by omega) ?_
        refine R_push rfl ?_
        refine R_zret rfl (by first | exact Or.inl rfl | exact Or.inr rfl | omega | grind) ?_
        first
        | exact hE _ _ (by rw [if_pos (by omega)]; try rfl; try (congr 1; simp [up2])) (by rw [if_pos (by omega)])
        | exact hE _ _ (by rw [if_neg (by omega)]) (by rw [if_neg (by omega)])
      · try simp only [ne_eq, b2i_e, b2i_1, Classical.not_not] at h22
        refine R_push rfl ?_
        refine R_zret rfl (by first | exact Or.inl rfl | exact Or.inr rfl | omega | grind) ?_
        first
        | exact hE _ _ (by rw [if_pos (by omega)]; try rfl; try (congr 1; simp [up2])) (by rw [if_pos (by omega)])
        | exact hE _ _ (by rw [if_neg (by omega)]) (by rw [if_neg (by omega)])

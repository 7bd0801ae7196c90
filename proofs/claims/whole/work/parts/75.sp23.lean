set_option maxRecDepth 20000 in
set_option maxHeartbeats 2000000 in
theorem sp_X9_asOf (d : Nat) (hd : 5 ≤ d) (xs : List (Nat × Nat)) (t dd rr : Nat) (σ : Sg) (p n : Int) (P J : Int) (hC : CB σ P J)  : ∃ σ', Ev d 15 [(16, 0), (0, p), (0, n)] (Wd xs t dd rr σ) (0, if (0 ≤ p ∧ p < P) ∧ (0 ≤ n ∧ n ≤ σ 0 8) then lab P J (onC σ n 0) (σ 22) (σ 23) p else -1) (Wd xs t dd rr σ') ∧ Fr [33] [] σ σ' := by
  obtain ⟨d, rfl⟩ : ∃ e, d = e + 1 := ⟨d - 1, by omega⟩
  have hC0 := hC
  obtain ⟨h1_, h21_, hP0, hJ0, hAB⟩ := hC
  have hPJ : 0 ≤ P ∧ P ≤ 40 ∧ 0 ≤ J ∧ J ≤ 80 := ⟨hP0.1, hP0.2, hJ0.1, hJ0.2⟩
  clear hP0 hJ0
  refine evS (nL := 3) (code := k_X9_asOf) rfl dc_X9_asOf rfl (fun E hE => ?_)
  show pCm (Ev d) k_X9_asOf E 0 [(16, 0), (0, p), (0, n)] [] _
  refine R_aload rfl rfl rfl ?_
  refine T_getr (v := 17) rfl rfl rfl rfl ?_
  refine R_iload rfl rfl ?_
  refine R_invv rfl rfl rfl rfl rfl rfl (sp_X6_has d (by omega) xs t dd rr σ p P h1_) rfl ?_
  show pCm _ _ _ 8 _ [(0, _)] _
  refine R_if rfl (fun h8 => ?_) (fun h8 => ?_)
  · try simp only [ne_eq, b2i_e, b2i_1, Classical.not_not] at h8
    refine R_push rfl ?_
    refine R_iret rfl ?_
    exact hE _ _ (by rw [if_neg (by omega)]) Fr.rf
  · try simp only [ne_eq, b2i_e, b2i_1, Classical.not_not] at h8
    refine R_iload rfl rfl ?_
    refine R_push rfl ?_
    refine R_aload rfl rfl rfl ?_
    refine T_geti rfl rfl rfl ?_
    refine R_inv rfl rfl rfl rfl rfl (sp_X9_within d (by omega) _ _ _ _) rfl ?_
    show pCm _ _ _ 20 _ [(0, _)] _
    refine R_if rfl (fun h20 => ?_) (fun h20 => ?_)
    · try simp only [ne_eq, b2i_e, b2i_1, Classical.not_not] at h20
      refine R_aload rfl rfl rfl ?_
      refine T_getr (v := 44) rfl rfl rfl rfl ?_
      refine R_iload rfl rfl ?_
      refine R_iload rfl rfl ?_
      obtain ⟨s1, hev, hF⟩ := sp_X3_cobbleAsOf d (by omega) xs t dd rr σ p n P J hC0 ⟨by omega, by omega⟩
      refine R_invv rfl rfl rfl rfl rfl rfl (hev) rfl ?_
      show pCm _ _ _ 34 _ [(0, _)] _
      refine R_iret rfl ?_
      exact hE _ _ (by rw [if_pos (by omega)]) hF
    · try simp only [ne_eq, b2i_e, b2i_1, Classical.not_not] at h20
      refine R_push rfl ?_
      refine R_iret rfl ?_
      exact hE _ _ (by rw [if_neg (by omega)]) Fr.rf
theorem onD_fr {σ σ' : Sg} {d b : Int} (h5 : σ' 105 = σ 105) (h6 : σ' 106 = σ 106) (h7 : σ' 99 = σ 99) (h2 : σ' 102 = σ 102) : onD σ' d b = onD σ d b := by unfold onD; rw [h5, h6, h7, h2]
set_option maxRecDepth 20000 in
set_option maxHeartbeats 2000000 in
theorem sp_X10_asOf (d : Nat) (hd : 3 ≤ d) (xs : List (Nat × Nat)) (t dd rr : Nat) (σ : Sg) (p n : Int) (P J : Int) (hM : MB σ P J)  : ∃ σ', Ev d 86 [(87, 0), (0, p), (0, n)] (Wd xs t dd rr σ) (0, if (0 ≤ p ∧ p < P) ∧ (0 ≤ n ∧ n ≤ σ 71 24) then lab P J (onD σ n 0) (σ 102) (σ 103) p else -1) (Wd xs t dd rr σ') ∧ Fr [107] [(71, 0)] σ σ' := by
  obtain ⟨d, rfl⟩ : ∃ e, d = e + 1 := ⟨d - 1, by omega⟩
  have hM0 := hM
  obtain ⟨h26, h43, hP0, hJ0, hAB⟩ := hM
  have hPJ : 0 ≤ P ∧ P ≤ 40 ∧ 0 ≤ J ∧ J ≤ 80 := ⟨hP0.1, hP0.2, hJ0.1, hJ0.2⟩
  clear hP0 hJ0
  refine evS (nL := 3) (code := k_X10_asOf) rfl dc_X10_asOf rfl (fun E hE => ?_)
  show pCm (Ev d) k_X10_asOf E 0 [(87, 0), (0, p), (0, n)] [] _
  refine R_aload rfl rfl rfl ?_
  refine R_push rfl ?_
  refine T_puti rfl rfl rfl ?_
  generalize hs1 : up2 σ 71 0 0 = s1
  have hF1 : Fr [] [(71, 0)] σ s1 := by rw [← hs1]; exact Fr.rf.up rfl
  clear hs1
  have e26 := hF1.at 71 26 rfl
  have e43 := hF1.at 71 43 rfl
  have e24 := hF1.at 71 24 rfl
  refine R_aload rfl rfl rfl ?_
  refine R_iload rfl rfl ?_
  refine R_invv rfl rfl rfl rfl rfl rfl (sp_X10_isPiece d (by omega) xs t dd rr s1 p P (by omega)) rfl ?_
  show pCm _ _ _ 10 _ [(0, _)] _
  refine R_if rfl (fun h10 => ?_) (fun h10 => ?_)
  · try simp only [ne_eq, b2i_e, b2i_1, Classical.not_not] at h10
    refine R_push rfl ?_
    refine R_iret rfl ?_
    exact hE _ _ (by rw [if_neg (by omega)]) (hF1.tr (r2 := []) (s2 := []) Fr.rf rfl rfl)
  · try simp only [ne_eq, b2i_e, b2i_1, Classical.not_not] at h10
    refine R_iload rfl rfl ?_
    refine R_push rfl ?_
    refine R_aload rfl rfl rfl ?_
    refine T_geti rfl rfl rfl ?_
    refine R_inv rfl rfl rfl rfl rfl (sp_X10_within d (by omega) _ _ _ _) rfl ?_
    show pCm _ _ _ 22 _ [(0, _)] _
    refine R_if rfl (fun h22 => ?_) (fun h22 => ?_)
    · try simp only [ne_eq, b2i_e, b2i_1, Classical.not_not] at h22
      refine R_aload rfl rfl rfl ?_
      refine R_iload rfl rfl ?_
      refine R_push rfl ?_
      obtain ⟨s2, hev, hF2, hv⟩ := sp_X10_hangs d (by omega) xs t dd rr s1 n 0 P J (MB_fr hM0 e26 e43 (hF1.fn 102 rfl) (hF1.fn 103 rfl)) (Or.inl rfl)
      rw [onD_fr (hF1.fn 105 rfl) (hF1.fn 106 rfl) (hF1.fn 99 rfl) (hF1.fn 102 rfl), hF1.fn 102 rfl, hF1.fn 103 rfl] at hv
      refine R_invv rfl rfl rfl rfl rfl rfl (hev) rfl ?_
      show pCm _ _ _ 33 _ [] _
      refine R_aload rfl rfl rfl ?_
      refine T_getr (v := 123) rfl rfl rfl rfl ?_
      refine R_iload rfl rfl ?_
      refine T_ald rfl rfl (by omega) (by omega) ?_
      refine R_iret rfl ?_
      exact hE _ _ (by rw [if_pos (by omega), hv p (by omega) (by omega)]) (hF1.tr hF2 rfl rfl)
    · try simp only [ne_eq, b2i_e, b2i_1, Classical.not_not] at h22
      refine R_push rfl ?_
      refine R_iret rfl ?_
      exact hE _ _ (by rw [if_neg (by omega)]) (hF1.tr (r2 := []) (s2 := []) Fr.rf rfl rfl)
set_option maxRecDepth 20000 in
set_option maxHeartbeats 2000000 in
theorem sp_X9_hour (d : Nat) (hd : 4 ≤ d) (xs : List (Nat × Nat)) (t dd rr : Nat) (σ : Sg) (l : Int) (P J : Int) (hC : CB σ P J) (hL : ∀ p, 0 ≤ p → p < P → 0 ≤ σ 6 p ∧ σ 6 p ≤ 4) : ∃ σ', Ev d 21 [(16, 0), (0, l)] (Wd xs t dd rr σ) (0, if 0 ≤ l ∧ l ≤ 4 then lab 5 J (onS σ) (lyS σ 22) (lyS σ 23) l else -1) (Wd xs t dd rr σ') ∧ Fr [35] [] σ σ' := by
  obtain ⟨d, rfl⟩ : ∃ e, d = e + 1 := ⟨d - 1, by omega⟩
  refine evS (nL := 2) (code := k_X9_hour) rfl dc_X9_hour rfl (fun E hE => ?_)
  show pCm (Ev d) k_X9_hour E 0 [(16, 0), (0, l)] [] _
  refine R_iload rfl rfl ?_
  refine R_push rfl ?_
  refine R_push rfl ?_
  refine R_inv rfl rfl rfl rfl rfl (sp_X9_within d (by omega) _ _ _ _) rfl ?_
  show pCm _ _ _ 6 _ [(0, _)] _
  refine R_if rfl (fun h6 => ?_) (fun h6 => ?_)
  · try simp only [ne_eq, b2i_e, b2i_1, Classical.not_not] at h6
    refine R_push rfl ?_
    refine R_iret rfl ?_
    first
    | exact hE _ _ (by rw [if_neg (by omega)]) Fr.rf
    | exact hE _ _ (by rw [if_pos (by omega)]) hF
  · try simp only [ne_eq, b2i_e, b2i_1, Classical.not_not] at h6
    refine R_aload rfl rfl rfl ?_
    refine T_getr (v := 44) rfl rfl rfl rfl ?_
    refine R_iload rfl rfl ?_
    obtain ⟨s1, hev, hF⟩ := sp_X3_hourOf d (by omega) xs t dd rr σ l P J hC hL ⟨by omega, by omega⟩
    refine R_invv rfl rfl rfl rfl rfl rfl (hev) rfl ?_
    show pCm _ _ _ 17 _ [(0, _)] _
    refine R_goto rfl ?_
    refine R_iret rfl ?_
    first
    | exact hE _ _ (by rw [if_neg (by omega)]) Fr.rf
    | exact hE _ _ (by rw [if_pos (by omega)]) hF

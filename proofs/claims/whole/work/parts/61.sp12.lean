set_option maxRecDepth 20000 in
set_option maxHeartbeats 2000000 in
theorem sp_X9_days (d : Nat) (hd : 2 ≤ d) (xs : List (Nat × Nat)) (t dd rr : Nat) (σ : Sg) (n : Int) (hn : -2147483648 ≤ n ∧ n < 2147483648) (h : 0 ≤ σ 0 8 ∧ σ 0 8 ≤ 999) : ∃ σ', Ev d 1 [(16, 0), (0, n)] (Wd xs t dd rr σ) (0, if (0 ≤ n ∧ n ≤ 100) ∧ σ 0 8 + n ≤ 999 then σ 0 8 + n else -1) (Wd xs t dd rr σ') ∧ σ' = if (0 ≤ n ∧ n ≤ 100) ∧ σ 0 8 + n ≤ 999 then up2 (σ) 0 (8) (σ 0 8 + n) else σ := by
  obtain ⟨d, rfl⟩ : ∃ e, d = e + 1 := ⟨d - 1, by omega⟩
  refine evS (nL := 2) (code := k_X9_days) rfl dc_X9_days rfl (fun E hE => ?_)
  show pCm (Ev d) k_X9_days E 0 [(16, 0), (0, n)] [] _
  refine R_iload rfl rfl ?_
  refine R_push rfl ?_
  refine R_push rfl ?_
  refine R_inv rfl rfl rfl rfl rfl (sp_X9_within d (by omega) _ _ _ _) rfl ?_
  show pCm _ _ _ 7 _ [(0, _)] _
  refine R_if rfl (fun h7 => ?_) (fun h7 => ?_)
  · try simp only [ne_eq, b2i_e, b2i_1, Classical.not_not] at h7
    refine R_push rfl ?_
    refine R_iret rfl ?_
    first
    | exact hE _ _ (by rw [if_pos (by omega)]; try rfl; try (congr 1; simp [up2])) (by rw [if_pos (by omega)])
    | exact hE _ _ (by rw [if_neg (by omega)]) (by rw [if_neg (by omega)])
  · try simp only [ne_eq, b2i_e, b2i_1, Classical.not_not] at h7
    refine R_aload rfl rfl rfl ?_
    refine T_geti rfl rfl rfl ?_
    refine R_iload rfl rfl ?_
    refine R_add rfl (by omega) (by omega) ?_
    refine R_push rfl ?_
    refine R_ic rfl (fun h19 => ?_) (fun h19 => ?_)
    · try simp only [ne_eq, b2i_e, b2i_1, Classical.not_not] at h19
      refine R_aload rfl rfl rfl ?_
      refine R_dup rfl rfl ?_
      refine T_geti rfl rfl rfl ?_
      refine R_iload rfl rfl ?_
      refine R_add rfl (by omega) (by omega) ?_
      refine T_puti rfl rfl rfl ?_
      refine R_aload rfl rfl rfl ?_
      refine T_geti rfl rfl rfl ?_
      refine R_iret rfl ?_
      first
      | exact hE _ _ (by rw [if_pos (by omega)]; try rfl; try (congr 1; simp [up2])) (by rw [if_pos (by omega)])
      | exact hE _ _ (by rw [if_neg (by omega)]) (by rw [if_neg (by omega)])
    · try simp only [ne_eq, b2i_e, b2i_1, Classical.not_not] at h19
      refine R_push rfl ?_
      refine R_iret rfl ?_
      first
      | exact hE _ _ (by rw [if_pos (by omega)]; try rfl; try (congr 1; simp [up2])) (by rw [if_pos (by omega)])
      | exact hE _ _ (by rw [if_neg (by omega)]) (by rw [if_neg (by omega)])
set_option maxRecDepth 20000 in
set_option maxHeartbeats 2000000 in
theorem sp_X10_days (d : Nat) (hd : 2 ≤ d) (xs : List (Nat × Nat)) (t dd rr : Nat) (σ : Sg) (n : Int) (hn : -2147483648 ≤ n ∧ n < 2147483648) (h : 0 ≤ σ 71 24 ∧ σ 71 24 ≤ 999) : ∃ σ', Ev d 65 [(87, 0), (0, n)] (Wd xs t dd rr σ) (0, if (0 ≤ n ∧ n ≤ 100) ∧ σ 71 24 + n ≤ 999 then σ 71 24 + n else -1) (Wd xs t dd rr σ') ∧ σ' = if (0 ≤ n ∧ n ≤ 100) ∧ σ 71 24 + n ≤ 999 then up2 (up2 (σ) 71 (0) (0)) 71 (24) (σ 71 24 + n) else up2 (σ) 71 (0) (0) := by
  obtain ⟨d, rfl⟩ : ∃ e, d = e + 1 := ⟨d - 1, by omega⟩
  refine evS (nL := 2) (code := k_X10_days) rfl dc_X10_days rfl (fun E hE => ?_)
  show pCm (Ev d) k_X10_days E 0 [(87, 0), (0, n)] [] _
  refine R_aload rfl rfl rfl ?_
  refine R_push rfl ?_
  refine T_puti rfl rfl rfl ?_
  have e24 : up2 σ 71 0 0 71 24 = σ 71 24 := by simp [up2]
  refine R_iload rfl rfl ?_
  refine R_push rfl ?_
  refine R_push rfl ?_
  refine R_inv rfl rfl rfl rfl rfl (sp_X10_within d (by omega) _ _ _ _) rfl ?_
  show pCm _ _ _ 12 _ [(0, _)] _
  refine R_if rfl (fun h12 => ?_) (fun h12 => ?_)
  · try simp only [ne_eq, b2i_e, b2i_1, Classical.not_not] at h12
    refine R_push rfl ?_
    refine R_iret rfl ?_
    first
    | exact hE _ _ (by rw [if_pos (by omega)]; try rfl; try (congr 1; simp [up2])) (by rw [if_pos (by omega)])
    | exact hE _ _ (by rw [if_neg (by omega)]) (by rw [if_neg (by omega)])
  · try simp only [ne_eq, b2i_e, b2i_1, Classical.not_not] at h12
    refine R_aload rfl rfl rfl ?_
    refine T_geti rfl rfl rfl ?_
    rw [e24]
    refine R_iload rfl rfl ?_
    refine R_add rfl (by omega) (by omega) ?_
    refine R_push rfl ?_
    refine R_ic rfl (fun h24 => ?_) (fun h24 => ?_)
    · try simp only [ne_eq, b2i_e, b2i_1, Classical.not_not] at h24
      refine R_aload rfl rfl rfl ?_
      refine R_dup rfl rfl ?_
      refine T_geti rfl rfl rfl ?_
      rw [e24]
      refine R_iload rfl rfl ?_
      refine R_add rfl (by omega) (by omega) ?_
      refine T_puti rfl rfl rfl ?_
      refine R_aload rfl rfl rfl ?_
      refine T_geti rfl rfl rfl ?_
      refine R_iret rfl ?_
      first
      | exact hE _ _ (by rw [if_pos (by omega)]; try rfl; try (congr 1; simp [up2])) (by rw [if_pos (by omega)])
      | exact hE _ _ (by rw [if_neg (by omega)]) (by rw [if_neg (by omega)])
    · try simp only [ne_eq, b2i_e, b2i_1, Classical.not_not] at h24
      refine R_push rfl ?_
      refine R_iret rfl ?_
      first
      | exact hE _ _ (by rw [if_pos (by omega)]; try rfl; try (congr 1; simp [up2])) (by rw [if_pos (by omega)])
      | exact hE _ _ (by rw [if_neg (by omega)]) (by rw [if_neg (by omega)])
set_option maxRecDepth 20000 in
set_option maxHeartbeats 2000000 in
theorem sp_X9_near (d : Nat) (hd : 2 ≤ d) (xs : List (Nat × Nat)) (t dd rr : Nat) (σ : Sg) (n : Int) : ∃ σ', Ev d 7 [(16, 0), (0, n)] (Wd xs t dd rr σ) (0, if (0 ≤ n ∧ n ≤ 400) then 1 else 0) (Wd xs t dd rr σ') ∧ σ' = if (0 ≤ n ∧ n ≤ 400) then up2 (σ) 36 (2) (n) else σ := by
  obtain ⟨d, rfl⟩ : ∃ e, d = e + 1 := ⟨d - 1, by omega⟩
  refine evS (nL := 2) (code := k_X9_near) rfl dc_X9_near rfl (fun E hE => ?_)
  show pCm (Ev d) k_X9_near E 0 [(16, 0), (0, n)] [] _
  refine R_iload rfl rfl ?_
  refine R_push rfl ?_
  refine R_push rfl ?_
  refine R_inv rfl rfl rfl rfl rfl (sp_X9_within d (by omega) _ _ _ _) rfl ?_
  show pCm _ _ _ 8 _ [(0, _)] _
  refine R_if rfl (fun h8 => ?_) (fun h8 => ?_)
  · try simp only [ne_eq, b2i_e, b2i_1, Classical.not_not] at h8
    refine R_aload rfl rfl rfl ?_
    refine T_getr (v := 52) rfl rfl rfl rfl ?_
    refine R_iload rfl rfl ?_
    refine T_puti rfl rfl rfl ?_
    refine R_push rfl ?_
    refine R_zret rfl (by first | exact Or.inl rfl | exact Or.inr rfl | omega | grind) ?_
    first
    | exact hE _ _ (by rw [if_pos (by omega)]; try rfl; try (congr 1; simp [up2])) (by rw [if_pos (by omega)])
    | exact hE _ _ (by rw [if_neg (by omega)]) (by rw [if_neg (by omega)])
  · try simp only [ne_eq, b2i_e, b2i_1, Classical.not_not] at h8
    refine R_push rfl ?_
    refine R_zret rfl (by first | exact Or.inl rfl | exact Or.inr rfl | omega | grind) ?_
    first
    | exact hE _ _ (by rw [if_pos (by omega)]; try rfl; try (congr 1; simp [up2])) (by rw [if_pos (by omega)])
    | exact hE _ _ (by rw [if_neg (by omega)]) (by rw [if_neg (by omega)])
set_option maxRecDepth 20000 in
set_option maxHeartbeats 2000000 in
theorem sp_X10_near (d : Nat) (hd : 2 ≤ d) (xs : List (Nat × Nat)) (t dd rr : Nat) (σ : Sg) (n : Int) : ∃ σ', Ev d 77 [(87, 0), (0, n)] (Wd xs t dd rr σ) (0, if (0 ≤ n ∧ n ≤ 400) then 1 else 0) (Wd xs t dd rr σ') ∧ σ' = if (0 ≤ n ∧ n ≤ 400) then up2 (up2 (σ) 71 (0) (0)) 71 (25) (n) else up2 (σ) 71 (0) (0) := by
  obtain ⟨d, rfl⟩ : ∃ e, d = e + 1 := ⟨d - 1, by omega⟩
  refine evS (nL := 2) (code := k_X10_near) rfl dc_X10_near rfl (fun E hE => ?_)
  show pCm (Ev d) k_X10_near E 0 [(87, 0), (0, n)] [] _
  refine R_aload rfl rfl rfl ?_
  refine R_push rfl ?_
  refine T_puti rfl rfl rfl ?_
  refine R_iload rfl rfl ?_
  refine R_push rfl ?_
  refine R_push rfl ?_
  refine R_inv rfl rfl rfl rfl rfl (sp_X10_within d (by omega) _ _ _ _) rfl ?_
  show pCm _ _ _ 13 _ [(0, _)] _
  refine R_if rfl (fun h13 => ?_) (fun h13 => ?_)
  · try simp only [ne_eq, b2i_e, b2i_1, Classical.not_not] at h13
    refine R_aload rfl rfl rfl ?_
    refine R_iload rfl rfl ?_
    refine T_puti rfl rfl rfl ?_
    refine R_push rfl ?_
    refine R_zret rfl (by first | exact Or.inl rfl | exact Or.inr rfl | omega | grind) ?_
    first
    | exact hE _ _ (by rw [if_pos (by omega)]; try rfl; try (congr 1; simp [up2])) (by rw [if_pos (by omega)])
    | exact hE _ _ (by rw [if_neg (by omega)]) (by rw [if_neg (by omega)])
  · try simp only [ne_eq, b2i_e, b2i_1, Classical.not_not] at h13
    refine R_push rfl ?_
    refine R_zret rfl (by first | exact Or.inl rfl | exact Or.inr rfl | omega | grind) ?_
    first
    | exact hE _ _ (by rw [if_pos (by omega)]; try rfl; try (congr 1; simp [up2])) (by rw [if_pos (by omega)])
    | exact hE _ _ (by rw [if_neg (by omega)]) (by rw [if_neg (by omega)])
set_option maxRecDepth 20000 in
set_option maxHeartbeats 2000000 in
theorem sp_X2_addFoot (d : Nat) (hd : 1 ≤ d) (xs : List (Nat × Nat)) (t dd rr : Nat) (σ : Sg) (x y z : Int) (h : 0 ≤ σ 64 2 ∧ σ 64 2 ≤ 20) : ∃ σ', Ev d 163 [(80, 0), (0, x), (0, y), (0, z)] (Wd xs t dd rr σ) (0, if σ 64 2 < 20 then σ 64 2 + 1 else -1) (Wd xs t dd rr σ') ∧ σ' = if σ 64 2 < 20 then up2 (up2 (up2 (up2 (σ) 65 (σ 64 2) (x)) 66 (σ 64 2) (y)) 67 (σ 64 2) (z)) 64 (2) (σ 64 2 + 1) else σ := by
  obtain ⟨d, rfl⟩ : ∃ e, d = e + 1 := ⟨d - 1, by omega⟩
  refine evS (nL := 4) (code := k_X2_addFoot) rfl dc_X2_addFoot rfl (fun E hE => ?_)
  show pCm (Ev d) k_X2_addFoot E 0 [(80, 0), (0, x), (0, y), (0, z)] [] _
  refine R_aload rfl rfl rfl ?_
  refine T_geti rfl rfl rfl ?_
  refine R_push rfl ?_
  refine R_ic rfl (fun h6 => ?_) (fun h6 => ?_)
  · try simp only [ne_eq, b2i_e, b2i_1, Classical.not_not] at h6
    refine R_aload rfl rfl rfl ?_
    refine T_getr (v := 81) rfl rfl rfl rfl ?_
    refine R_aload rfl rfl rfl ?_
    refine T_geti rfl rfl rfl ?_
    refine R_iload rfl rfl ?_
    refine T_iast rfl rfl (by omega) (by omega) ?_
    have e2 : up2 σ 65 (σ 64 2) x 64 2 = σ 64 2 := by simp [up2]
    refine R_aload rfl rfl rfl ?_
    refine T_getr (v := 82) rfl rfl rfl rfl ?_
    refine R_aload rfl rfl rfl ?_
    refine T_geti rfl rfl rfl ?_
    rw [e2]
    refine R_iload rfl rfl ?_
    refine T_iast rfl rfl (by omega) (by omega) ?_
    have e3 : up2 (up2 σ 65 (σ 64 2) x) 66 (σ 64 2) y 64 2 = σ 64 2 := by simp [up2]
    refine R_aload rfl rfl rfl ?_
    refine T_getr (v := 83) rfl rfl rfl rfl ?_
    refine R_aload rfl rfl rfl ?_
    refine T_geti rfl rfl rfl ?_
    rw [e3]
    refine R_iload rfl rfl ?_
    refine T_iast rfl rfl (by omega) (by omega) ?_
    have e4 : up2 (up2 (up2 σ 65 (σ 64 2) x) 66 (σ 64 2) y) 67 (σ 64 2) z 64 2 = σ 64 2 := by simp [up2]
    refine R_aload rfl rfl rfl ?_
    refine R_dup rfl rfl ?_
    refine T_geti rfl rfl rfl ?_
    rw [e4]
    refine R_push rfl ?_
    refine R_add rfl (by omega) (by omega) ?_
    refine T_puti rfl rfl rfl ?_
    refine R_aload rfl rfl rfl ?_
    refine T_geti rfl rfl rfl ?_
    refine R_iret rfl ?_
    first
    | exact hE _ _ (by rw [if_pos (by omega)]; try rfl; try (congr 1; simp [up2])) (by rw [if_pos (by omega)])
    | exact hE _ _ (by rw [if_neg (by omega)]) (by rw [if_neg (by omega)])
  · try simp only [ne_eq, b2i_e, b2i_1, Classical.not_not] at h6
    refine R_push rfl ?_
    refine R_iret rfl ?_
    first
    | exact hE _ _ (by rw [if_pos (by omega)]; try rfl; try (congr 1; simp [up2])) (by rw [if_pos (by omega)])
    | exact hE _ _ (by rw [if_neg (by omega)]) (by rw [if_neg (by omega)])
set_option maxRecDepth 20000 in
set_option maxHeartbeats 2000000 in
theorem sp_X9_foot (d : Nat) (hd : 2 ≤ d) (xs : List (Nat × Nat)) (t dd rr : Nat) (σ : Sg) (x y z : Int) (h : 0 ≤ σ 64 2 ∧ σ 64 2 ≤ 20) : ∃ σ', Ev d 20 [(16, 0), (0, x), (0, y), (0, z)] (Wd xs t dd rr σ) (0, if ((0 ≤ x ∧ x ≤ 999) ∧ (0 ≤ y ∧ y ≤ 999) ∧ (1 ≤ z ∧ z ≤ 99)) ∧ σ 64 2 < 20 then σ 64 2 + 1 else -1) (Wd xs t dd rr σ') ∧ σ' = if ((0 ≤ x ∧ x ≤ 999) ∧ (0 ≤ y ∧ y ≤ 999) ∧ (1 ≤ z ∧ z ≤ 99)) ∧ σ 64 2 < 20 then up2 (up2 (up2 (up2 (σ) 65 (σ 64 2) (x)) 66 (σ 64 2) (y)) 67 (σ 64 2) (z)) 64 (2) (σ 64 2 + 1) else σ := by
  obtain ⟨d, rfl⟩ : ∃ e, d = e + 1 := ⟨d - 1, by omega⟩
  refine evS (nL := 4) (code := k_X9_foot) rfl dc_X9_foot rfl (fun E hE => ?_)
  show pCm (Ev d) k_X9_foot E 0 [(16, 0), (0, x), (0, y), (0, z)] [] _
  refine R_iload rfl rfl ?_
  refine R_push rfl ?_
  refine R_push rfl ?_
  refine R_inv rfl rfl rfl rfl rfl (sp_X9_within d (by omega) _ _ _ _) rfl ?_
  show pCm _ _ _ 8 _ [(0, _)] _
  refine R_if rfl (fun h8 => ?_) (fun h8 => ?_)
  · try simp only [ne_eq, b2i_e, b2i_1, Classical.not_not] at h8
    refine R_push rfl ?_
    refine R_iret rfl ?_
    first
    | exact hE _ _ (by rw [if_pos (by omega)]; try rfl; try (congr 1; simp [up2])) (by rw [if_pos (by omega)])
    | exact hE _ _ (by rw [if_neg (by omega)]) (by rw [if_neg (by omega)])
  · try simp only [ne_eq, b2i_e, b2i_1, Classical.not_not] at h8
    refine R_iload rfl rfl ?_
    refine R_push rfl ?_
    refine R_push rfl ?_
    refine R_inv rfl rfl rfl rfl rfl (sp_X9_within d (by omega) _ _ _ _) rfl ?_
    show pCm _ _ _ 19 _ [(0, _)] _
    refine R_if rfl (fun h19 => ?_) (fun h19 => ?_)
    · try simp only [ne_eq, b2i_e, b2i_1, Classical.not_not] at h19
      refine R_push rfl ?_
      refine R_iret rfl ?_
      first
      | exact hE _ _ (by rw [if_pos (by omega)]; try rfl; try (congr 1; simp [up2])) (by rw [if_pos (by omega)])
      | exact hE _ _ (by rw [if_neg (by omega)]) (by rw [if_neg (by omega)])
    · try simp only [ne_eq, b2i_e, b2i_1, Classical.not_not] at h19
      refine R_iload rfl rfl ?_
      refine R_push rfl ?_
      refine R_push rfl ?_
      refine R_inv rfl rfl rfl rfl rfl (sp_X9_within d (by omega) _ _ _ _) rfl ?_
      show pCm _ _ _ 29 _ [(0, _)] _
      refine R_if rfl (fun h29 => ?_) (fun h29 => ?_)
      · try simp only [ne_eq, b2i_e, b2i_1, Classical.not_not] at h29
        refine R_aload rfl rfl rfl ?_
        refine T_getr (v := 80) rfl rfl rfl rfl ?_
        refine R_iload rfl rfl ?_
        refine R_iload rfl rfl ?_
        refine R_iload rfl rfl ?_
        obtain ⟨s1, hev, hs1⟩ := sp_X2_addFoot d (by omega) xs t dd rr σ x y z h
        refine R_invv rfl rfl rfl rfl rfl rfl (hev) rfl ?_
        show pCm _ _ _ 44 _ [(0, _)] _
        refine R_iret rfl ?_
        by_cases q : σ 64 2 < 20
        · rw [if_pos q] at hs1
          exact hE _ _ (by rw [if_pos q, if_pos (by omega)]) (by rw [if_pos (by omega)]; exact hs1)
        · rw [if_neg q] at hs1
          exact hE _ _ (by rw [if_neg q, if_neg (by omega)]) (by rw [if_neg (by omega)]; exact hs1)
      · try simp only [ne_eq, b2i_e, b2i_1, Classical.not_not] at h29
        refine R_push rfl ?_
        refine R_iret rfl ?_
        first
        | exact hE _ _ (by rw [if_pos (by omega)]; try rfl; try (congr 1; simp [up2])) (by rw [if_pos (by omega)])
        | exact hE _ _ (by rw [if_neg (by omega)]) (by rw [if_neg (by omega)])
set_option maxRecDepth 20000 in
set_option maxHeartbeats 2000000 in
theorem sp_X10_foot (d : Nat) (hd : 2 ≤ d) (xs : List (Nat × Nat)) (t dd rr : Nat) (σ : Sg) (x y z : Int) (h : 0 ≤ σ 71 65 ∧ σ 71 65 ≤ 20) : ∃ σ', Ev d 117 [(87, 0), (0, x), (0, y), (0, z)] (Wd xs t dd rr σ) (0, if ((0 ≤ x ∧ x ≤ 999) ∧ (0 ≤ y ∧ y ≤ 999) ∧ (1 ≤ z ∧ z ≤ 99)) ∧ σ 71 65 < 20 then σ 71 65 + 1 else -1) (Wd xs t dd rr σ') ∧ σ' = if ((0 ≤ x ∧ x ≤ 999) ∧ (0 ≤ y ∧ y ≤ 999) ∧ (1 ≤ z ∧ z ≤ 99)) ∧ σ 71 65 < 20 then up2 (up2 (up2 (up2 (up2 (σ) 71 (0) (0)) 119 (σ 71 65) (x)) 120 (σ 71 65) (y)) 121 (σ 71 65) (z)) 71 (65) (σ 71 65 + 1) else up2 (σ) 71 (0) (0) := by
  obtain ⟨d, rfl⟩ : ∃ e, d = e + 1 := ⟨d - 1, by omega⟩
  refine evS (nL := 4) (code := k_X10_foot) rfl dc_X10_foot rfl (fun E hE => ?_)
  show pCm (Ev d) k_X10_foot E 0 [(87, 0), (0, x), (0, y), (0, z)] [] _
  refine R_aload rfl rfl rfl ?_
  refine R_push rfl ?_
  refine T_puti rfl rfl rfl ?_
  have e1 : (up2 (σ) 71 (0) (0)) 71 (65) = σ 71 (65) := by simp [up2]
  refine R_iload rfl rfl ?_
  refine R_push rfl ?_
  refine R_push rfl ?_
  refine R_inv rfl rfl rfl rfl rfl (sp_X10_within d (by omega) _ _ _ _) rfl ?_
  show pCm _ _ _ 13 _ [(0, _)] _
  refine R_if rfl (fun h13 => ?_) (fun h13 => ?_)
  · try simp only [ne_eq, b2i_e, b2i_1, Classical.not_not] at h13
    refine R_push rfl ?_
    refine R_iret rfl ?_
    first
    | exact hE _ _ (by rw [if_pos (by omega)]; try rfl; try (congr 1; simp [up2])) (by rw [if_pos (by omega)])
    | exact hE _ _ (by rw [if_neg (by omega)]) (by rw [if_neg (by omega)])
  · try simp only [ne_eq, b2i_e, b2i_1, Classical.not_not] at h13
    refine R_iload rfl rfl ?_
    refine R_push rfl ?_
    refine R_push rfl ?_
    refine R_inv rfl rfl rfl rfl rfl (sp_X10_within d (by omega) _ _ _ _) rfl ?_
    show pCm _ _ _ 24 _ [(0, _)] _
    refine R_if rfl (fun h24 => ?_) (fun h24 => ?_)
    · try simp only [ne_eq, b2i_e, b2i_1, Classical.not_not] at h24
      refine R_push rfl ?_
      refine R_iret rfl ?_
      first
      | exact hE _ _ (by rw [if_pos (by omega)]; try rfl; try (congr 1; simp [up2])) (by rw [if_pos (by omega)])
      | exact hE _ _ (by rw [if_neg (by omega)]) (by rw [if_neg (by omega)])
    · try simp only [ne_eq, b2i_e, b2i_1, Classical.not_not] at h24
      refine R_iload rfl rfl ?_
      refine R_push rfl ?_
      refine R_push rfl ?_
      refine R_inv rfl rfl rfl rfl rfl (sp_X10_within d (by omega) _ _ _ _) rfl ?_
      show pCm _ _ _ 34 _ [(0, _)] _
      refine R_if rfl (fun h34 => ?_) (fun h34 => ?_)
      · try simp only [ne_eq, b2i_e, b2i_1, Classical.not_not] at h34
        refine R_push rfl ?_
        refine R_iret rfl ?_
        first
        | exact hE _ _ (by rw [if_pos (by omega)]; try rfl; try (congr 1; simp [up2])) (by rw [if_pos (by omega)])
        | exact hE _ _ (by rw [if_neg (by omega)]) (by rw [if_neg (by omega)])
      · try simp only [ne_eq, b2i_e, b2i_1, Classical.not_not] at h34
        refine R_aload rfl rfl rfl ?_
        refine T_geti rfl rfl rfl ?_
        rw [e1]
        refine R_push rfl ?_
        refine R_ic rfl (fun h43 => ?_) (fun h43 => ?_)
        · try simp only [ne_eq, b2i_e, b2i_1, Classical.not_not] at h43
          refine R_aload rfl rfl rfl ?_
          refine T_getr (v := 135) rfl rfl rfl rfl ?_
          refine R_aload rfl rfl rfl ?_
          refine T_geti rfl rfl rfl ?_
          rw [e1]
          refine R_iload rfl rfl ?_
          refine T_iast rfl rfl (by omega) (by omega) ?_
          have e2 : (up2 (up2 (σ) 71 (0) (0)) 119 (σ 71 65) (x)) 71 (65) = σ 71 (65) := by simp [up2]
          refine R_aload rfl rfl rfl ?_
          refine T_getr (v := 136) rfl rfl rfl rfl ?_
          refine R_aload rfl rfl rfl ?_
          refine T_geti rfl rfl rfl ?_
          rw [e2]
          refine R_iload rfl rfl ?_
          refine T_iast rfl rfl (by omega) (by omega) ?_
          have e3 : (up2 (up2 (up2 (σ) 71 (0) (0)) 119 (σ 71 65) (x)) 120 (σ 71 65) (y)) 71 (65) = σ 71 (65) := by simp [up2]
          refine R_aload rfl rfl rfl ?_
          refine T_getr (v := 137) rfl rfl rfl rfl ?_
          refine R_aload rfl rfl rfl ?_
          refine T_geti rfl rfl rfl ?_
          rw [e3]
          refine R_iload rfl rfl ?_
          refine T_iast rfl rfl (by omega) (by omega) ?_
          have e4 : (up2 (up2 (up2 (up2 (σ) 71 (0) (0)) 119 (σ 71 65) (x)) 120 (σ 71 65) (y)) 121 (σ 71 65) (z)) 71 (65) = σ 71 (65) := by simp [up2]
          refine R_aload rfl rfl rfl ?_
          refine R_dup rfl rfl ?_
          refine T_geti rfl rfl rfl ?_
          rw [e4]
          refine R_push rfl ?_
          refine R_add rfl (by omega) (by omega) ?_
          refine T_puti rfl rfl rfl ?_
          refine R_aload rfl rfl rfl ?_
          refine T_geti rfl rfl rfl ?_
          refine R_iret rfl ?_
          first
          | exact hE _ _ (by rw [if_pos (by omega)]; try rfl; try (congr 1; simp [up2])) (by rw [if_pos (by omega)])
          | exact hE _ _ (by rw [if_neg (by omega)]) (by rw [if_neg (by omega)])
        · try simp only [ne_eq, b2i_e, b2i_1, Classical.not_not] at h43
          refine R_push rfl ?_
          refine R_iret rfl ?_
          first
          | exact hE _ _ (by rw [if_pos (by omega)]; try rfl; try (congr 1; simp [up2])) (by rw [if_pos (by omega)])
          | exact hE _ _ (by rw [if_neg (by omega)]) (by rw [if_neg (by omega)])
set_option maxRecDepth 20000 in
set_option maxHeartbeats 2000000 in
theorem sp_X9_blind (d : Nat) (hd : 1 ≤ d) (xs : List (Nat × Nat)) (t dd rr : Nat) (σ : Sg) (b : Int) (hb : b = 0 ∨ b = 1) (h : (0 ≤ σ 0 9 ∧ σ 0 9 ≤ 1000) ∧ 0 ≤ σ 0 10 ∧ σ 0 10 ≤ 1000) : ∃ σ', Ev d 23 [(16, 0), (0, b)] (Wd xs t dd rr σ) (0, if σ 0 9 < 1000 then σ 0 9 + 1 else -1) (Wd xs t dd rr σ') ∧ σ' = if σ 0 9 < 1000 then up2 (up2 (σ) 0 (9) (σ 0 9 + 1)) 0 (10) (σ 0 10 + (1 - b)) else σ := by
  obtain ⟨d, rfl⟩ : ∃ e, d = e + 1 := ⟨d - 1, by omega⟩
  refine evS (nL := 2) (code := k_X9_blind) rfl dc_X9_blind rfl (fun E hE => ?_)
  show pCm (Ev d) k_X9_blind E 0 [(16, 0), (0, b)] [] _
  refine R_aload rfl rfl rfl ?_
  refine T_geti rfl rfl rfl ?_
  refine R_push rfl ?_
  refine R_ic rfl (fun h7 => ?_) (fun h7 => ?_)
  · try simp only [ne_eq, b2i_e, b2i_1, Classical.not_not] at h7
    refine R_aload rfl rfl rfl ?_
    refine R_dup rfl rfl ?_
    refine T_geti rfl rfl rfl ?_
    refine R_push rfl ?_
    refine R_add rfl (by omega) (by omega) ?_
    refine T_puti rfl rfl rfl ?_
    have e10 : up2 σ 0 9 (σ 0 9 + 1) 0 10 = σ 0 10 := by simp [up2]
    refine R_iload rfl rfl ?_
    refine R_if rfl (fun h23 => ?_) (fun h23 => ?_)
    · try simp only [ne_eq, b2i_e, b2i_1, Classical.not_not] at h23
      refine R_aload rfl rfl rfl ?_
      refine T_geti rfl rfl rfl ?_
      refine R_iret rfl ?_
      first
      | exact hE _ _ (by rw [if_neg (by omega)]) (by rw [if_neg (by omega)])
      | (have eb : b = 0 := by omega
         exact hE _ _ (by rw [if_pos (by omega)]; first | rfl | (congr 1; simp [up2])) (by rw [if_pos (by omega), eb]; rfl))
      | (have eb : b = 1 := by omega
         exact hE _ _ (by rw [if_pos (by omega)]; first | rfl | (congr 1; simp [up2])) (by
          rw [if_pos (by omega), eb]
          funext k i
          by_cases q : k = 0 ∧ i = 10
          · obtain ⟨rfl, rfl⟩ := q
            rw [up_s]; simp [up2]
          · simp [up2, q]))
    · try simp only [ne_eq, b2i_e, b2i_1, Classical.not_not] at h23
      refine R_aload rfl rfl rfl ?_
      refine R_dup rfl rfl ?_
      refine T_geti rfl rfl rfl ?_
      rw [e10]
      refine R_push rfl ?_
      refine R_add rfl (by omega) (by omega) ?_
      refine T_puti rfl rfl rfl ?_
      refine R_aload rfl rfl rfl ?_
      refine T_geti rfl rfl rfl ?_
      refine R_iret rfl ?_
      first
      | exact hE _ _ (by rw [if_neg (by omega)]) (by rw [if_neg (by omega)])
      | (have eb : b = 0 := by omega
         exact hE _ _ (by rw [if_pos (by omega)]; first | rfl | (congr 1; simp [up2])) (by rw [if_pos (by omega), eb]; rfl))
      | (have eb : b = 1 := by omega
         exact hE _ _ (by rw [if_pos (by omega)]; first | rfl | (congr 1; simp [up2])) (by
          rw [if_pos (by omega), eb]
          funext k i
          by_cases q : k = 0 ∧ i = 10
          · obtain ⟨rfl, rfl⟩ := q
            rw [up_s]; simp [up2]
          · simp [up2, q]))
  · try simp only [ne_eq, b2i_e, b2i_1, Classical.not_not] at h7
    refine R_push rfl ?_
    refine R_iret rfl ?_
    first
    | exact hE _ _ (by rw [if_neg (by omega)]) (by rw [if_neg (by omega)])
    | (have eb : b = 0 := by omega
       exact hE _ _ (by rw [if_pos (by omega)]; first | rfl | (congr 1; simp [up2])) (by rw [if_pos (by omega), eb]; rfl))
    | (have eb : b = 1 := by omega
       exact hE _ _ (by rw [if_pos (by omega)]; first | rfl | (congr 1; simp [up2])) (by
        rw [if_pos (by omega), eb]
        funext k i
        by_cases q : k = 0 ∧ i = 10
        · obtain ⟨rfl, rfl⟩ := q
          rw [up_s]; simp [up2]
        · simp [up2, q]))
set_option maxRecDepth 20000 in
set_option maxHeartbeats 2000000 in
theorem sp_X10_blind (d : Nat) (hd : 1 ≤ d) (xs : List (Nat × Nat)) (t dd rr : Nat) (σ : Sg) (b : Int) (hb : b = 0 ∨ b = 1) (h : (0 ≤ σ 71 71 ∧ σ 71 71 ≤ 1000) ∧ 0 ≤ σ 71 72 ∧ σ 71 72 ≤ 1000) : ∃ σ', Ev d 122 [(87, 0), (0, b)] (Wd xs t dd rr σ) (0, if σ 71 71 < 1000 then σ 71 71 + 1 else -1) (Wd xs t dd rr σ') ∧ σ' = if σ 71 71 < 1000 then up2 (up2 (up2 (σ) 71 (0) (0)) 71 (71) (σ 71 71 + 1)) 71 (72) (σ 71 72 + (1 - b)) else up2 (σ) 71 (0) (0) := by
  obtain ⟨d, rfl⟩ : ∃ e, d = e + 1 := ⟨d - 1, by omega⟩
  refine evS (nL := 2) (code := k_X10_blind) rfl dc_X10_blind rfl (fun E hE => ?_)
  show pCm (Ev d) k_X10_blind E 0 [(87, 0), (0, b)] [] _
  refine R_aload rfl rfl rfl ?_
  refine R_push rfl ?_
  refine T_puti rfl rfl rfl ?_
  have e1 : (up2 (σ) 71 (0) (0)) 71 (71) = σ 71 (71) := by simp [up2]
  refine R_aload rfl rfl rfl ?_
  refine T_geti rfl rfl rfl ?_
  rw [e1]
  refine R_push rfl ?_
  refine R_ic rfl (fun h12 => ?_) (fun h12 => ?_)
  · try simp only [ne_eq, b2i_e, b2i_1, Classical.not_not] at h12
    refine R_aload rfl rfl rfl ?_
    refine R_dup rfl rfl ?_
    refine T_geti rfl rfl rfl ?_
    rw [e1]
    refine R_push rfl ?_
    refine R_add rfl (by omega) (by omega) ?_
    refine T_puti rfl rfl rfl ?_
    have e2 : (up2 (up2 (σ) 71 (0) (0)) 71 (71) (σ 71 71 + 1)) 71 (72) = σ 71 (72) := by simp [up2]
    refine R_aload rfl rfl rfl ?_
    refine R_dup rfl rfl ?_
    refine T_geti rfl rfl rfl ?_
    rw [e2]
    refine R_iload rfl rfl ?_
    refine R_if rfl (fun h33 => ?_) (fun h33 => ?_)
    · try simp only [ne_eq, b2i_e, b2i_1, Classical.not_not] at h33
      refine R_push rfl ?_
      refine R_add rfl (by omega) (by omega) ?_
      refine T_puti rfl rfl rfl ?_
      refine R_aload rfl rfl rfl ?_
      refine T_geti rfl rfl rfl ?_
      refine R_iret rfl ?_
      first
      | exact hE _ _ (by rw [if_neg (by omega)]) (by rw [if_neg (by omega)])
      | (have eb : b = 0 := by omega
         exact hE _ _ (by rw [if_pos (by omega)]; first | rfl | (congr 1; simp [up2])) (by rw [if_pos (by omega), eb]; rfl))
      | (have eb : b = 1 := by omega
         exact hE _ _ (by rw [if_pos (by omega)]; first | rfl | (congr 1; simp [up2])) (by rw [if_pos (by omega), eb]; rfl))
    · try simp only [ne_eq, b2i_e, b2i_1, Classical.not_not] at h33
      refine R_push rfl ?_
      refine R_goto rfl ?_
      refine R_add rfl (by omega) (by omega) ?_
      refine T_puti rfl rfl rfl ?_
      refine R_aload rfl rfl rfl ?_
      refine T_geti rfl rfl rfl ?_
      refine R_iret rfl ?_
      first
      | exact hE _ _ (by rw [if_neg (by omega)]) (by rw [if_neg (by omega)])
      | (have eb : b = 0 := by omega
         exact hE _ _ (by rw [if_pos (by omega)]; first | rfl | (congr 1; simp [up2])) (by rw [if_pos (by omega), eb]; rfl))
      | (have eb : b = 1 := by omega
         exact hE _ _ (by rw [if_pos (by omega)]; first | rfl | (congr 1; simp [up2])) (by rw [if_pos (by omega), eb]; rfl))
  · try simp only [ne_eq, b2i_e, b2i_1, Classical.not_not] at h12
    refine R_push rfl ?_
    refine R_iret rfl ?_
    first
    | exact hE _ _ (by rw [if_neg (by omega)]) (by rw [if_neg (by omega)])
    | (have eb : b = 0 := by omega
       exact hE _ _ (by rw [if_pos (by omega)]; first | rfl | (congr 1; simp [up2])) (by rw [if_pos (by omega), eb]; rfl))
    | (have eb : b = 1 := by omega
       exact hE _ _ (by rw [if_pos (by omega)]; first | rfl | (congr 1; simp [up2])) (by rw [if_pos (by omega), eb]; rfl))

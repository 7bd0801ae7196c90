set_option maxRecDepth 20000 in
set_option maxHeartbeats 2000000 in
theorem sp_X10_wholesOf (d : Nat) (hd : 1 ≤ d) (xs : List (Nat × Nat)) (t dd rr : Nat) (σ : Sg) (c P : Int) (hP : σ 71 26 = P) (h0 : 0 ≤ P ∧ P ≤ 40) : Ev d 103 [(87, 0), (0, c)] (Wd xs t dd rr σ) (0, sumZ (fun p => b2i (σ 111 p = c ∧ σ 112 p = p)) P) (Wd xs t dd rr σ) := by
  obtain ⟨d, rfl⟩ : ∃ e, d = e + 1 := ⟨d - 1, by omega⟩
  refine evP (nL := 4) (code := k_X10_wholesOf) rfl pb0 rfl (fun E hE => ?_)
  show pCm (Ev d) k_X10_wholesOf E 0 [(87, 0), (0, c), (9, 0), (9, 0)] [] _
  refine R_push rfl ?_
  refine R_istore rfl rfl ?_
  refine R_push rfl ?_
  refine R_istore rfl rfl ?_
  refine loop (pc := 4) (α := Int × Int) (fun a => (P - a.2).toNat) (fun a => ([(87, 0), (0, c), (0, a.1), (0, a.2)], Wd xs t dd rr σ)) (fun a => 0 ≤ a.2 ∧ a.2 ≤ P ∧ a.1 = sumZ (fun p => b2i (σ 111 p = c ∧ σ 112 p = p)) a.2) ?_ (0, 0) ?_
  · intro ⟨n, k⟩ ⟨hk0, hk1, hn⟩ ih
    dsimp only at hk0 hk1 hn ⊢
    have hs := sumZ_bd (f := fun p => b2i (σ 111 p = c ∧ σ 112 p = p)) (c := 1) hk0 (fun i hi0 hi1 => b2i_bd)
    refine R_iload rfl rfl ?_
    refine R_aload rfl rfl rfl ?_
    refine T_geti rfl rfl rfl ?_
    refine R_ic rfl (fun h9 => ?_) (fun h9 => ?_)
    · try simp only [ne_eq, b2i_e, b2i_1, Classical.not_not] at h9
      refine R_iload rfl rfl ?_
      refine R_iret rfl ?_
      exact hE _ (by congr 1; rw [hn]; congr 1; omega)
    · try simp only [ne_eq, b2i_e, b2i_1, Classical.not_not] at h9
      refine R_iload rfl rfl ?_
      refine R_aload rfl rfl rfl ?_
      refine T_getr (v := 127) rfl rfl rfl rfl ?_
      refine R_iload rfl rfl ?_
      refine T_ald rfl rfl (by omega) (by omega) ?_
      refine R_iload rfl rfl ?_
      refine R_ic rfl (fun h20 => ?_) (fun h20 => ?_)
      · try simp only [ne_eq, b2i_e, b2i_1, Classical.not_not] at h20
        refine R_push rfl ?_
        refine R_add rfl (by omega) (by omega) ?_
        refine R_istore rfl rfl ?_
        refine R_inc rfl rfl (by omega) (by omega) ?_
        refine R_goto rfl ?_
        exact ih (_, _) ⟨by dsimp only; omega, by dsimp only; omega, by dsimp only; rw [sumZ_s hk0]; first | omega | (rw [b2i_t (by omega)]; omega) | (rw [b2i_f (by omega)]; omega) | (rw [if_pos (by omega)]; omega) | (rw [if_neg (by omega)]; omega)⟩ (by dsimp only; omega)
      · try simp only [ne_eq, b2i_e, b2i_1, Classical.not_not] at h20
        refine R_aload rfl rfl rfl ?_
        refine T_getr (v := 128) rfl rfl rfl rfl ?_
        refine R_iload rfl rfl ?_
        refine T_ald rfl rfl (by omega) (by omega) ?_
        refine R_iload rfl rfl ?_
        refine R_ic rfl (fun h30 => ?_) (fun h30 => ?_)
        · try simp only [ne_eq, b2i_e, b2i_1, Classical.not_not] at h30
          refine R_push rfl ?_
          refine R_add rfl (by omega) (by omega) ?_
          refine R_istore rfl rfl ?_
          refine R_inc rfl rfl (by omega) (by omega) ?_
          refine R_goto rfl ?_
          exact ih (_, _) ⟨by dsimp only; omega, by dsimp only; omega, by dsimp only; rw [sumZ_s hk0]; first | omega | (rw [b2i_t (by omega)]; omega) | (rw [b2i_f (by omega)]; omega) | (rw [if_pos (by omega)]; omega) | (rw [if_neg (by omega)]; omega)⟩ (by dsimp only; omega)
        · try simp only [ne_eq, b2i_e, b2i_1, Classical.not_not] at h30
          refine R_push rfl ?_
          refine R_goto rfl ?_
          refine R_add rfl (by omega) (by omega) ?_
          refine R_istore rfl rfl ?_
          refine R_inc rfl rfl (by omega) (by omega) ?_
          refine R_goto rfl ?_
          exact ih (_, _) ⟨by dsimp only; omega, by dsimp only; omega, by dsimp only; rw [sumZ_s hk0]; first | omega | (rw [b2i_t (by omega)]; omega) | (rw [b2i_f (by omega)]; omega) | (rw [if_pos (by omega)]; omega) | (rw [if_neg (by omega)]; omega)⟩ (by dsimp only; omega)
  · exact ⟨Int.le_refl _, (by omega), sumZ_0.symm⟩
set_option maxRecDepth 20000 in
set_option maxHeartbeats 2000000 in
theorem sp_X10_faultsOf (d : Nat) (hd : 1 ≤ d) (xs : List (Nat × Nat)) (t dd rr : Nat) (σ : Sg) (c P : Int) (hP : σ 71 26 = P) (h0 : 0 ≤ P ∧ P ≤ 40) (hf : ∀ p, 0 ≤ p → p < P → 0 ≤ σ 97 p ∧ σ 97 p ≤ 9) : Ev d 104 [(87, 0), (0, c)] (Wd xs t dd rr σ) (0, sumZ (fun p => if σ 111 p = c then σ 97 p else 0) P) (Wd xs t dd rr σ) := by
  obtain ⟨d, rfl⟩ : ∃ e, d = e + 1 := ⟨d - 1, by omega⟩
  refine evP (nL := 4) (code := k_X10_faultsOf) rfl pb0 rfl (fun E hE => ?_)
  show pCm (Ev d) k_X10_faultsOf E 0 [(87, 0), (0, c), (9, 0), (9, 0)] [] _
  refine R_push rfl ?_
  refine R_istore rfl rfl ?_
  refine R_push rfl ?_
  refine R_istore rfl rfl ?_
  refine loop (pc := 4) (α := Int × Int) (fun a => (P - a.2).toNat) (fun a => ([(87, 0), (0, c), (0, a.1), (0, a.2)], Wd xs t dd rr σ)) (fun a => 0 ≤ a.2 ∧ a.2 ≤ P ∧ a.1 = sumZ (fun p => if σ 111 p = c then σ 97 p else 0) a.2) ?_ (0, 0) ?_
  · intro ⟨n, k⟩ ⟨hk0, hk1, hn⟩ ih
    dsimp only at hk0 hk1 hn ⊢
    have hs := sumZ_bd (f := fun p => if σ 111 p = c then σ 97 p else 0) (c := 9) hk0 (fun i hi0 hi1 => by have := hf i hi0 (by omega); split <;> omega)
    have hfk : k < P → 0 ≤ σ 97 k ∧ σ 97 k ≤ 9 := fun q => hf k hk0 q
    refine R_iload rfl rfl ?_
    refine R_aload rfl rfl rfl ?_
    refine T_geti rfl rfl rfl ?_
    refine R_ic rfl (fun h9 => ?_) (fun h9 => ?_)
    · try simp only [ne_eq, b2i_e, b2i_1, Classical.not_not] at h9
      refine R_iload rfl rfl ?_
      refine R_iret rfl ?_
      exact hE _ (by congr 1; rw [hn]; congr 1; omega)
    · try simp only [ne_eq, b2i_e, b2i_1, Classical.not_not] at h9
      refine R_iload rfl rfl ?_
      refine R_aload rfl rfl rfl ?_
      refine T_getr (v := 127) rfl rfl rfl rfl ?_
      refine R_iload rfl rfl ?_
      refine T_ald rfl rfl (by omega) (by omega) ?_
      refine R_iload rfl rfl ?_
      refine R_ic rfl (fun h20 => ?_) (fun h20 => ?_)
      · try simp only [ne_eq, b2i_e, b2i_1, Classical.not_not] at h20
        
        refine R_push rfl ?_
        refine R_add rfl (by omega) (by omega) ?_
        refine R_istore rfl rfl ?_
        refine R_inc rfl rfl (by omega) (by omega) ?_
        refine R_goto rfl ?_
        exact ih (_, _) ⟨by dsimp only; omega, by dsimp only; omega, by dsimp only; rw [sumZ_s hk0]; first | omega | (rw [b2i_t (by omega)]; omega) | (rw [b2i_f (by omega)]; omega) | (rw [if_pos (by omega)]; omega) | (rw [if_neg (by omega)]; omega)⟩ (by dsimp only; omega)
      · try simp only [ne_eq, b2i_e, b2i_1, Classical.not_not] at h20
        have hfk := hfk (by omega)
        refine R_aload rfl rfl rfl ?_
        refine T_getr (v := 113) rfl rfl rfl rfl ?_
        refine R_iload rfl rfl ?_
        refine T_ald rfl rfl (by omega) (by omega) ?_
        refine R_goto rfl ?_
        refine R_add rfl (by omega) (by omega) ?_
        refine R_istore rfl rfl ?_
        refine R_inc rfl rfl (by omega) (by omega) ?_
        refine R_goto rfl ?_
        exact ih (_, _) ⟨by dsimp only; omega, by dsimp only; omega, by dsimp only; rw [sumZ_s hk0]; first | omega | (rw [b2i_t (by omega)]; omega) | (rw [b2i_f (by omega)]; omega) | (rw [if_pos (by omega)]; omega) | (rw [if_neg (by omega)]; omega)⟩ (by dsimp only; omega)
  · exact ⟨Int.le_refl _, (by omega), sumZ_0.symm⟩
set_option maxRecDepth 20000 in
set_option maxHeartbeats 2000000 in
theorem sp_X10_joinsOn (d : Nat) (hd : 2 ≤ d) (xs : List (Nat × Nat)) (t dd rr : Nat) (σ : Sg) (J : Int) (hJ : σ 71 43 = J) (h0 : 0 ≤ J ∧ J ≤ 80) : Ev d 123 [(87, 0)] (Wd xs t dd rr σ) (0, sumZ (fun j => b2i (σ 106 j = -1)) J) (Wd xs t dd rr σ) := by
  obtain ⟨d, rfl⟩ : ∃ e, d = e + 1 := ⟨d - 1, by omega⟩
  refine evP (nL := 3) (code := k_X10_joinsOn) rfl pb0 rfl (fun E hE => ?_)
  show pCm (Ev d) k_X10_joinsOn E 0 [(87, 0), (9, 0), (9, 0)] [] _
  refine R_push rfl ?_
  refine R_istore rfl rfl ?_
  refine R_push rfl ?_
  refine R_istore rfl rfl ?_
  refine loop (pc := 4) (α := Int × Int) (fun a => (J - a.2).toNat) (fun a => ([(87, 0), (0, a.1), (0, a.2)], Wd xs t dd rr σ)) (fun a => 0 ≤ a.2 ∧ a.2 ≤ J ∧ a.1 = sumZ (fun j => b2i (σ 106 j = -1)) a.2) ?_ (0, 0) ?_
  · intro ⟨n, k⟩ ⟨hk0, hk1, hn⟩ ih
    dsimp only at hk0 hk1 hn ⊢
    have hs := sumZ_bd (f := fun j => b2i (σ 106 j = -1)) (c := 1) hk0 (fun i hi0 hi1 => b2i_bd)
    refine R_iload rfl rfl ?_
    refine R_aload rfl rfl rfl ?_
    refine T_geti rfl rfl rfl ?_
    refine R_ic rfl (fun h9 => ?_) (fun h9 => ?_)
    · try simp only [ne_eq, b2i_e, b2i_1, Classical.not_not] at h9
      refine R_iload rfl rfl ?_
      refine R_iret rfl ?_
      exact hE _ (by congr 1; rw [hn]; congr 1; omega)
    · try simp only [ne_eq, b2i_e, b2i_1, Classical.not_not] at h9
      refine R_iload rfl rfl ?_
      refine R_aload rfl rfl rfl ?_
      refine R_iload rfl rfl ?_
      refine R_invv rfl rfl rfl rfl rfl rfl (sp_X10_isOn d (by omega) xs t dd rr σ k ⟨by omega, by omega⟩) rfl ?_
      show pCm _ _ _ 18 _ [(0, _), (0, _)] _
      refine R_if rfl (fun h18 => ?_) (fun h18 => ?_)
      · try simp only [ne_eq, b2i_e, b2i_1, Classical.not_not] at h18
        refine R_push rfl ?_
        refine R_add rfl (by omega) (by omega) ?_
        refine R_istore rfl rfl ?_
        refine R_inc rfl rfl (by omega) (by omega) ?_
        refine R_goto rfl ?_
        exact ih (_, _) ⟨by dsimp only; omega, by dsimp only; omega, by dsimp only; rw [sumZ_s hk0]; first | omega | (rw [b2i_t (by omega)]; omega) | (rw [b2i_f (by omega)]; omega) | (rw [if_pos (by omega)]; omega) | (rw [if_neg (by omega)]; omega)⟩ (by dsimp only; omega)
      · try simp only [ne_eq, b2i_e, b2i_1, Classical.not_not] at h18
        refine R_push rfl ?_
        refine R_goto rfl ?_
        refine R_add rfl (by omega) (by omega) ?_
        refine R_istore rfl rfl ?_
        refine R_inc rfl rfl (by omega) (by omega) ?_
        refine R_goto rfl ?_
        exact ih (_, _) ⟨by dsimp only; omega, by dsimp only; omega, by dsimp only; rw [sumZ_s hk0]; first | omega | (rw [b2i_t (by omega)]; omega) | (rw [b2i_f (by omega)]; omega) | (rw [if_pos (by omega)]; omega) | (rw [if_neg (by omega)]; omega)⟩ (by dsimp only; omega)
  · exact ⟨Int.le_refl _, (by omega), sumZ_0.symm⟩
set_option maxRecDepth 20000 in
set_option maxHeartbeats 2000000 in
theorem sp_X10_cutsTold (d : Nat) (hd : 1 ≤ d) (xs : List (Nat × Nat)) (t dd rr : Nat) (σ : Sg)  : Ev d 126 [(87, 0)] (Wd xs t dd rr σ) (0, sumZ (fun j => b2i (0 < σ 116 j)) 2560) (Wd xs t dd rr σ) := by
  obtain ⟨d, rfl⟩ : ∃ e, d = e + 1 := ⟨d - 1, by omega⟩
  refine evP (nL := 3) (code := k_X10_cutsTold) rfl pb0 rfl (fun E hE => ?_)
  show pCm (Ev d) k_X10_cutsTold E 0 [(87, 0), (9, 0), (9, 0)] [] _
  refine R_push rfl ?_
  refine R_istore rfl rfl ?_
  refine R_push rfl ?_
  refine R_istore rfl rfl ?_
  refine loop (pc := 4) (α := Int × Int) (fun a => (2560 - a.2).toNat) (fun a => ([(87, 0), (0, a.1), (0, a.2)], Wd xs t dd rr σ)) (fun a => 0 ≤ a.2 ∧ a.2 ≤ 2560 ∧ a.1 = sumZ (fun j => b2i (0 < σ 116 j)) a.2) ?_ (0, 0) ?_
  · intro ⟨n, k⟩ ⟨hk0, hk1, hn⟩ ih
    dsimp only at hk0 hk1 hn ⊢
    have hs := sumZ_bd (f := fun j => b2i (0 < σ 116 j)) (c := 1) hk0 (fun i hi0 hi1 => b2i_bd)
    refine R_iload rfl rfl ?_
    refine R_push rfl ?_
    refine R_ic rfl (fun h8 => ?_) (fun h8 => ?_)
    · try simp only [ne_eq, b2i_e, b2i_1, Classical.not_not] at h8
      refine R_iload rfl rfl ?_
      refine R_iret rfl ?_
      exact hE _ (by congr 1; rw [hn]; congr 1; omega)
    · try simp only [ne_eq, b2i_e, b2i_1, Classical.not_not] at h8
      refine R_iload rfl rfl ?_
      refine R_aload rfl rfl rfl ?_
      refine T_getr (v := 132) rfl rfl rfl rfl ?_
      refine R_iload rfl rfl ?_
      refine T_ald rfl rfl (by omega) (by omega) ?_
      refine R_if rfl (fun h18 => ?_) (fun h18 => ?_)
      · try simp only [ne_eq, b2i_e, b2i_1, Classical.not_not] at h18
        refine R_push rfl ?_
        refine R_add rfl (by omega) (by omega) ?_
        refine R_istore rfl rfl ?_
        refine R_inc rfl rfl (by omega) (by omega) ?_
        refine R_goto rfl ?_
        exact ih (_, _) ⟨by dsimp only; omega, by dsimp only; omega, by dsimp only; rw [sumZ_s hk0]; first | omega | (rw [b2i_t (by omega)]; omega) | (rw [b2i_f (by omega)]; omega) | (rw [if_pos (by omega)]; omega) | (rw [if_neg (by omega)]; omega)⟩ (by dsimp only; omega)
      · try simp only [ne_eq, b2i_e, b2i_1, Classical.not_not] at h18
        refine R_push rfl ?_
        refine R_goto rfl ?_
        refine R_add rfl (by omega) (by omega) ?_
        refine R_istore rfl rfl ?_
        refine R_inc rfl rfl (by omega) (by omega) ?_
        refine R_goto rfl ?_
        exact ih (_, _) ⟨by dsimp only; omega, by dsimp only; omega, by dsimp only; rw [sumZ_s hk0]; first | omega | (rw [b2i_t (by omega)]; omega) | (rw [b2i_f (by omega)]; omega) | (rw [if_pos (by omega)]; omega) | (rw [if_neg (by omega)]; omega)⟩ (by dsimp only; omega)
  · exact ⟨Int.le_refl _, (by omega), sumZ_0.symm⟩
set_option maxRecDepth 20000 in
set_option maxHeartbeats 2000000 in
theorem sp_X10_mayCome (d : Nat) (hd : 1 ≤ d) (xs : List (Nat × Nat)) (t dd rr : Nat) (σ : Sg) (k done : Int) (hk : 0 ≤ k ∧ k < 12) : Ev d 100 [(87, 0), (0, k), (0, done)] (Wd xs t dd rr σ) (0, b2i (pAnd (pShr done k) 1 = 0 ∧ pAnd (σ 114 k) (pXor done (-1)) = 0)) (Wd xs t dd rr σ) := by
  obtain ⟨d, rfl⟩ : ∃ e, d = e + 1 := ⟨d - 1, by omega⟩
  refine evP (nL := 3) (code := k_X10_mayCome) rfl pb0 rfl (fun E hE => ?_)
  show pCm (Ev d) k_X10_mayCome E 0 [(87, 0), (0, k), (0, done)] [] _
  refine R_iload rfl rfl ?_
  refine R_iload rfl rfl ?_
  refine R_bin rfl ?_
  refine R_push rfl ?_
  refine R_bin rfl ?_
  refine R_if rfl (fun h5 => ?_) (fun h5 => ?_)
  · try simp only [ne_eq, b2i_e, b2i_1, Classical.not_not] at h5
    refine R_push rfl ?_
    refine R_zret rfl (by first | exact Or.inl rfl | exact Or.inr rfl | omega | grind) ?_
    exact hE _ (by first | rfl | (congr 1; first | rw [b2i_t (by omega)] | rw [b2i_f (by omega)]))
  · try simp only [ne_eq, b2i_e, b2i_1, Classical.not_not] at h5
    refine R_aload rfl rfl rfl ?_
    refine T_getr (v := 130) rfl rfl rfl rfl ?_
    refine R_iload rfl rfl ?_
    refine T_ald rfl rfl (by omega) (by omega) ?_
    refine R_iload rfl rfl ?_
    refine R_push rfl ?_
    refine R_bin rfl ?_
    refine R_bin rfl ?_
    refine R_if rfl (fun h18 => ?_) (fun h18 => ?_)
    · try simp only [ne_eq, b2i_e, b2i_1, Classical.not_not] at h18
      refine R_push rfl ?_
      refine R_zret rfl (by first | exact Or.inl rfl | exact Or.inr rfl | omega | grind) ?_
      exact hE _ (by first | rfl | (congr 1; first | rw [b2i_t (by omega)] | rw [b2i_f (by omega)]))
    · try simp only [ne_eq, b2i_e, b2i_1, Classical.not_not] at h18
      refine R_push rfl ?_
      refine R_goto rfl ?_
      refine R_zret rfl (by first | exact Or.inl rfl | exact Or.inr rfl | omega | grind) ?_
      exact hE _ (by first | rfl | (congr 1; first | rw [b2i_t (by omega)] | rw [b2i_f (by omega)]))
set_option maxRecDepth 20000 in
set_option maxHeartbeats 2000000 in
theorem sp_X10_loose (d : Nat) (hd : 1 ≤ d) (xs : List (Nat × Nat)) (t dd rr : Nat) (σ : Sg) (p : Int) (hp : 0 ≤ p ∧ p < 40) (hz : 1 ≤ σ 89 p ∧ σ 89 p ≤ 200) : Ev d 112 [(87, 0), (0, p)] (Wd xs t dd rr σ) (0, 10 + 400 / σ 89 p) (Wd xs t dd rr σ) := by
  obtain ⟨d, rfl⟩ : ∃ e, d = e + 1 := ⟨d - 1, by omega⟩
  have hq : 0 ≤ 400 / σ 89 p ∧ 400 / σ 89 p ≤ 400 := ⟨Int.ediv_nonneg (by omega) (by omega), Int.ediv_le_self _ (by omega)⟩
  refine evP (nL := 2) (code := k_X10_loose) rfl pb0 rfl (fun E hE => ?_)
  show pCm (Ev d) k_X10_loose E 0 [(87, 0), (0, p)] [] _
  refine R_push rfl ?_
  refine R_push rfl ?_
  refine R_aload rfl rfl rfl ?_
  refine T_getr (v := 105) rfl rfl rfl rfl ?_
  refine R_iload rfl rfl ?_
  refine T_ald rfl rfl (by omega) (by omega) ?_
  refine R_dv rfl (by omega) (by omega) (by omega) ?_
  refine R_add rfl (by omega) (by omega) ?_
  refine R_iret rfl ?_
  exact hE _ (by first | rfl | (congr 1 <;> omega) | grind)
set_option maxRecDepth 20000 in
set_option maxHeartbeats 2000000 in
theorem sp_X10_wayTo (d : Nat) (hd : 2 ≤ d) (xs : List (Nat × Nat)) (t dd rr : Nat) (σ : Sg) (p c : Int) (hp : 0 ≤ p ∧ p < 40) (hc : 0 ≤ c ∧ c < 100) (hx : 0 ≤ σ 90 p ∧ σ 90 p ≤ 999) (hy : 0 ≤ σ 91 p ∧ σ 91 p ≤ 999) : Ev d 113 [(87, 0), (0, p), (0, c)] (Wd xs t dd rr σ) (0, max (if σ 90 p < 100 * (c % 10) + 50 then 100 * (c % 10) + 50 - σ 90 p else σ 90 p - (100 * (c % 10) + 50)) (if σ 91 p < 100 * (c / 10) + 50 then 100 * (c / 10) + 50 - σ 91 p else σ 91 p - (100 * (c / 10) + 50))) (Wd xs t dd rr σ) := by
  obtain ⟨d, rfl⟩ : ∃ e, d = e + 1 := ⟨d - 1, by omega⟩
  refine evP (nL := 5) (code := k_X10_wayTo) rfl pb0 rfl (fun E hE => ?_)
  show pCm (Ev d) k_X10_wayTo E 0 [(87, 0), (0, p), (0, c), (9, 0), (9, 0)] [] _
  refine R_aload rfl rfl rfl ?_
  refine T_getr (v := 106) rfl rfl rfl rfl ?_
  refine R_iload rfl rfl ?_
  refine T_ald rfl rfl (by omega) (by omega) ?_
  refine R_push rfl ?_
  refine R_iload rfl rfl ?_
  refine R_push rfl ?_
  refine R_rm rfl (by omega) (by omega) (by omega) ?_
  refine R_mul rfl (by omega) (by omega) ?_
  refine R_push rfl ?_
  refine R_add rfl (by omega) (by omega) ?_
  refine R_inv rfl rfl rfl rfl rfl (sp_X10_far d (by omega) (Wd xs t dd rr σ) _ _ ⟨by omega, by omega⟩ ⟨by omega, by omega⟩) rfl ?_
  show pCm _ _ _ 19 _ [(0, _)] _
  refine R_istore rfl rfl ?_
  refine R_aload rfl rfl rfl ?_
  refine T_getr (v := 107) rfl rfl rfl rfl ?_
  refine R_iload rfl rfl ?_
  refine T_ald rfl rfl (by omega) (by omega) ?_
  refine R_push rfl ?_
  refine R_iload rfl rfl ?_
  refine R_push rfl ?_
  refine R_dv rfl (by omega) (by omega) (by omega) ?_
  refine R_mul rfl (by omega) (by omega) ?_
  refine R_push rfl ?_
  refine R_add rfl (by omega) (by omega) ?_
  refine R_inv rfl rfl rfl rfl rfl (sp_X10_far d (by omega) (Wd xs t dd rr σ) _ _ ⟨by omega, by omega⟩ ⟨by omega, by omega⟩) rfl ?_
  show pCm _ _ _ 39 _ [(0, _)] _
  refine R_istore rfl rfl ?_
  refine R_iload rfl rfl ?_
  refine R_iload rfl rfl ?_
  refine R_ic rfl (fun h44 => ?_) (fun h44 => ?_)
  · try simp only [ne_eq, b2i_e, b2i_1, Classical.not_not] at h44
    refine R_iload rfl rfl ?_
    refine R_iret rfl ?_
    exact hE _ (by congr 1; omega)
  · try simp only [ne_eq, b2i_e, b2i_1, Classical.not_not] at h44
    refine R_iload rfl rfl ?_
    refine R_goto rfl ?_
    refine R_iret rfl ?_
    exact hE _ (by congr 1; omega)
set_option maxRecDepth 20000 in
set_option maxHeartbeats 2000000 in
theorem sp_X10_pushed (d : Nat) (hd : 1 ≤ d) (w : pW) (v f by_ : Int) (hv : 0 ≤ v ∧ v ≤ 999) (hb : 0 ≤ by_ ∧ by_ ≤ 100000) : Ev d 118 [(0, v), (0, f), (0, by_)] w (0, if v < f then max 0 (v - by_) else min 999 (v + by_)) w := by
  obtain ⟨d, rfl⟩ : ∃ e, d = e + 1 := ⟨d - 1, by omega⟩
  refine evP (nL := 4) (code := k_X10_pushed) rfl ⟨Nat.le_refl _, Nat.le_refl _⟩ rfl (fun E hE => ?_)
  show pCm (Ev d) k_X10_pushed E 0 [(0, v), (0, f), (0, by_), (9, 0)] [] _
  refine R_iload rfl rfl ?_
  refine R_iload rfl rfl ?_
  refine R_ic rfl (fun h2 => ?_) (fun h2 => ?_)
  · try simp only [ne_eq, b2i_e, b2i_1, Classical.not_not] at h2
    refine R_iload rfl rfl ?_
    refine R_iload rfl rfl ?_
    refine R_add rfl (by omega) (by omega) ?_
    refine R_istore rfl rfl ?_
    refine R_iload rfl rfl ?_
    refine R_if rfl (fun h16 => ?_) (fun h16 => ?_)
    · try simp only [ne_eq, b2i_e, b2i_1, Classical.not_not] at h16
      refine R_iload rfl rfl ?_
      refine R_push rfl ?_
      refine R_ic rfl (fun h27 => ?_) (fun h27 => ?_)
      · try simp only [ne_eq, b2i_e, b2i_1, Classical.not_not] at h27
        refine R_iload rfl rfl ?_
        refine R_iret rfl ?_
        exact hE _ (by congr 1; split <;> omega)
      · try simp only [ne_eq, b2i_e, b2i_1, Classical.not_not] at h27
        refine R_push rfl ?_
        refine R_goto rfl ?_
        refine R_iret rfl ?_
        exact hE _ (by congr 1; split <;> omega)
    · try simp only [ne_eq, b2i_e, b2i_1, Classical.not_not] at h16
      refine R_push rfl ?_
      refine R_goto rfl ?_
      refine R_iret rfl ?_
      exact hE _ (by congr 1; split <;> omega)
  · try simp only [ne_eq, b2i_e, b2i_1, Classical.not_not] at h2
    refine R_iload rfl rfl ?_
    refine R_iload rfl rfl ?_
    refine R_sub rfl (by omega) (by omega) ?_
    refine R_goto rfl ?_
    refine R_istore rfl rfl ?_
    refine R_iload rfl rfl ?_
    refine R_if rfl (fun h16 => ?_) (fun h16 => ?_)
    · try simp only [ne_eq, b2i_e, b2i_1, Classical.not_not] at h16
      refine R_iload rfl rfl ?_
      refine R_push rfl ?_
      refine R_ic rfl (fun h27 => ?_) (fun h27 => ?_)
      · try simp only [ne_eq, b2i_e, b2i_1, Classical.not_not] at h27
        refine R_iload rfl rfl ?_
        refine R_iret rfl ?_
        exact hE _ (by congr 1; split <;> omega)
      · try simp only [ne_eq, b2i_e, b2i_1, Classical.not_not] at h27
        refine R_push rfl ?_
        refine R_goto rfl ?_
        refine R_iret rfl ?_
        exact hE _ (by congr 1; split <;> omega)
    · try simp only [ne_eq, b2i_e, b2i_1, Classical.not_not] at h16
      refine R_push rfl ?_
      refine R_goto rfl ?_
      refine R_iret rfl ?_
      exact hE _ (by congr 1; split <;> omega)
set_option maxRecDepth 20000 in
set_option maxHeartbeats 2000000 in
theorem sp_X10_isFace (d : Nat) (hd : 2 ≤ d) (xs : List (Nat × Nat)) (t dd rr : Nat) (σ : Sg) (f P : Int) (hP : σ 71 26 = P) (h0 : 0 ≤ P ∧ P ≤ 40) (hf : f < 2147483648) : Ev d 70 [(87, 0), (0, f)] (Wd xs t dd rr σ) (0, b2i (0 ≤ f ∧ f / 8 < P ∧ f % 8 < σ 98 (f / 8))) (Wd xs t dd rr σ) := by
  obtain ⟨d, rfl⟩ : ∃ e, d = e + 1 := ⟨d - 1, by omega⟩
  refine evP (nL := 2) (code := k_X10_isFace) rfl pb0 rfl (fun E hE => ?_)
  show pCm (Ev d) k_X10_isFace E 0 [(87, 0), (0, f)] [] _
  refine R_iload rfl rfl ?_
  refine R_if rfl (fun h1 => ?_) (fun h1 => ?_)
  · try simp only [ne_eq, b2i_e, b2i_1, Classical.not_not] at h1
    refine R_push rfl ?_
    refine R_zret rfl (by first | exact Or.inl rfl | exact Or.inr rfl | omega | grind) ?_
    exact hE _ (by first | rfl | (congr 1; first | rw [b2i_t (by omega)] | rw [b2i_f (by omega)]))
  · try simp only [ne_eq, b2i_e, b2i_1, Classical.not_not] at h1
    refine R_aload rfl rfl rfl ?_
    refine R_iload rfl rfl ?_
    refine R_push rfl ?_
    refine R_dv rfl (by omega) (by omega) (by omega) ?_
    refine R_invv rfl rfl rfl rfl rfl rfl (sp_X10_isPiece d (by omega) xs t dd rr σ (f / 8) P hP) rfl ?_
    show pCm _ _ _ 12 _ [(0, _)] _
    refine R_if rfl (fun h12 => ?_) (fun h12 => ?_)
    · try simp only [ne_eq, b2i_e, b2i_1, Classical.not_not] at h12
      refine R_push rfl ?_
      refine R_zret rfl (by first | exact Or.inl rfl | exact Or.inr rfl | omega | grind) ?_
      exact hE _ (by first | rfl | (congr 1; first | rw [b2i_t (by omega)] | rw [b2i_f (by omega)]))
    · try simp only [ne_eq, b2i_e, b2i_1, Classical.not_not] at h12
      refine R_iload rfl rfl ?_
      refine R_push rfl ?_
      refine R_rm rfl (by omega) (by omega) (by omega) ?_
      refine R_aload rfl rfl rfl ?_
      refine T_getr (v := 114) rfl rfl rfl rfl ?_
      refine R_iload rfl rfl ?_
      refine R_push rfl ?_
      refine R_dv rfl (by omega) (by omega) (by omega) ?_
      refine T_ald rfl rfl (by omega) (by omega) ?_
      refine R_ic rfl (fun h28 => ?_) (fun h28 => ?_)
      · try simp only [ne_eq, b2i_e, b2i_1, Classical.not_not] at h28
        refine R_push rfl ?_
        refine R_zret rfl (by first | exact Or.inl rfl | exact Or.inr rfl | omega | grind) ?_
        exact hE _ (by first | rfl | (congr 1; first | rw [b2i_t (by omega)] | rw [b2i_f (by omega)]))
      · try simp only [ne_eq, b2i_e, b2i_1, Classical.not_not] at h28
        refine R_push rfl ?_
        refine R_goto rfl ?_
        refine R_zret rfl (by first | exact Or.inl rfl | exact Or.inr rfl | omega | grind) ?_
        exact hE _ (by first | rfl | (congr 1; first | rw [b2i_t (by omega)] | rw [b2i_f (by omega)]))
set_option maxRecDepth 20000 in
set_option maxHeartbeats 2000000 in
theorem sp_X4_has (d : Nat) (hd : 1 ≤ d) (xs : List (Nat × Nat)) (t dd rr : Nat) (σ : Sg) (j J : Int) (hJ : σ 21 0 = J) : Ev d 192 [(37, 0), (0, j)] (Wd xs t dd rr σ) (0, b2i (0 ≤ j ∧ j < J)) (Wd xs t dd rr σ) := by
  obtain ⟨d, rfl⟩ : ∃ e, d = e + 1 := ⟨d - 1, by omega⟩
  refine evP (nL := 2) (code := k_X4_has) rfl pb0 rfl (fun E hE => ?_)
  show pCm (Ev d) k_X4_has E 0 [(37, 0), (0, j)] [] _
  refine R_iload rfl rfl ?_
  refine R_if rfl (fun h1 => ?_) (fun h1 => ?_)
  · try simp only [ne_eq, b2i_e, b2i_1, Classical.not_not] at h1
    refine R_push rfl ?_
    refine R_zret rfl (by first | exact Or.inl rfl | exact Or.inr rfl | omega | grind) ?_
    exact hE _ (by unfold b2i; congr 1; split <;> omega)
  · try simp only [ne_eq, b2i_e, b2i_1, Classical.not_not] at h1
    refine R_iload rfl rfl ?_
    refine R_aload rfl rfl rfl ?_
    refine T_geti rfl rfl rfl ?_
    refine R_ic rfl (fun h9 => ?_) (fun h9 => ?_)
    · try simp only [ne_eq, b2i_e, b2i_1, Classical.not_not] at h9
      refine R_push rfl ?_
      refine R_zret rfl (by first | exact Or.inl rfl | exact Or.inr rfl | omega | grind) ?_
      exact hE _ (by unfold b2i; congr 1; split <;> omega)
    · try simp only [ne_eq, b2i_e, b2i_1, Classical.not_not] at h9
      refine R_push rfl ?_
      refine R_goto rfl ?_
      refine R_zret rfl (by first | exact Or.inl rfl | exact Or.inr rfl | omega | grind) ?_
      exact hE _ (by unfold b2i; congr 1; split <;> omega)
set_option maxRecDepth 20000 in
set_option maxHeartbeats 2000000 in
theorem sp_X4_stands (d : Nat) (hd : 2 ≤ d) (xs : List (Nat × Nat)) (t dd rr : Nat) (σ : Sg) (j J : Int) (hJ : σ 21 0 = J) (h0 : J ≤ 80) : Ev d 193 [(37, 0), (0, j)] (Wd xs t dd rr σ) (0, b2i ((0 ≤ j ∧ j < J) ∧ σ 26 j = -1)) (Wd xs t dd rr σ) := by
  obtain ⟨d, rfl⟩ : ∃ e, d = e + 1 := ⟨d - 1, by omega⟩
  refine evP (nL := 2) (code := k_X4_stands) rfl pb0 rfl (fun E hE => ?_)
  show pCm (Ev d) k_X4_stands E 0 [(37, 0), (0, j)] [] _
  refine R_aload rfl rfl rfl ?_
  refine R_iload rfl rfl ?_
  refine R_invv rfl rfl rfl rfl rfl rfl (sp_X4_has d (by omega) xs t dd rr σ j J hJ) rfl ?_
  show pCm _ _ _ 5 _ [(0, _)] _
  refine R_if rfl (fun h5 => ?_) (fun h5 => ?_)
  · try simp only [ne_eq, b2i_e, b2i_1, Classical.not_not] at h5
    refine R_push rfl ?_
    refine R_zret rfl (by first | exact Or.inl rfl | exact Or.inr rfl | omega | grind) ?_
    exact hE _ (by first | rfl | (congr 1; first | rw [b2i_t (by omega)] | rw [b2i_f (by omega)]))
  · try simp only [ne_eq, b2i_e, b2i_1, Classical.not_not] at h5
    refine R_aload rfl rfl rfl ?_
    refine T_getr (v := 42) rfl rfl rfl rfl ?_
    refine R_iload rfl rfl ?_
    refine T_ald rfl rfl (by omega) (by omega) ?_
    refine R_push rfl ?_
    refine R_ic rfl (fun h15 => ?_) (fun h15 => ?_)
    · try simp only [ne_eq, b2i_e, b2i_1, Classical.not_not] at h15
      refine R_push rfl ?_
      refine R_zret rfl (by first | exact Or.inl rfl | exact Or.inr rfl | omega | grind) ?_
      exact hE _ (by first | rfl | (congr 1; first | rw [b2i_t (by omega)] | rw [b2i_f (by omega)]))
    · try simp only [ne_eq, b2i_e, b2i_1, Classical.not_not] at h15
      refine R_push rfl ?_
      refine R_goto rfl ?_
      refine R_zret rfl (by first | exact Or.inl rfl | exact Or.inr rfl | omega | grind) ?_
      exact hE _ (by first | rfl | (congr 1; first | rw [b2i_t (by omega)] | rw [b2i_f (by omega)]))
set_option maxRecDepth 20000 in
set_option maxHeartbeats 2000000 in
theorem sp_X4_stoodOn (d : Nat) (hd : 1 ≤ d) (xs : List (Nat × Nat)) (t dd rr : Nat) (σ : Sg) (j day : Int) (hj : 0 ≤ j ∧ j < 80) : Ev d 194 [(37, 0), (0, j), (0, day)] (Wd xs t dd rr σ) (0, b2i (σ 25 j ≤ day ∧ (σ 26 j = -1 ∨ day < σ 26 j))) (Wd xs t dd rr σ) := by
  obtain ⟨d, rfl⟩ : ∃ e, d = e + 1 := ⟨d - 1, by omega⟩
  refine evP (nL := 3) (code := k_X4_stoodOn) rfl pb0 rfl (fun E hE => ?_)
  show pCm (Ev d) k_X4_stoodOn E 0 [(37, 0), (0, j), (0, day)] [] _
  refine R_aload rfl rfl rfl ?_
  refine T_getr (v := 41) rfl rfl rfl rfl ?_
  refine R_iload rfl rfl ?_
  refine T_ald rfl rfl (by omega) (by omega) ?_
  refine R_iload rfl rfl ?_
  refine R_ic rfl (fun h7 => ?_) (fun h7 => ?_)
  · try simp only [ne_eq, b2i_e, b2i_1, Classical.not_not] at h7
    refine R_push rfl ?_
    refine R_zret rfl (by first | exact Or.inl rfl | exact Or.inr rfl | omega | grind) ?_
    exact hE _ (by first | rfl | (congr 1; first | rw [b2i_t (by omega)] | rw [b2i_f (by omega)]))
  · try simp only [ne_eq, b2i_e, b2i_1, Classical.not_not] at h7
    refine R_aload rfl rfl rfl ?_
    refine T_getr (v := 42) rfl rfl rfl rfl ?_
    refine R_iload rfl rfl ?_
    refine T_ald rfl rfl (by omega) (by omega) ?_
    refine R_push rfl ?_
    refine R_ic rfl (fun h17 => ?_) (fun h17 => ?_)
    · try simp only [ne_eq, b2i_e, b2i_1, Classical.not_not] at h17
      refine R_push rfl ?_
      refine R_goto rfl ?_
      refine R_zret rfl (by first | exact Or.inl rfl | exact Or.inr rfl | omega | grind) ?_
      exact hE _ (by first | rfl | (congr 1; first | rw [b2i_t (by omega)] | rw [b2i_f (by omega)]))
    · try simp only [ne_eq, b2i_e, b2i_1, Classical.not_not] at h17
      refine R_aload rfl rfl rfl ?_
      refine T_getr (v := 42) rfl rfl rfl rfl ?_
      refine R_iload rfl rfl ?_
      refine T_ald rfl rfl (by omega) (by omega) ?_
      refine R_iload rfl rfl ?_
      refine R_ic rfl (fun h27 => ?_) (fun h27 => ?_)
      · try simp only [ne_eq, b2i_e, b2i_1, Classical.not_not] at h27
        refine R_push rfl ?_
        refine R_zret rfl (by first | exact Or.inl rfl | exact Or.inr rfl | omega | grind) ?_
        exact hE _ (by first | rfl | (congr 1; first | rw [b2i_t (by omega)] | rw [b2i_f (by omega)]))
      · try simp only [ne_eq, b2i_e, b2i_1, Classical.not_not] at h27
        refine R_push rfl ?_
        refine R_goto rfl ?_
        refine R_zret rfl (by first | exact Or.inl rfl | exact Or.inr rfl | omega | grind) ?_
        exact hE _ (by first | rfl | (congr 1; first | rw [b2i_t (by omega)] | rw [b2i_f (by omega)]))
set_option maxRecDepth 20000 in
set_option maxHeartbeats 2000000 in
theorem sp_X4_partner (d : Nat) (hd : 1 ≤ d) (xs : List (Nat × Nat)) (t dd rr : Nat) (σ : Sg) (j f J : Int) (hJ : σ 21 0 = J) (h0 : J ≤ 80) : Ev d 196 [(37, 0), (0, j), (0, f)] (Wd xs t dd rr σ) (0, if 0 ≤ j ∧ j < J then (if σ 22 j = f then σ 23 j else σ 22 j) else -1) (Wd xs t dd rr σ) := by
  obtain ⟨d, rfl⟩ : ∃ e, d = e + 1 := ⟨d - 1, by omega⟩
  refine evP (nL := 3) (code := k_X4_partner) rfl pb0 rfl (fun E hE => ?_)
  show pCm (Ev d) k_X4_partner E 0 [(37, 0), (0, j), (0, f)] [] _
  refine R_iload rfl rfl ?_
  refine R_if rfl (fun h1 => ?_) (fun h1 => ?_)
  · try simp only [ne_eq, b2i_e, b2i_1, Classical.not_not] at h1
    refine R_push rfl ?_
    refine R_iret rfl ?_
    exact hE _ (by congr 1; repeat' split <;> omega)
  · try simp only [ne_eq, b2i_e, b2i_1, Classical.not_not] at h1
    refine R_iload rfl rfl ?_
    refine R_aload rfl rfl rfl ?_
    refine T_geti rfl rfl rfl ?_
    refine R_ic rfl (fun h9 => ?_) (fun h9 => ?_)
    · try simp only [ne_eq, b2i_e, b2i_1, Classical.not_not] at h9
      refine R_aload rfl rfl rfl ?_
      refine T_getr (v := 38) rfl rfl rfl rfl ?_
      refine R_iload rfl rfl ?_
      refine T_ald rfl rfl (by omega) (by omega) ?_
      refine R_iload rfl rfl ?_
      refine R_ic rfl (fun h21 => ?_) (fun h21 => ?_)
      · try simp only [ne_eq, b2i_e, b2i_1, Classical.not_not] at h21
        refine R_aload rfl rfl rfl ?_
        refine T_getr (v := 38) rfl rfl rfl rfl ?_
        refine R_iload rfl rfl ?_
        refine T_ald rfl rfl (by omega) (by omega) ?_
        refine R_iret rfl ?_
        exact hE _ (by congr 1; repeat' split <;> omega)
      · try simp only [ne_eq, b2i_e, b2i_1, Classical.not_not] at h21
        refine R_aload rfl rfl rfl ?_
        refine T_getr (v := 39) rfl rfl rfl rfl ?_
        refine R_iload rfl rfl ?_
        refine T_ald rfl rfl (by omega) (by omega) ?_
        refine R_goto rfl ?_
        refine R_iret rfl ?_
        exact hE _ (by congr 1; repeat' split <;> omega)
    · try simp only [ne_eq, b2i_e, b2i_1, Classical.not_not] at h9
      refine R_push rfl ?_
      refine R_iret rfl ?_
      exact hE _ (by congr 1; repeat' split <;> omega)
set_option maxRecDepth 20000 in
set_option maxHeartbeats 2000000 in
theorem sp_X4_neighbour (d : Nat) (hd : 1 ≤ d) (xs : List (Nat × Nat)) (t dd rr : Nat) (σ : Sg) (j p : Int) (hj : 0 ≤ j ∧ j < 80) (ha : 0 ≤ σ 22 j ∧ σ 22 j < 320) (hb : 0 ≤ σ 23 j ∧ σ 23 j < 320) : Ev d 197 [(37, 0), (0, j), (0, p)] (Wd xs t dd rr σ) (0, if σ 22 j / 8 = p then σ 23 j / 8 else if σ 23 j / 8 = p then σ 22 j / 8 else -1) (Wd xs t dd rr σ) := by
  obtain ⟨d, rfl⟩ : ∃ e, d = e + 1 := ⟨d - 1, by omega⟩
  refine evP (nL := 3) (code := k_X4_neighbour) rfl pb0 rfl (fun E hE => ?_)
  show pCm (Ev d) k_X4_neighbour E 0 [(37, 0), (0, j), (0, p)] [] _
  refine R_aload rfl rfl rfl ?_
  refine T_getr (v := 38) rfl rfl rfl rfl ?_
  refine R_iload rfl rfl ?_
  refine T_ald rfl rfl (by omega) (by omega) ?_
  refine R_push rfl ?_
  refine R_dv rfl (by omega) (by omega) (by omega) ?_
  refine R_iload rfl rfl ?_
  refine R_ic rfl (fun h10 => ?_) (fun h10 => ?_)
  · try simp only [ne_eq, b2i_e, b2i_1, Classical.not_not] at h10
    refine R_aload rfl rfl rfl ?_
    refine T_getr (v := 39) rfl rfl rfl rfl ?_
    refine R_iload rfl rfl ?_
    refine T_ald rfl rfl (by omega) (by omega) ?_
    refine R_push rfl ?_
    refine R_dv rfl (by omega) (by omega) (by omega) ?_
    refine R_iload rfl rfl ?_
    refine R_ic rfl (fun h33 => ?_) (fun h33 => ?_)
    · try simp only [ne_eq, b2i_e, b2i_1, Classical.not_not] at h33
      refine R_push rfl ?_
      refine R_iret rfl ?_
      exact hE _ (by congr 1; repeat' split <;> omega)
    · try simp only [ne_eq, b2i_e, b2i_1, Classical.not_not] at h33
      refine R_aload rfl rfl rfl ?_
      refine T_getr (v := 38) rfl rfl rfl rfl ?_
      refine R_iload rfl rfl ?_
      refine T_ald rfl rfl (by omega) (by omega) ?_
      refine R_push rfl ?_
      refine R_dv rfl (by omega) (by omega) (by omega) ?_
      refine R_goto rfl ?_
      refine R_iret rfl ?_
      exact hE _ (by congr 1; repeat' split <;> omega)
  · try simp only [ne_eq, b2i_e, b2i_1, Classical.not_not] at h10
    refine R_aload rfl rfl rfl ?_
    refine T_getr (v := 39) rfl rfl rfl rfl ?_
    refine R_iload rfl rfl ?_
    refine T_ald rfl rfl (by omega) (by omega) ?_
    refine R_push rfl ?_
    refine R_dv rfl (by omega) (by omega) (by omega) ?_
    refine R_iret rfl ?_
    exact hE _ (by congr 1; repeat' split <;> omega)
set_option maxRecDepth 20000 in
set_option maxHeartbeats 2000000 in
theorem sp_X4_standing (d : Nat) (hd : 1 ≤ d) (xs : List (Nat × Nat)) (t dd rr : Nat) (σ : Sg) (J : Int) (hJ : σ 21 0 = J) (h0 : 0 ≤ J ∧ J ≤ 80) : Ev d 198 [(37, 0)] (Wd xs t dd rr σ) (0, sumZ (fun j => b2i (σ 26 j = -1)) J) (Wd xs t dd rr σ) := by
  obtain ⟨d, rfl⟩ : ∃ e, d = e + 1 := ⟨d - 1, by omega⟩
  refine evP (nL := 3) (code := k_X4_standing) rfl pb0 rfl (fun E hE => ?_)
  show pCm (Ev d) k_X4_standing E 0 [(37, 0), (9, 0), (9, 0)] [] _
  refine R_push rfl ?_
  refine R_istore rfl rfl ?_
  refine R_push rfl ?_
  refine R_istore rfl rfl ?_
  refine loop (pc := 4) (α := Int × Int) (fun a => (J - a.2).toNat) (fun a => ([(37, 0), (0, a.1), (0, a.2)], Wd xs t dd rr σ)) (fun a => 0 ≤ a.2 ∧ a.2 ≤ J ∧ a.1 = sumZ (fun j => b2i (σ 26 j = -1)) a.2) ?_ (0, 0) ?_
  · intro ⟨n, k⟩ ⟨hk0, hk1, hn⟩ ih
    dsimp only at hk0 hk1 hn ⊢
    have hs := sumZ_bd (f := fun j => b2i (σ 26 j = -1)) (c := 1) hk0 (fun i hi0 hi1 => b2i_bd)
    refine R_iload rfl rfl ?_
    refine R_aload rfl rfl rfl ?_
    refine T_geti rfl rfl rfl ?_
    refine R_ic rfl (fun h9 => ?_) (fun h9 => ?_)
    · try simp only [ne_eq, b2i_e, b2i_1, Classical.not_not] at h9
      refine R_iload rfl rfl ?_
      refine R_iret rfl ?_
      exact hE _ (by congr 1; rw [hn]; congr 1; omega)
    · try simp only [ne_eq, b2i_e, b2i_1, Classical.not_not] at h9
      refine R_aload rfl rfl rfl ?_
      refine T_getr (v := 42) rfl rfl rfl rfl ?_
      refine R_iload rfl rfl ?_
      refine T_ald rfl rfl (by omega) (by omega) ?_
      refine R_push rfl ?_
      refine R_ic rfl (fun h19 => ?_) (fun h19 => ?_)
      · try simp only [ne_eq, b2i_e, b2i_1, Classical.not_not] at h19
        refine R_inc rfl rfl (by omega) (by omega) ?_
        refine R_goto rfl ?_
        exact ih (_, _) ⟨by dsimp only; omega, by dsimp only; omega, by dsimp only; rw [sumZ_s hk0]; first | omega | (rw [b2i_t (by omega)]; omega) | (rw [b2i_f (by omega)]; omega) | (rw [if_pos (by omega)]; omega) | (rw [if_neg (by omega)]; omega)⟩ (by dsimp only; omega)
      · try simp only [ne_eq, b2i_e, b2i_1, Classical.not_not] at h19
        refine R_inc rfl rfl (by omega) (by omega) ?_
        refine R_inc rfl rfl (by omega) (by omega) ?_
        refine R_goto rfl ?_
        exact ih (_, _) ⟨by dsimp only; omega, by dsimp only; omega, by dsimp only; rw [sumZ_s hk0]; first | omega | (rw [b2i_t (by omega)]; omega) | (rw [b2i_f (by omega)]; omega) | (rw [if_pos (by omega)]; omega) | (rw [if_neg (by omega)]; omega)⟩ (by dsimp only; omega)
  · exact ⟨Int.le_refl _, (by omega), sumZ_0.symm⟩
set_option maxRecDepth 20000 in
set_option maxHeartbeats 2000000 in
theorem sp_X1_has (d : Nat) (hd : 1 ≤ d) (xs : List (Nat × Nat)) (t dd rr : Nat) (σ : Sg) (f : Int) (hf : f < 2147483648) : Ev d 152 [(28, 0), (0, f)] (Wd xs t dd rr σ) (0, b2i (0 ≤ f ∧ f < 320 ∧ f % 8 < σ 13 (f / 8))) (Wd xs t dd rr σ) := by
  obtain ⟨d, rfl⟩ : ∃ e, d = e + 1 := ⟨d - 1, by omega⟩
  refine evP (nL := 2) (code := k_X1_has) rfl pb0 rfl (fun E hE => ?_)
  show pCm (Ev d) k_X1_has E 0 [(28, 0), (0, f)] [] _
  refine R_iload rfl rfl ?_
  refine R_if rfl (fun h1 => ?_) (fun h1 => ?_)
  · try simp only [ne_eq, b2i_e, b2i_1, Classical.not_not] at h1
    refine R_push rfl ?_
    refine R_zret rfl (by first | exact Or.inl rfl | exact Or.inr rfl | omega | grind) ?_
    exact hE _ (by first | rfl | (congr 1; first | rw [b2i_t (by omega)] | rw [b2i_f (by omega)]))
  · try simp only [ne_eq, b2i_e, b2i_1, Classical.not_not] at h1
    refine R_iload rfl rfl ?_
    refine R_push rfl ?_
    refine R_ic rfl (fun h8 => ?_) (fun h8 => ?_)
    · try simp only [ne_eq, b2i_e, b2i_1, Classical.not_not] at h8
      refine R_push rfl ?_
      refine R_zret rfl (by first | exact Or.inl rfl | exact Or.inr rfl | omega | grind) ?_
      exact hE _ (by first | rfl | (congr 1; first | rw [b2i_t (by omega)] | rw [b2i_f (by omega)]))
    · try simp only [ne_eq, b2i_e, b2i_1, Classical.not_not] at h8
      refine R_iload rfl rfl ?_
      refine R_push rfl ?_
      refine R_rm rfl (by omega) (by omega) (by omega) ?_
      refine R_aload rfl rfl rfl ?_
      refine T_getr (v := 29) rfl rfl rfl rfl ?_
      refine R_iload rfl rfl ?_
      refine R_push rfl ?_
      refine R_dv rfl (by omega) (by omega) (by omega) ?_
      refine T_ald rfl rfl (by omega) (by omega) ?_
      refine R_ic rfl (fun h24 => ?_) (fun h24 => ?_)
      · try simp only [ne_eq, b2i_e, b2i_1, Classical.not_not] at h24
        refine R_push rfl ?_
        refine R_zret rfl (by first | exact Or.inl rfl | exact Or.inr rfl | omega | grind) ?_
        exact hE _ (by first | rfl | (congr 1; first | rw [b2i_t (by omega)] | rw [b2i_f (by omega)]))
      · try simp only [ne_eq, b2i_e, b2i_1, Classical.not_not] at h24
        refine R_push rfl ?_
        refine R_goto rfl ?_
        refine R_zret rfl (by first | exact Or.inl rfl | exact Or.inr rfl | omega | grind) ?_
        exact hE _ (by first | rfl | (congr 1; first | rw [b2i_t (by omega)] | rw [b2i_f (by omega)]))
set_option maxRecDepth 20000 in
set_option maxHeartbeats 2000000 in
theorem sp_X3_wholesIn (d : Nat) (hd : 1 ≤ d) (xs : List (Nat × Nat)) (t dd rr : Nat) (σ : Sg) (c P : Int) (hP : σ 1 0 = P) (h0 : 0 ≤ P ∧ P ≤ 40) : Ev d 184 [(44, 0), (0, c)] (Wd xs t dd rr σ) (0, sumZ (fun p => b2i (σ 29 p = c ∧ σ 30 p = p)) P) (Wd xs t dd rr σ) := by
  obtain ⟨d, rfl⟩ : ∃ e, d = e + 1 := ⟨d - 1, by omega⟩
  refine evP (nL := 4) (code := k_X3_wholesIn) rfl pb0 rfl (fun E hE => ?_)
  show pCm (Ev d) k_X3_wholesIn E 0 [(44, 0), (0, c), (9, 0), (9, 0)] [] _
  refine R_push rfl ?_
  refine R_istore rfl rfl ?_
  refine R_push rfl ?_
  refine R_istore rfl rfl ?_
  refine loop (pc := 4) (α := Int × Int) (fun a => (P - a.2).toNat) (fun a => ([(44, 0), (0, c), (0, a.1), (0, a.2)], Wd xs t dd rr σ)) (fun a => 0 ≤ a.2 ∧ a.2 ≤ P ∧ a.1 = sumZ (fun p => b2i (σ 29 p = c ∧ σ 30 p = p)) a.2) ?_ (0, 0) ?_
  · intro ⟨n, k⟩ ⟨hk0, hk1, hn⟩ ih
    dsimp only at hk0 hk1 hn ⊢
    have hs := sumZ_bd (f := fun p => b2i (σ 29 p = c ∧ σ 30 p = p)) (c := 1) hk0 (fun i hi0 hi1 => b2i_bd)
    refine R_iload rfl rfl ?_
    refine R_aload rfl rfl rfl ?_
    refine T_getr (v := 17) rfl rfl rfl rfl ?_
    refine T_geti rfl rfl rfl ?_
    refine R_ic rfl (fun h12 => ?_) (fun h12 => ?_)
    · try simp only [ne_eq, b2i_e, b2i_1, Classical.not_not] at h12
      refine R_iload rfl rfl ?_
      refine R_iret rfl ?_
      exact hE _ (by congr 1; rw [hn]; congr 1; omega)
    · try simp only [ne_eq, b2i_e, b2i_1, Classical.not_not] at h12
      refine R_aload rfl rfl rfl ?_
      refine T_getr (v := 45) rfl rfl rfl rfl ?_
      refine R_iload rfl rfl ?_
      refine T_ald rfl rfl (by omega) (by omega) ?_
      refine R_iload rfl rfl ?_
      refine R_ic rfl (fun h22 => ?_) (fun h22 => ?_)
      · try simp only [ne_eq, b2i_e, b2i_1, Classical.not_not] at h22
        refine R_inc rfl rfl (by omega) (by omega) ?_
        refine R_goto rfl ?_
        exact ih (_, _) ⟨by dsimp only; omega, by dsimp only; omega, by dsimp only; rw [sumZ_s hk0]; first | omega | (rw [b2i_t (by omega)]; omega) | (rw [b2i_f (by omega)]; omega) | (rw [if_pos (by omega)]; omega) | (rw [if_neg (by omega)]; omega)⟩ (by dsimp only; omega)
      · try simp only [ne_eq, b2i_e, b2i_1, Classical.not_not] at h22
        refine R_aload rfl rfl rfl ?_
        refine T_getr (v := 46) rfl rfl rfl rfl ?_
        refine R_iload rfl rfl ?_
        refine T_ald rfl rfl (by omega) (by omega) ?_
        refine R_iload rfl rfl ?_
        refine R_ic rfl (fun h32 => ?_) (fun h32 => ?_)
        · try simp only [ne_eq, b2i_e, b2i_1, Classical.not_not] at h32
          refine R_inc rfl rfl (by omega) (by omega) ?_
          refine R_goto rfl ?_
          exact ih (_, _) ⟨by dsimp only; omega, by dsimp only; omega, by dsimp only; rw [sumZ_s hk0]; first | omega | (rw [b2i_t (by omega)]; omega) | (rw [b2i_f (by omega)]; omega) | (rw [if_pos (by omega)]; omega) | (rw [if_neg (by omega)]; omega)⟩ (by dsimp only; omega)
        · try simp only [ne_eq, b2i_e, b2i_1, Classical.not_not] at h32
          refine R_inc rfl rfl (by omega) (by omega) ?_
          refine R_inc rfl rfl (by omega) (by omega) ?_
          refine R_goto rfl ?_
          exact ih (_, _) ⟨by dsimp only; omega, by dsimp only; omega, by dsimp only; rw [sumZ_s hk0]; first | omega | (rw [b2i_t (by omega)]; omega) | (rw [b2i_f (by omega)]; omega) | (rw [if_pos (by omega)]; omega) | (rw [if_neg (by omega)]; omega)⟩ (by dsimp only; omega)
  · exact ⟨Int.le_refl _, (by omega), sumZ_0.symm⟩
set_option maxRecDepth 20000 in
set_option maxHeartbeats 2000000 in
theorem sp_X3_faultsIn (d : Nat) (hd : 1 ≤ d) (xs : List (Nat × Nat)) (t dd rr : Nat) (σ : Sg) (c P : Int) (hP : σ 1 0 = P) (h0 : 0 ≤ P ∧ P ≤ 40) (hf : ∀ p, 0 ≤ p → p < P → 0 ≤ σ 11 p ∧ σ 11 p ≤ 9) : Ev d 185 [(44, 0), (0, c)] (Wd xs t dd rr σ) (0, sumZ (fun p => if σ 29 p = c then σ 11 p else 0) P) (Wd xs t dd rr σ) := by
  obtain ⟨d, rfl⟩ : ∃ e, d = e + 1 := ⟨d - 1, by omega⟩
  refine evP (nL := 4) (code := k_X3_faultsIn) rfl pb0 rfl (fun E hE => ?_)
  show pCm (Ev d) k_X3_faultsIn E 0 [(44, 0), (0, c), (9, 0), (9, 0)] [] _
  refine R_push rfl ?_
  refine R_istore rfl rfl ?_
  refine R_push rfl ?_
  refine R_istore rfl rfl ?_
  refine loop (pc := 4) (α := Int × Int) (fun a => (P - a.2).toNat) (fun a => ([(44, 0), (0, c), (0, a.1), (0, a.2)], Wd xs t dd rr σ)) (fun a => 0 ≤ a.2 ∧ a.2 ≤ P ∧ a.1 = sumZ (fun p => if σ 29 p = c then σ 11 p else 0) a.2) ?_ (0, 0) ?_
  · intro ⟨n, k⟩ ⟨hk0, hk1, hn⟩ ih
    dsimp only at hk0 hk1 hn ⊢
    have hs := sumZ_bd (f := fun p => if σ 29 p = c then σ 11 p else 0) (c := 9) hk0 (fun i hi0 hi1 => by have := hf i hi0 (by omega); split <;> omega)
    have hfk : k < P → 0 ≤ σ 11 k ∧ σ 11 k ≤ 9 := fun q => hf k hk0 q
    refine R_iload rfl rfl ?_
    refine R_aload rfl rfl rfl ?_
    refine T_getr (v := 17) rfl rfl rfl rfl ?_
    refine T_geti rfl rfl rfl ?_
    refine R_ic rfl (fun h12 => ?_) (fun h12 => ?_)
    · try simp only [ne_eq, b2i_e, b2i_1, Classical.not_not] at h12
      refine R_iload rfl rfl ?_
      refine R_iret rfl ?_
      exact hE _ (by congr 1; rw [hn]; congr 1; omega)
    · try simp only [ne_eq, b2i_e, b2i_1, Classical.not_not] at h12
      refine R_aload rfl rfl rfl ?_
      refine T_getr (v := 45) rfl rfl rfl rfl ?_
      refine R_iload rfl rfl ?_
      refine T_ald rfl rfl (by omega) (by omega) ?_
      refine R_iload rfl rfl ?_
      refine R_ic rfl (fun h22 => ?_) (fun h22 => ?_)
      · try simp only [ne_eq, b2i_e, b2i_1, Classical.not_not] at h22
        refine R_inc rfl rfl (by omega) (by omega) ?_
        refine R_goto rfl ?_
        exact ih (_, _) ⟨by dsimp only; omega, by dsimp only; omega, by dsimp only; rw [sumZ_s hk0]; first | omega | (rw [b2i_t (by omega)]; omega) | (rw [b2i_f (by omega)]; omega) | (rw [if_pos (by omega)]; omega) | (rw [if_neg (by omega)]; omega)⟩ (by dsimp only; omega)
      · try simp only [ne_eq, b2i_e, b2i_1, Classical.not_not] at h22
        have hfk := hfk (by omega)
        refine R_iload rfl rfl ?_
        refine R_aload rfl rfl rfl ?_
        refine T_getr (v := 17) rfl rfl rfl rfl ?_
        refine T_getr (v := 27) rfl rfl rfl rfl ?_
        refine R_iload rfl rfl ?_
        refine T_ald rfl rfl (by omega) (by omega) ?_
        refine R_add rfl (by omega) (by omega) ?_
        refine R_istore rfl rfl ?_
        refine R_inc rfl rfl (by omega) (by omega) ?_
        refine R_goto rfl ?_
        exact ih (_, _) ⟨by dsimp only; omega, by dsimp only; omega, by dsimp only; rw [sumZ_s hk0]; first | omega | (rw [b2i_t (by omega)]; omega) | (rw [b2i_f (by omega)]; omega) | (rw [if_pos (by omega)]; omega) | (rw [if_neg (by omega)]; omega)⟩ (by dsimp only; omega)
  · exact ⟨Int.le_refl _, (by omega), sumZ_0.symm⟩
set_option maxRecDepth 20000 in
set_option maxHeartbeats 2000000 in
theorem sp_X3_faultsOfWhole (d : Nat) (hd : 1 ≤ d) (xs : List (Nat × Nat)) (t dd rr : Nat) (σ : Sg) (c P : Int) (hP : σ 1 0 = P) (h0 : 0 ≤ P ∧ P ≤ 40) (hf : ∀ p, 0 ≤ p → p < P → 0 ≤ σ 11 p ∧ σ 11 p ≤ 9) : Ev d 186 [(44, 0), (0, c)] (Wd xs t dd rr σ) (0, sumZ (fun p => if σ 30 p = c then σ 11 p else 0) P) (Wd xs t dd rr σ) := by
  obtain ⟨d, rfl⟩ : ∃ e, d = e + 1 := ⟨d - 1, by omega⟩
  refine evP (nL := 4) (code := k_X3_faultsOfWhole) rfl pb0 rfl (fun E hE => ?_)
  show pCm (Ev d) k_X3_faultsOfWhole E 0 [(44, 0), (0, c), (9, 0), (9, 0)] [] _
  refine R_push rfl ?_
  refine R_istore rfl rfl ?_
  refine R_push rfl ?_
  refine R_istore rfl rfl ?_
  refine loop (pc := 4) (α := Int × Int) (fun a => (P - a.2).toNat) (fun a => ([(44, 0), (0, c), (0, a.1), (0, a.2)], Wd xs t dd rr σ)) (fun a => 0 ≤ a.2 ∧ a.2 ≤ P ∧ a.1 = sumZ (fun p => if σ 30 p = c then σ 11 p else 0) a.2) ?_ (0, 0) ?_
  · intro ⟨n, k⟩ ⟨hk0, hk1, hn⟩ ih
    dsimp only at hk0 hk1 hn ⊢
    have hs := sumZ_bd (f := fun p => if σ 30 p = c then σ 11 p else 0) (c := 9) hk0 (fun i hi0 hi1 => by have := hf i hi0 (by omega); split <;> omega)
    have hfk : k < P → 0 ≤ σ 11 k ∧ σ 11 k ≤ 9 := fun q => hf k hk0 q
    refine R_iload rfl rfl ?_
    refine R_aload rfl rfl rfl ?_
    refine T_getr (v := 17) rfl rfl rfl rfl ?_
    refine T_geti rfl rfl rfl ?_
    refine R_ic rfl (fun h12 => ?_) (fun h12 => ?_)
    · try simp only [ne_eq, b2i_e, b2i_1, Classical.not_not] at h12
      refine R_iload rfl rfl ?_
      refine R_iret rfl ?_
      exact hE _ (by congr 1; rw [hn]; congr 1; omega)
    · try simp only [ne_eq, b2i_e, b2i_1, Classical.not_not] at h12
      refine R_aload rfl rfl rfl ?_
      refine T_getr (v := 46) rfl rfl rfl rfl ?_
      refine R_iload rfl rfl ?_
      refine T_ald rfl rfl (by omega) (by omega) ?_
      refine R_iload rfl rfl ?_
      refine R_ic rfl (fun h22 => ?_) (fun h22 => ?_)
      · try simp only [ne_eq, b2i_e, b2i_1, Classical.not_not] at h22
        refine R_inc rfl rfl (by omega) (by omega) ?_
        refine R_goto rfl ?_
        exact ih (_, _) ⟨by dsimp only; omega, by dsimp only; omega, by dsimp only; rw [sumZ_s hk0]; first | omega | (rw [b2i_t (by omega)]; omega) | (rw [b2i_f (by omega)]; omega) | (rw [if_pos (by omega)]; omega) | (rw [if_neg (by omega)]; omega)⟩ (by dsimp only; omega)
      · try simp only [ne_eq, b2i_e, b2i_1, Classical.not_not] at h22
        have hfk := hfk (by omega)
        refine R_iload rfl rfl ?_
        refine R_aload rfl rfl rfl ?_
        refine T_getr (v := 17) rfl rfl rfl rfl ?_
        refine T_getr (v := 27) rfl rfl rfl rfl ?_
        refine R_iload rfl rfl ?_
        refine T_ald rfl rfl (by omega) (by omega) ?_
        refine R_add rfl (by omega) (by omega) ?_
        refine R_istore rfl rfl ?_
        refine R_inc rfl rfl (by omega) (by omega) ?_
        refine R_goto rfl ?_
        exact ih (_, _) ⟨by dsimp only; omega, by dsimp only; omega, by dsimp only; rw [sumZ_s hk0]; first | omega | (rw [b2i_t (by omega)]; omega) | (rw [b2i_f (by omega)]; omega) | (rw [if_pos (by omega)]; omega) | (rw [if_neg (by omega)]; omega)⟩ (by dsimp only; omega)
  · exact ⟨Int.le_refl _, (by omega), sumZ_0.symm⟩
set_option maxRecDepth 20000 in
set_option maxHeartbeats 2000000 in
theorem sp_X3_greatCobbles (d : Nat) (hd : 1 ≤ d) (xs : List (Nat × Nat)) (t dd rr : Nat) (σ : Sg) (P : Int) (hP : σ 1 0 = P) (h0 : 0 ≤ P ∧ P ≤ 40) : Ev d 187 [(44, 0)] (Wd xs t dd rr σ) (0, sumZ (fun p => b2i (σ 29 p = p ∧ 1 < σ 32 p)) P) (Wd xs t dd rr σ) := by
  obtain ⟨d, rfl⟩ : ∃ e, d = e + 1 := ⟨d - 1, by omega⟩
  refine evP (nL := 3) (code := k_X3_greatCobbles) rfl pb0 rfl (fun E hE => ?_)
  show pCm (Ev d) k_X3_greatCobbles E 0 [(44, 0), (9, 0), (9, 0)] [] _
  refine R_push rfl ?_
  refine R_istore rfl rfl ?_
  refine R_push rfl ?_
  refine R_istore rfl rfl ?_
  refine loop (pc := 4) (α := Int × Int) (fun a => (P - a.2).toNat) (fun a => ([(44, 0), (0, a.1), (0, a.2)], Wd xs t dd rr σ)) (fun a => 0 ≤ a.2 ∧ a.2 ≤ P ∧ a.1 = sumZ (fun p => b2i (σ 29 p = p ∧ 1 < σ 32 p)) a.2) ?_ (0, 0) ?_
  · intro ⟨n, k⟩ ⟨hk0, hk1, hn⟩ ih
    dsimp only at hk0 hk1 hn ⊢
    have hs := sumZ_bd (f := fun p => b2i (σ 29 p = p ∧ 1 < σ 32 p)) (c := 1) hk0 (fun i hi0 hi1 => b2i_bd)
    refine R_iload rfl rfl ?_
    refine R_aload rfl rfl rfl ?_
    refine T_getr (v := 17) rfl rfl rfl rfl ?_
    refine T_geti rfl rfl rfl ?_
    refine R_ic rfl (fun h12 => ?_) (fun h12 => ?_)
    · try simp only [ne_eq, b2i_e, b2i_1, Classical.not_not] at h12
      refine R_iload rfl rfl ?_
      refine R_iret rfl ?_
      exact hE _ (by congr 1; rw [hn]; congr 1; omega)
    · try simp only [ne_eq, b2i_e, b2i_1, Classical.not_not] at h12
      refine R_aload rfl rfl rfl ?_
      refine T_getr (v := 45) rfl rfl rfl rfl ?_
      refine R_iload rfl rfl ?_
      refine T_ald rfl rfl (by omega) (by omega) ?_
      refine R_iload rfl rfl ?_
      refine R_ic rfl (fun h22 => ?_) (fun h22 => ?_)
      · try simp only [ne_eq, b2i_e, b2i_1, Classical.not_not] at h22
        refine R_inc rfl rfl (by omega) (by omega) ?_
        refine R_goto rfl ?_
        exact ih (_, _) ⟨by dsimp only; omega, by dsimp only; omega, by dsimp only; rw [sumZ_s hk0]; first | omega | (rw [b2i_t (by omega)]; omega) | (rw [b2i_f (by omega)]; omega) | (rw [if_pos (by omega)]; omega) | (rw [if_neg (by omega)]; omega)⟩ (by dsimp only; omega)
      · try simp only [ne_eq, b2i_e, b2i_1, Classical.not_not] at h22
        refine R_aload rfl rfl rfl ?_
        refine T_getr (v := 48) rfl rfl rfl rfl ?_
        refine R_iload rfl rfl ?_
        refine T_ald rfl rfl (by omega) (by omega) ?_
        refine R_push rfl ?_
        refine R_ic rfl (fun h32 => ?_) (fun h32 => ?_)
        · try simp only [ne_eq, b2i_e, b2i_1, Classical.not_not] at h32
          refine R_inc rfl rfl (by omega) (by omega) ?_
          refine R_goto rfl ?_
          exact ih (_, _) ⟨by dsimp only; omega, by dsimp only; omega, by dsimp only; rw [sumZ_s hk0]; first | omega | (rw [b2i_t (by omega)]; omega) | (rw [b2i_f (by omega)]; omega) | (rw [if_pos (by omega)]; omega) | (rw [if_neg (by omega)]; omega)⟩ (by dsimp only; omega)
        · try simp only [ne_eq, b2i_e, b2i_1, Classical.not_not] at h32
          refine R_inc rfl rfl (by omega) (by omega) ?_
          refine R_inc rfl rfl (by omega) (by omega) ?_
          refine R_goto rfl ?_
          exact ih (_, _) ⟨by dsimp only; omega, by dsimp only; omega, by dsimp only; rw [sumZ_s hk0]; first | omega | (rw [b2i_t (by omega)]; omega) | (rw [b2i_f (by omega)]; omega) | (rw [if_pos (by omega)]; omega) | (rw [if_neg (by omega)]; omega)⟩ (by dsimp only; omega)
  · exact ⟨Int.le_refl _, (by omega), sumZ_0.symm⟩
set_option maxRecDepth 20000 in
set_option maxHeartbeats 2000000 in
theorem sp_X6_loose (d : Nat) (hd : 1 ≤ d) (xs : List (Nat × Nat)) (t dd rr : Nat) (σ : Sg) (p : Int) (hp : 0 ≤ p ∧ p < 40) (hz : 1 ≤ σ 3 p ∧ σ 3 p ≤ 200) : Ev d 211 [(17, 0), (0, p)] (Wd xs t dd rr σ) (0, 10 + 400 / σ 3 p) (Wd xs t dd rr σ) := by
  obtain ⟨d, rfl⟩ : ∃ e, d = e + 1 := ⟨d - 1, by omega⟩
  have hq : 0 ≤ 400 / σ 3 p ∧ 400 / σ 3 p ≤ 400 := ⟨Int.ediv_nonneg (by omega) (by omega), Int.ediv_le_self _ (by omega)⟩
  refine evP (nL := 2) (code := k_X6_loose) rfl pb0 rfl (fun E hE => ?_)
  show pCm (Ev d) k_X6_loose E 0 [(17, 0), (0, p)] [] _
  refine R_aload rfl rfl rfl ?_
  refine T_getr (v := 19) rfl rfl rfl rfl ?_
  refine R_iload rfl rfl ?_
  refine T_ald rfl rfl (by omega) (by omega) ?_
  refine R_if rfl (fun h6 => ?_) (fun h6 => ?_)
  · try simp only [ne_eq, b2i_e, b2i_1, Classical.not_not] at h6
    refine R_push rfl ?_
    refine R_iret rfl ?_
    exact hE _ (by first | rfl | (congr 1 <;> omega) | grind)
  · try simp only [ne_eq, b2i_e, b2i_1, Classical.not_not] at h6
    refine R_push rfl ?_
    refine R_push rfl ?_
    refine R_aload rfl rfl rfl ?_
    refine T_getr (v := 19) rfl rfl rfl rfl ?_
    refine R_iload rfl rfl ?_
    refine T_ald rfl rfl (by omega) (by omega) ?_
    refine R_dv rfl (by omega) (by omega) (by omega) ?_
    refine R_add rfl (by omega) (by omega) ?_
    refine R_goto rfl ?_
    refine R_iret rfl ?_
    exact hE _ (by first | rfl | (congr 1 <;> omega) | grind)
set_option maxRecDepth 20000 in
set_option maxHeartbeats 2000000 in
theorem sp_X6_stride (d : Nat) (hd : 1 ≤ d) (xs : List (Nat × Nat)) (t dd rr : Nat) (σ : Sg) (p s : Int) (hp : 0 ≤ p ∧ p < 40) (hz : 1 ≤ σ 3 p ∧ σ 3 p ≤ 200) (hs : 0 ≤ s ∧ s ≤ 99) : Ev d 212 [(17, 0), (0, p), (0, s)] (Wd xs t dd rr σ) (0, s * 20 / σ 3 p) (Wd xs t dd rr σ) := by
  obtain ⟨d, rfl⟩ : ∃ e, d = e + 1 := ⟨d - 1, by omega⟩
  refine evP (nL := 3) (code := k_X6_stride) rfl pb0 rfl (fun E hE => ?_)
  show pCm (Ev d) k_X6_stride E 0 [(17, 0), (0, p), (0, s)] [] _
  refine R_aload rfl rfl rfl ?_
  refine T_getr (v := 19) rfl rfl rfl rfl ?_
  refine R_iload rfl rfl ?_
  refine T_ald rfl rfl (by omega) (by omega) ?_
  refine R_if rfl (fun h6 => ?_) (fun h6 => ?_)
  · try simp only [ne_eq, b2i_e, b2i_1, Classical.not_not] at h6
    refine R_push rfl ?_
    refine R_iret rfl ?_
    exact hE _ (by first | rfl | (congr 1 <;> omega) | grind)
  · try simp only [ne_eq, b2i_e, b2i_1, Classical.not_not] at h6
    refine R_iload rfl rfl ?_
    refine R_push rfl ?_
    refine R_mul rfl (by omega) (by omega) ?_
    refine R_aload rfl rfl rfl ?_
    refine T_getr (v := 19) rfl rfl rfl rfl ?_
    refine R_iload rfl rfl ?_
    refine T_ald rfl rfl (by omega) (by omega) ?_
    refine R_dv rfl (by omega) (by omega) (by omega) ?_
    refine R_goto rfl ?_
    refine R_iret rfl ?_
    exact hE _ (by first | rfl | (congr 1 <;> omega) | grind)
set_option maxRecDepth 20000 in
set_option maxHeartbeats 2000000 in
theorem sp_X9_modEight (d : Nat) (hd : 1 ≤ d) (w : pW) (n : Int) : Ev d 30 [(0, n)] w (0, pAnd n 7) w := by
  obtain ⟨d, rfl⟩ : ∃ e, d = e + 1 := ⟨d - 1, by omega⟩
  refine evP (nL := 1) (code := k_X9_modEight) rfl ⟨Nat.le_refl _, Nat.le_refl _⟩ rfl (fun E hE => ?_)
  show pCm (Ev d) k_X9_modEight E 0 [(0, n)] [] _
  refine R_iload rfl rfl ?_
  refine R_push rfl ?_
  refine R_bin rfl ?_
  refine R_iret rfl ?_
  exact hE _ (by first | rfl | (congr 1 <;> omega) | grind)
set_option maxRecDepth 20000 in
set_option maxHeartbeats 2000000 in
theorem sp_J9_max_7cf53 (d : Nat) (hd : 1 ≤ d) (w : pW) (a b : Int) : Ev d 245 [(0, a), (0, b)] w (0, max a b) w := by
  obtain ⟨d, rfl⟩ : ∃ e, d = e + 1 := ⟨d - 1, by omega⟩
  refine evP (nL := 2) (code := k_J9_max_7cf53) rfl ⟨Nat.le_refl _, Nat.le_refl _⟩ rfl (fun E hE => ?_)
  show pCm (Ev d) k_J9_max_7cf53 E 0 [(0, a), (0, b)] [] _
  refine R_iload rfl rfl ?_
  refine R_iload rfl rfl ?_
  refine R_ic rfl (fun h2 => ?_) (fun h2 => ?_)
  · try simp only [ne_eq, b2i_e, b2i_1, Classical.not_not] at h2
    refine R_iload rfl rfl ?_
    refine R_iret rfl ?_
    exact hE _ (by congr 1; omega)
  · try simp only [ne_eq, b2i_e, b2i_1, Classical.not_not] at h2
    refine R_iload rfl rfl ?_
    refine R_goto rfl ?_
    refine R_iret rfl ?_
    exact hE _ (by congr 1; omega)
set_option maxRecDepth 20000 in
set_option maxHeartbeats 2000000 in
theorem sp_J9_min_7cf53 (d : Nat) (hd : 1 ≤ d) (w : pW) (a b : Int) : Ev d 246 [(0, a), (0, b)] w (0, min a b) w := by
  obtain ⟨d, rfl⟩ : ∃ e, d = e + 1 := ⟨d - 1, by omega⟩
  refine evP (nL := 2) (code := k_J9_min_7cf53) rfl ⟨Nat.le_refl _, Nat.le_refl _⟩ rfl (fun E hE => ?_)
  show pCm (Ev d) k_J9_min_7cf53 E 0 [(0, a), (0, b)] [] _
  refine R_iload rfl rfl ?_
  refine R_iload rfl rfl ?_
  refine R_ic rfl (fun h2 => ?_) (fun h2 => ?_)
  · try simp only [ne_eq, b2i_e, b2i_1, Classical.not_not] at h2
    refine R_iload rfl rfl ?_
    refine R_iret rfl ?_
    exact hE _ (by congr 1; omega)
  · try simp only [ne_eq, b2i_e, b2i_1, Classical.not_not] at h2
    refine R_iload rfl rfl ?_
    refine R_goto rfl ?_
    refine R_iret rfl ?_
    exact hE _ (by congr 1; omega)

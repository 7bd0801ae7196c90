set_option maxRecDepth 20000 in
set_option maxHeartbeats 2000000 in
theorem sp_X9_within (d : Nat) (hd : 1 ≤ d) (w : pW) (v lo hi : Int) : Ev d 27 [(0, v), (0, lo), (0, hi)] w (0, b2i (lo ≤ v ∧ v ≤ hi)) w := by
  obtain ⟨d, rfl⟩ : ∃ e, d = e + 1 := ⟨d - 1, by omega⟩
  refine evP (nL := 3) (code := k_X9_within) rfl ⟨Nat.le_refl _, Nat.le_refl _⟩ rfl (fun E hE => ?_)
  show pCm (Ev d) k_X9_within E 0 [(0, v), (0, lo), (0, hi)] [] _
  refine R_iload rfl rfl ?_
  refine R_iload rfl rfl ?_
  refine R_ic rfl (fun h2 => ?_) (fun h2 => ?_)
  · try simp only [ne_eq, b2i_e, b2i_1, Classical.not_not] at h2
    refine R_push rfl ?_
    refine R_zret rfl (by first | exact Or.inl rfl | exact Or.inr rfl | omega | grind) ?_
    exact hE _ (by unfold b2i; congr 1; split <;> omega)
  · try simp only [ne_eq, b2i_e, b2i_1, Classical.not_not] at h2
    refine R_iload rfl rfl ?_
    refine R_iload rfl rfl ?_
    refine R_ic rfl (fun h7 => ?_) (fun h7 => ?_)
    · try simp only [ne_eq, b2i_e, b2i_1, Classical.not_not] at h7
      refine R_push rfl ?_
      refine R_zret rfl (by first | exact Or.inl rfl | exact Or.inr rfl | omega | grind) ?_
      exact hE _ (by unfold b2i; congr 1; split <;> omega)
    · try simp only [ne_eq, b2i_e, b2i_1, Classical.not_not] at h7
      refine R_push rfl ?_
      refine R_goto rfl ?_
      refine R_zret rfl (by first | exact Or.inl rfl | exact Or.inr rfl | omega | grind) ?_
      exact hE _ (by unfold b2i; congr 1; split <;> omega)
set_option maxRecDepth 20000 in
set_option maxHeartbeats 2000000 in
theorem sp_X10_within (d : Nat) (hd : 1 ≤ d) (w : pW) (v lo hi : Int) : Ev d 64 [(0, v), (0, lo), (0, hi)] w (0, b2i (lo ≤ v ∧ v ≤ hi)) w := by
  obtain ⟨d, rfl⟩ : ∃ e, d = e + 1 := ⟨d - 1, by omega⟩
  refine evP (nL := 3) (code := k_X10_within) rfl ⟨Nat.le_refl _, Nat.le_refl _⟩ rfl (fun E hE => ?_)
  show pCm (Ev d) k_X10_within E 0 [(0, v), (0, lo), (0, hi)] [] _
  refine R_iload rfl rfl ?_
  refine R_iload rfl rfl ?_
  refine R_ic rfl (fun h2 => ?_) (fun h2 => ?_)
  · try simp only [ne_eq, b2i_e, b2i_1, Classical.not_not] at h2
    refine R_push rfl ?_
    refine R_zret rfl (by first | exact Or.inl rfl | exact Or.inr rfl | omega | grind) ?_
    exact hE _ (by unfold b2i; congr 1; split <;> omega)
  · try simp only [ne_eq, b2i_e, b2i_1, Classical.not_not] at h2
    refine R_iload rfl rfl ?_
    refine R_iload rfl rfl ?_
    refine R_ic rfl (fun h7 => ?_) (fun h7 => ?_)
    · try simp only [ne_eq, b2i_e, b2i_1, Classical.not_not] at h7
      refine R_push rfl ?_
      refine R_zret rfl (by first | exact Or.inl rfl | exact Or.inr rfl | omega | grind) ?_
      exact hE _ (by unfold b2i; congr 1; split <;> omega)
    · try simp only [ne_eq, b2i_e, b2i_1, Classical.not_not] at h7
      refine R_push rfl ?_
      refine R_goto rfl ?_
      refine R_zret rfl (by first | exact Or.inl rfl | exact Or.inr rfl | omega | grind) ?_
      exact hE _ (by unfold b2i; congr 1; split <;> omega)
set_option maxRecDepth 20000 in
set_option maxHeartbeats 2000000 in
theorem sp_X9_apart (d : Nat) (hd : 1 ≤ d) (w : pW) (a b : Int) (ha : -1000000 ≤ a ∧ a ≤ 1000000) (hb : -1000000 ≤ b ∧ b ≤ 1000000) : Ev d 28 [(0, a), (0, b)] w (0, if a < b then b - a else a - b) w := by
  obtain ⟨d, rfl⟩ : ∃ e, d = e + 1 := ⟨d - 1, by omega⟩
  refine evP (nL := 2) (code := k_X9_apart) rfl ⟨Nat.le_refl _, Nat.le_refl _⟩ rfl (fun E hE => ?_)
  show pCm (Ev d) k_X9_apart E 0 [(0, a), (0, b)] [] _
  refine R_iload rfl rfl ?_
  refine R_iload rfl rfl ?_
  refine R_ic rfl (fun h2 => ?_) (fun h2 => ?_)
  · try simp only [ne_eq, b2i_e, b2i_1, Classical.not_not] at h2
    refine R_iload rfl rfl ?_
    refine R_iload rfl rfl ?_
    refine R_sub rfl (by omega) (by omega) ?_
    refine R_iret rfl ?_
    exact hE _ (by congr 1; split <;> omega)
  · try simp only [ne_eq, b2i_e, b2i_1, Classical.not_not] at h2
    refine R_iload rfl rfl ?_
    refine R_iload rfl rfl ?_
    refine R_sub rfl (by omega) (by omega) ?_
    refine R_goto rfl ?_
    refine R_iret rfl ?_
    exact hE _ (by congr 1; split <;> omega)
set_option maxRecDepth 20000 in
set_option maxHeartbeats 2000000 in
theorem sp_X10_far (d : Nat) (hd : 1 ≤ d) (w : pW) (a b : Int) (ha : -1000000 ≤ a ∧ a ≤ 1000000) (hb : -1000000 ≤ b ∧ b ≤ 1000000) : Ev d 71 [(0, a), (0, b)] w (0, if a < b then b - a else a - b) w := by
  obtain ⟨d, rfl⟩ : ∃ e, d = e + 1 := ⟨d - 1, by omega⟩
  refine evP (nL := 2) (code := k_X10_far) rfl ⟨Nat.le_refl _, Nat.le_refl _⟩ rfl (fun E hE => ?_)
  show pCm (Ev d) k_X10_far E 0 [(0, a), (0, b)] [] _
  refine R_iload rfl rfl ?_
  refine R_iload rfl rfl ?_
  refine R_ic rfl (fun h2 => ?_) (fun h2 => ?_)
  · try simp only [ne_eq, b2i_e, b2i_1, Classical.not_not] at h2
    refine R_iload rfl rfl ?_
    refine R_iload rfl rfl ?_
    refine R_sub rfl (by omega) (by omega) ?_
    refine R_iret rfl ?_
    exact hE _ (by congr 1; split <;> omega)
  · try simp only [ne_eq, b2i_e, b2i_1, Classical.not_not] at h2
    refine R_iload rfl rfl ?_
    refine R_iload rfl rfl ?_
    refine R_sub rfl (by omega) (by omega) ?_
    refine R_goto rfl ?_
    refine R_iret rfl ?_
    exact hE _ (by congr 1; split <;> omega)
set_option maxRecDepth 20000 in
set_option maxHeartbeats 2000000 in
theorem sp_X10_isPiece (d : Nat) (hd : 1 ≤ d) (xs : List (Nat × Nat)) (t dd rr : Nat) (σ : Sg) (p P : Int) (hP : σ 71 26 = P) : Ev d 67 [(87, 0), (0, p)] (Wd xs t dd rr σ) (0, b2i (0 ≤ p ∧ p < P)) (Wd xs t dd rr σ) := by
  obtain ⟨d, rfl⟩ : ∃ e, d = e + 1 := ⟨d - 1, by omega⟩
  refine evP (nL := 2) (code := k_X10_isPiece) rfl pb0 rfl (fun E hE => ?_)
  show pCm (Ev d) k_X10_isPiece E 0 [(87, 0), (0, p)] [] _
  refine R_iload rfl rfl ?_
  refine R_if rfl (fun h1 => ?_) (fun h1 => ?_)
  · try simp only [ne_eq, b2i_e, b2i_1, Classical.not_not] at h1
    refine R_push rfl ?_
    refine R_zret rfl (by first | exact Or.inl rfl | exact Or.inr rfl | omega | grind) ?_
    exact hE _ (by unfold b2i; congr 1; split <;> omega)
  · try simp only [ne_eq, b2i_e, b2i_1, Classical.not_not] at h1
    refine R_iload rfl rfl ?_
    refine R_aload rfl rfl rfl ?_
    refine T_geti rfl rfl rfl ?_
    refine R_ic rfl (fun h9 => ?_) (fun h9 => ?_)
    · try simp only [ne_eq, b2i_e, b2i_1, Classical.not_not] at h9
      refine R_push rfl ?_
      refine R_zret rfl (by first | exact Or.inl rfl | exact Or.inr rfl | omega | grind) ?_
      exact hE _ (by unfold b2i; congr 1; split <;> omega)
    · try simp only [ne_eq, b2i_e, b2i_1, Classical.not_not] at h9
      refine R_push rfl ?_
      refine R_goto rfl ?_
      refine R_zret rfl (by first | exact Or.inl rfl | exact Or.inr rfl | omega | grind) ?_
      exact hE _ (by unfold b2i; congr 1; split <;> omega)
set_option maxRecDepth 20000 in
set_option maxHeartbeats 2000000 in
theorem sp_X6_has (d : Nat) (hd : 1 ≤ d) (xs : List (Nat × Nat)) (t dd rr : Nat) (σ : Sg) (p P : Int) (hP : σ 1 0 = P) : Ev d 210 [(17, 0), (0, p)] (Wd xs t dd rr σ) (0, b2i (0 ≤ p ∧ p < P)) (Wd xs t dd rr σ) := by
  obtain ⟨d, rfl⟩ : ∃ e, d = e + 1 := ⟨d - 1, by omega⟩
  refine evP (nL := 2) (code := k_X6_has) rfl pb0 rfl (fun E hE => ?_)
  show pCm (Ev d) k_X6_has E 0 [(17, 0), (0, p)] [] _
  refine R_iload rfl rfl ?_
  refine R_if rfl (fun h1 => ?_) (fun h1 => ?_)
  · try simp only [ne_eq, b2i_e, b2i_1, Classical.not_not] at h1
    refine R_push rfl ?_
    refine R_zret rfl (by first | exact Or.inl rfl | exact Or.inr rfl | omega | grind) ?_
    exact hE _ (by unfold b2i; congr 1; split <;> omega)
  · try simp only [ne_eq, b2i_e, b2i_1, Classical.not_not] at h1
    refine R_iload rfl rfl ?_
    refine R_aload rfl rfl rfl ?_
    refine T_geti rfl rfl rfl ?_
    refine R_ic rfl (fun h9 => ?_) (fun h9 => ?_)
    · try simp only [ne_eq, b2i_e, b2i_1, Classical.not_not] at h9
      refine R_push rfl ?_
      refine R_zret rfl (by first | exact Or.inl rfl | exact Or.inr rfl | omega | grind) ?_
      exact hE _ (by unfold b2i; congr 1; split <;> omega)
    · try simp only [ne_eq, b2i_e, b2i_1, Classical.not_not] at h9
      refine R_push rfl ?_
      refine R_goto rfl ?_
      refine R_zret rfl (by first | exact Or.inl rfl | exact Or.inr rfl | omega | grind) ?_
      exact hE _ (by unfold b2i; congr 1; split <;> omega)
set_option maxRecDepth 20000 in
set_option maxHeartbeats 2000000 in
theorem sp_X10_isOn (d : Nat) (hd : 1 ≤ d) (xs : List (Nat × Nat)) (t dd rr : Nat) (σ : Sg) (j : Int) (hj : 0 ≤ j ∧ j < 80) : Ev d 80 [(87, 0), (0, j)] (Wd xs t dd rr σ) (0, b2i (σ 106 j = -1)) (Wd xs t dd rr σ) := by
  obtain ⟨d, rfl⟩ : ∃ e, d = e + 1 := ⟨d - 1, by omega⟩
  refine evP (nL := 2) (code := k_X10_isOn) rfl pb0 rfl (fun E hE => ?_)
  show pCm (Ev d) k_X10_isOn E 0 [(87, 0), (0, j)] [] _
  refine R_aload rfl rfl rfl ?_
  refine T_getr (v := 122) rfl rfl rfl rfl ?_
  refine R_iload rfl rfl ?_
  refine T_ald rfl rfl (by omega) (by omega) ?_
  refine R_push rfl ?_
  refine R_ic rfl (fun h7 => ?_) (fun h7 => ?_)
  · try simp only [ne_eq, b2i_e, b2i_1, Classical.not_not] at h7
    refine R_push rfl ?_
    refine R_zret rfl (by first | exact Or.inl rfl | exact Or.inr rfl | omega | grind) ?_
    exact hE _ (by unfold b2i; congr 1; split <;> omega)
  · try simp only [ne_eq, b2i_e, b2i_1, Classical.not_not] at h7
    refine R_push rfl ?_
    refine R_goto rfl ?_
    refine R_zret rfl (by first | exact Or.inl rfl | exact Or.inr rfl | omega | grind) ?_
    exact hE _ (by unfold b2i; congr 1; split <;> omega)
set_option maxRecDepth 20000 in
set_option maxHeartbeats 2000000 in
theorem sp_X10_manyOf (d : Nat) (hd : 1 ≤ d) (xs : List (Nat × Nat)) (t dd rr : Nat) (σ : Sg) (c P : Int) (hP : σ 71 26 = P) (h0 : 0 ≤ P) (h1 : P ≤ 40) : Ev d 92 [(87, 0), (0, c)] (Wd xs t dd rr σ) (0, sumZ (fun p => b2i (σ 111 p = c)) P) (Wd xs t dd rr σ) := by
  obtain ⟨d, rfl⟩ : ∃ e, d = e + 1 := ⟨d - 1, by omega⟩
  refine evP (nL := 4) (code := k_X10_manyOf) rfl pb0 rfl (fun E hE => ?_)
  show pCm (Ev d) k_X10_manyOf E 0 [(87, 0), (0, c), (9, 0), (9, 0)] [] _
  refine R_push rfl ?_
  refine R_istore rfl rfl ?_
  refine R_push rfl ?_
  refine R_istore rfl rfl ?_
  refine loop (pc := 4) (α := Int × Int) (fun a => (P - a.2).toNat) (fun a => ([(87, 0), (0, c), (0, a.1), (0, a.2)], Wd xs t dd rr σ)) (fun a => 0 ≤ a.2 ∧ a.2 ≤ P ∧ a.1 = sumZ (fun p => b2i (σ 111 p = c)) a.2) ?_ (0, 0) ?_
  · intro ⟨n, k⟩ ⟨hk0, hk1, hn⟩ ih
    dsimp only at hk0 hk1 hn ⊢
    have hs := sumZ_bd (f := fun p => b2i (σ 111 p = c)) (c := 1) hk0 (fun i _ _ => b2i_bd)
    refine R_iload rfl rfl ?_
    refine R_aload rfl rfl rfl ?_
    refine T_geti rfl rfl rfl ?_
    refine R_ic rfl (fun h9 => ?_) (fun h9 => ?_)
    · try simp only [ne_eq, b2i_e, b2i_1, Classical.not_not] at h9
      refine R_iload rfl rfl ?_
      refine R_iret rfl ?_
      exact hE _ (by congr 1; rw [hn]; congr 1; omega)
    · try simp only [ne_eq, b2i_e, b2i_1, Classical.not_not] at h9
      refine R_iload rfl rfl ?_
      refine R_aload rfl rfl rfl ?_
      refine T_getr (v := 127) rfl rfl rfl rfl ?_
      refine R_iload rfl rfl ?_
      refine T_ald rfl rfl (by omega) (by omega) ?_
      refine R_iload rfl rfl ?_
      refine R_ic rfl (fun h20 => ?_) (fun h20 => ?_)
      · try simp only [ne_eq, b2i_e, b2i_1, Classical.not_not] at h20
        refine R_push rfl ?_
        refine R_add rfl (by omega) (by omega) ?_
        refine R_istore rfl rfl ?_
        refine R_inc rfl rfl (by omega) (by omega) ?_
        refine R_goto rfl ?_
        exact ih (_, _) ⟨by dsimp only; omega, by dsimp only; omega, by dsimp only; rw [sumZ_s hk0]; first | (rw [b2i_t (by omega)]; omega) | (rw [b2i_f (by omega)]; omega)⟩ (by dsimp only; omega)
      · try simp only [ne_eq, b2i_e, b2i_1, Classical.not_not] at h20
        refine R_push rfl ?_
        refine R_goto rfl ?_
        refine R_add rfl (by omega) (by omega) ?_
        refine R_istore rfl rfl ?_
        refine R_inc rfl rfl (by omega) (by omega) ?_
        refine R_goto rfl ?_
        exact ih (_, _) ⟨by dsimp only; omega, by dsimp only; omega, by dsimp only; rw [sumZ_s hk0]; first | (rw [b2i_t (by omega)]; omega) | (rw [b2i_f (by omega)]; omega)⟩ (by dsimp only; omega)
  · exact ⟨Int.le_refl _, h0, sumZ_0.symm⟩

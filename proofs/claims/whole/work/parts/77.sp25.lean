def pln (nm kn : Int → Int) (k w : Int) : Int := if k = 3 then nm w else if k = 4 then kn w else w
def nt (a : Int) : Int := if a = 0 then 1 else 0
set_option maxRecDepth 20000 in
set_option maxHeartbeats 2000000 in
theorem sp_X8_put_37 (d : Nat) (hd : 1 ≤ d) (xs : List (Nat × Nat)) (t dd rr : Nat) (σ : Sg) (h v : Int) (hh : 0 ≤ h ∧ h < 32) : Ev d 241 [(53, 0), (0, h), (0, v)] (Wd xs t dd rr σ) (0, h + 1) (Wd xs t dd rr (up2 σ 43 h v)) := by
  obtain ⟨d, rfl⟩ : ∃ e, d = e + 1 := ⟨d - 1, by omega⟩
  refine evP (nL := 3) (code := k_X8_put) rfl pb0 rfl (fun E hE => ?_)
  show pCm (Ev d) k_X8_put E 0 [(53, 0), (0, h), (0, v)] [] _
  refine R_iload rfl rfl ?_
  refine R_push rfl ?_
  refine R_ic rfl (fun _ => ?_) (fun h3 => absurd (show h < 32 from hh.2) h3)
  refine R_aload rfl rfl rfl ?_
  refine T_getr (v := 59) rfl rfl rfl rfl ?_
  refine R_iload rfl rfl ?_
  refine R_iload rfl rfl ?_
  refine T_iast rfl rfl (by omega) (by omega) ?_
  refine R_iload rfl rfl ?_
  refine R_push rfl ?_
  refine R_add rfl (by omega) (by omega) ?_
  refine R_iret rfl ?_
  exact hE _ rfl
set_option maxRecDepth 20000 in
set_option maxHeartbeats 2000000 in
theorem sp_X8_turnRound_37 (d : Nat) (hd : 1 ≤ d) (xs : List (Nat × Nat)) (t dd rr : Nat) (σ : Sg) (h : Int) (hh : 1 ≤ h ∧ h ≤ 32) : Ev d 242 [(53, 0), (0, h)] (Wd xs t dd rr σ) (8, 0) (Wd xs t dd rr (up2 σ 43 (h - 1) (nt (σ 43 (h - 1))))) := by
  obtain ⟨d, rfl⟩ : ∃ e, d = e + 1 := ⟨d - 1, by omega⟩
  refine evP (nL := 2) (code := k_X8_turnRound) rfl pb0 rfl (fun E hE => ?_)
  show pCm (Ev d) k_X8_turnRound E 0 [(53, 0), (0, h)] [] _
  refine R_iload rfl rfl ?_
  refine R_if rfl (fun h1 => absurd h1 (by omega)) (fun _ => ?_)
  refine R_aload rfl rfl rfl ?_
  refine T_getr (v := 59) rfl rfl rfl rfl ?_
  refine R_iload rfl rfl ?_
  refine R_push rfl ?_
  refine R_sub rfl (by omega) (by omega) ?_
  refine R_aload rfl rfl rfl ?_
  refine T_getr (v := 59) rfl rfl rfl rfl ?_
  refine R_iload rfl rfl ?_
  refine R_push rfl ?_
  refine R_sub rfl (by omega) (by omega) ?_
  have J27 : ∀ v : Int, v = nt (σ 43 (h - 1)) → pCm (Ev d) k_X8_turnRound E 27 [(53, 0), (0, h)] [(0, v), (0, h - 1), (59, 0)] (Wd xs t dd rr σ) := by
    intro v hv
    rw [hv]
    refine T_iast rfl rfl (by omega) (by omega) ?_
    refine R_vret rfl ?_
    exact hE _ rfl
  refine T_ald rfl rfl (by omega) (by omega) ?_
  refine R_if rfl (fun h19 => ?_) (fun h19 => ?_)
  · try simp only [ne_eq, b2i_e, b2i_1, Classical.not_not] at h19
    refine R_push rfl ?_
    exact J27 _ (by unfold nt; split <;> omega)
  · try simp only [ne_eq, b2i_e, b2i_1, Classical.not_not] at h19
    refine R_push rfl ?_
    refine R_goto rfl ?_
    exact J27 _ (by unfold nt; split <;> omega)
set_option maxRecDepth 20000 in
set_option maxHeartbeats 2000000 in
theorem sp_X8_putTogether_37 (d : Nat) (hd : 2 ≤ d) (xs : List (Nat × Nat)) (t dd rr : Nat) (σ : Sg) (h k : Int) (hh : 2 ≤ h ∧ h ≤ 32) (hk : isBin k) : Ev d 243 [(53, 0), (0, h), (0, k)] (Wd xs t dd rr σ) (0, h - 1) (Wd xs t dd rr (up2 σ 43 (h - 2) (bino k (σ 43 (h - 2)) (σ 43 (h - 1))))) := by
  obtain ⟨d, rfl⟩ : ∃ e, d = e + 1 := ⟨d - 1, by omega⟩
  refine evP (nL := 3) (code := k_X8_putTogether) rfl pb0 rfl (fun E hE => ?_)
  show pCm (Ev d) k_X8_putTogether E 0 [(53, 0), (0, h), (0, k)] [] _
  refine R_iload rfl rfl ?_
  refine R_push rfl ?_
  refine R_ic rfl (fun _ => ?_) (fun h2 => absurd (show 2 ≤ h from hh.1) h2)
  refine R_aload rfl rfl rfl ?_
  refine T_getr (v := 59) rfl rfl rfl rfl ?_
  refine R_iload rfl rfl ?_
  refine R_push rfl ?_
  refine R_sub rfl (by omega) (by omega) ?_
  refine R_iload rfl rfl ?_
  refine R_aload rfl rfl rfl ?_
  refine T_getr (v := 59) rfl rfl rfl rfl ?_
  refine R_iload rfl rfl ?_
  refine R_push rfl ?_
  refine R_sub rfl (by omega) (by omega) ?_
  refine T_ald rfl rfl (by omega) (by omega) ?_
  refine R_aload rfl rfl rfl ?_
  refine T_getr (v := 59) rfl rfl rfl rfl ?_
  refine R_iload rfl rfl ?_
  refine R_push rfl ?_
  refine R_sub rfl (by omega) (by omega) ?_
  refine T_ald rfl rfl (by omega) (by omega) ?_
  refine R_inv rfl rfl rfl rfl rfl (sp_X8_together d (by omega) _ _ _ _ hk) rfl ?_
  show pCm _ _ _ 34 _ [(0, _), (0, _), (59, 0)] _
  refine T_iast rfl rfl (by omega) (by omega) ?_
  refine R_iload rfl rfl ?_
  refine R_push rfl ?_
  refine R_sub rfl (by omega) (by omega) ?_
  refine R_iret rfl ?_
  exact hE _ rfl
set_option maxRecDepth 20000 in
set_option maxHeartbeats 2000000 in
theorem sp_X8_plainWorth_37 (d : Nat) (hd : 1 ≤ d) (xs : List (Nat × Nat)) (t dd rr : Nat) (σ : Sg) (k v : Int) (hk : k = 2 ∨ k = 3 ∧ 0 ≤ v ∧ v < 8 ∨ k = 4 ∧ 0 ≤ v ∧ v < 12) : Ev d 240 [(53, 0), (0, k), (0, v), (67, 0)] (Wd xs t dd rr σ) (0, pln (σ 42) (σ 51) k v) (Wd xs t dd rr σ) := by
  obtain ⟨d, rfl⟩ : ∃ e, d = e + 1 := ⟨d - 1, by omega⟩
  refine evP (nL := 4) (code := k_X8_plainWorth) rfl pb0 rfl (fun E hE => ?_)
  show pCm (Ev d) k_X8_plainWorth E 0 [(53, 0), (0, k), (0, v), (67, 0)] [] _
  refine R_iload rfl rfl ?_
  refine R_push rfl ?_
  refine R_ic rfl (fun h2 => ?_) (fun h2 => ?_)
  · try simp only [ne_eq, b2i_e, b2i_1, Classical.not_not] at h2
    refine R_iload rfl rfl ?_
    refine R_push rfl ?_
    refine R_ic rfl (fun h28 => ?_) (fun h28 => ?_)
    · try simp only [ne_eq, b2i_e, b2i_1, Classical.not_not] at h28
      refine R_iload rfl rfl ?_
      refine R_iret rfl ?_
      exact hE _ (by
        congr 1
        unfold pln
        repeat' split
        all_goals first | rfl | omega | (exfalso; omega))
    · try simp only [ne_eq, b2i_e, b2i_1, Classical.not_not] at h28
      refine R_iload rfl rfl ?_
      refine R_if rfl (fun h32 => ?_) (fun h32 => ?_)
      · try simp only [ne_eq, b2i_e, b2i_1, Classical.not_not] at h32
        refine R_push rfl ?_
        refine R_iret rfl ?_
        exact hE _ (by
          congr 1
          unfold pln
          repeat' split
          all_goals first | rfl | omega | (exfalso; omega))
      · try simp only [ne_eq, b2i_e, b2i_1, Classical.not_not] at h32
        refine R_iload rfl rfl ?_
        refine R_aload rfl rfl rfl ?_
        refine R_alen rfl rfl rfl rfl ?_
        refine R_ic rfl (fun h38 => ?_) (fun h38 => ?_)
        · try simp only [ne_eq, b2i_e, b2i_1, Classical.not_not] at h38
          refine R_push rfl ?_
          refine R_iret rfl ?_
          exact hE _ (by
            congr 1
            unfold pln
            repeat' split
            all_goals first | rfl | omega | (exfalso; omega))
        · try simp only [ne_eq, b2i_e, b2i_1, Classical.not_not] at h38
          refine R_aload rfl rfl rfl ?_
          refine R_iload rfl rfl ?_
          refine T_ald rfl rfl (by omega) (by omega) ?_
          refine R_goto rfl ?_
          refine R_iret rfl ?_
          exact hE _ (by
            congr 1
            unfold pln
            repeat' split
            all_goals first | rfl | omega | (exfalso; omega))
  · try simp only [ne_eq, b2i_e, b2i_1, Classical.not_not] at h2
    refine R_iload rfl rfl ?_
    refine R_if rfl (fun h6 => ?_) (fun h6 => ?_)
    · try simp only [ne_eq, b2i_e, b2i_1, Classical.not_not] at h6
      refine R_push rfl ?_
      refine R_iret rfl ?_
      exact hE _ (by
        congr 1
        unfold pln
        repeat' split
        all_goals first | rfl | omega | (exfalso; omega))
    · try simp only [ne_eq, b2i_e, b2i_1, Classical.not_not] at h6
      refine R_iload rfl rfl ?_
      refine R_push rfl ?_
      refine R_ic rfl (fun h12 => ?_) (fun h12 => ?_)
      · try simp only [ne_eq, b2i_e, b2i_1, Classical.not_not] at h12
        refine R_push rfl ?_
        refine R_iret rfl ?_
        exact hE _ (by
          congr 1
          unfold pln
          repeat' split
          all_goals first | rfl | omega | (exfalso; omega))
      · try simp only [ne_eq, b2i_e, b2i_1, Classical.not_not] at h12
        refine R_aload rfl rfl rfl ?_
        refine T_getr (v := 58) rfl rfl rfl rfl ?_
        refine R_iload rfl rfl ?_
        refine T_ald rfl rfl (by omega) (by omega) ?_
        refine R_goto rfl ?_
        refine R_iret rfl ?_
        exact hE _ (by
          congr 1
          unfold pln
          repeat' split
          all_goals first | rfl | omega | (exfalso; omega))
set_option maxRecDepth 20000 in
set_option maxHeartbeats 2000000 in
theorem sp_X8_isNeeded_37 (d : Nat) (hd : 1 ≤ d) (xs : List (Nat × Nat)) (t dd rr : Nat) (σ : Sg) (i k : Int) (hi : 0 ≤ i ∧ i < 24) : Ev d 238 [(53, 0), (0, i), (0, k)] (Wd xs t dd rr σ) (0, b2i (σ 38 i = k ∨ σ 38 i = 128)) (Wd xs t dd rr σ) := by
  obtain ⟨d, rfl⟩ : ∃ e, d = e + 1 := ⟨d - 1, by omega⟩
  refine evP (nL := 3) (code := k_X8_isNeeded) rfl pb0 rfl (fun E hE => ?_)
  show pCm (Ev d) k_X8_isNeeded E 0 [(53, 0), (0, i), (0, k)] [] _
  refine R_aload rfl rfl rfl ?_
  refine T_getr (v := 54) rfl rfl rfl rfl ?_
  refine R_iload rfl rfl ?_
  refine T_ald rfl rfl (by omega) (by omega) ?_
  refine R_iload rfl rfl ?_
  refine R_ic rfl (fun h7 => ?_) (fun h7 => ?_)
  · try simp only [ne_eq, b2i_e, b2i_1, Classical.not_not] at h7
    refine R_push rfl ?_
    refine R_goto rfl ?_
    refine R_zret rfl (by first | exact Or.inl rfl | exact Or.inr rfl | omega | grind) ?_
    exact hE _ (by first | rfl | (congr 1; first | rw [b2i_t (by omega)] | rw [b2i_f (by omega)]))
  · try simp only [ne_eq, b2i_e, b2i_1, Classical.not_not] at h7
    refine R_aload rfl rfl rfl ?_
    refine T_getr (v := 54) rfl rfl rfl rfl ?_
    refine R_iload rfl rfl ?_
    refine T_ald rfl rfl (by omega) (by omega) ?_
    refine R_push rfl ?_
    refine R_ic rfl (fun h19 => ?_) (fun h19 => ?_)
    · try simp only [ne_eq, b2i_e, b2i_1, Classical.not_not] at h19
      refine R_push rfl ?_
      refine R_zret rfl (by first | exact Or.inl rfl | exact Or.inr rfl | omega | grind) ?_
      exact hE _ (by first | rfl | (congr 1; first | rw [b2i_t (by omega)] | rw [b2i_f (by omega)]))
    · try simp only [ne_eq, b2i_e, b2i_1, Classical.not_not] at h19
      refine R_push rfl ?_
      refine R_goto rfl ?_
      refine R_zret rfl (by first | exact Or.inl rfl | exact Or.inr rfl | omega | grind) ?_
      exact hE _ (by first | rfl | (congr 1; first | rw [b2i_t (by omega)] | rw [b2i_f (by omega)]))
set_option maxRecDepth 20000 in
set_option maxHeartbeats 2000000 in
theorem sp_X8_put_44 (d : Nat) (hd : 1 ≤ d) (xs : List (Nat × Nat)) (t dd rr : Nat) (σ : Sg) (h v : Int) (hh : 0 ≤ h ∧ h < 32) : Ev d 241 [(60, 0), (0, h), (0, v)] (Wd xs t dd rr σ) (0, h + 1) (Wd xs t dd rr (up2 σ 50 h v)) := by
  obtain ⟨d, rfl⟩ : ∃ e, d = e + 1 := ⟨d - 1, by omega⟩
  refine evP (nL := 3) (code := k_X8_put) rfl pb0 rfl (fun E hE => ?_)
  show pCm (Ev d) k_X8_put E 0 [(60, 0), (0, h), (0, v)] [] _
  refine R_iload rfl rfl ?_
  refine R_push rfl ?_
  refine R_ic rfl (fun _ => ?_) (fun h3 => absurd (show h < 32 from hh.2) h3)
  refine R_aload rfl rfl rfl ?_
  refine T_getr (v := 66) rfl rfl rfl rfl ?_
  refine R_iload rfl rfl ?_
  refine R_iload rfl rfl ?_
  refine T_iast rfl rfl (by omega) (by omega) ?_
  refine R_iload rfl rfl ?_
  refine R_push rfl ?_
  refine R_add rfl (by omega) (by omega) ?_
  refine R_iret rfl ?_
  exact hE _ rfl
set_option maxRecDepth 20000 in
set_option maxHeartbeats 2000000 in
theorem sp_X8_turnRound_44 (d : Nat) (hd : 1 ≤ d) (xs : List (Nat × Nat)) (t dd rr : Nat) (σ : Sg) (h : Int) (hh : 1 ≤ h ∧ h ≤ 32) : Ev d 242 [(60, 0), (0, h)] (Wd xs t dd rr σ) (8, 0) (Wd xs t dd rr (up2 σ 50 (h - 1) (nt (σ 50 (h - 1))))) := by
  obtain ⟨d, rfl⟩ : ∃ e, d = e + 1 := ⟨d - 1, by omega⟩
  refine evP (nL := 2) (code := k_X8_turnRound) rfl pb0 rfl (fun E hE => ?_)
  show pCm (Ev d) k_X8_turnRound E 0 [(60, 0), (0, h)] [] _
  refine R_iload rfl rfl ?_
  refine R_if rfl (fun h1 => absurd h1 (by omega)) (fun _ => ?_)
  refine R_aload rfl rfl rfl ?_
  refine T_getr (v := 66) rfl rfl rfl rfl ?_
  refine R_iload rfl rfl ?_
  refine R_push rfl ?_
  refine R_sub rfl (by omega) (by omega) ?_
  refine R_aload rfl rfl rfl ?_
  refine T_getr (v := 66) rfl rfl rfl rfl ?_
  refine R_iload rfl rfl ?_
  refine R_push rfl ?_
  refine R_sub rfl (by omega) (by omega) ?_
  have J27 : ∀ v : Int, v = nt (σ 50 (h - 1)) → pCm (Ev d) k_X8_turnRound E 27 [(60, 0), (0, h)] [(0, v), (0, h - 1), (66, 0)] (Wd xs t dd rr σ) := by
    intro v hv
    rw [hv]
    refine T_iast rfl rfl (by omega) (by omega) ?_
    refine R_vret rfl ?_
    exact hE _ rfl
  refine T_ald rfl rfl (by omega) (by omega) ?_
  refine R_if rfl (fun h19 => ?_) (fun h19 => ?_)
  · try simp only [ne_eq, b2i_e, b2i_1, Classical.not_not] at h19
    refine R_push rfl ?_
    exact J27 _ (by unfold nt; split <;> omega)
  · try simp only [ne_eq, b2i_e, b2i_1, Classical.not_not] at h19
    refine R_push rfl ?_
    refine R_goto rfl ?_
    exact J27 _ (by unfold nt; split <;> omega)
set_option maxRecDepth 20000 in
set_option maxHeartbeats 2000000 in
theorem sp_X8_putTogether_44 (d : Nat) (hd : 2 ≤ d) (xs : List (Nat × Nat)) (t dd rr : Nat) (σ : Sg) (h k : Int) (hh : 2 ≤ h ∧ h ≤ 32) (hk : isBin k) : Ev d 243 [(60, 0), (0, h), (0, k)] (Wd xs t dd rr σ) (0, h - 1) (Wd xs t dd rr (up2 σ 50 (h - 2) (bino k (σ 50 (h - 2)) (σ 50 (h - 1))))) := by
  obtain ⟨d, rfl⟩ : ∃ e, d = e + 1 := ⟨d - 1, by omega⟩
  refine evP (nL := 3) (code := k_X8_putTogether) rfl pb0 rfl (fun E hE => ?_)
  show pCm (Ev d) k_X8_putTogether E 0 [(60, 0), (0, h), (0, k)] [] _
  refine R_iload rfl rfl ?_
  refine R_push rfl ?_
  refine R_ic rfl (fun _ => ?_) (fun h2 => absurd (show 2 ≤ h from hh.1) h2)
  refine R_aload rfl rfl rfl ?_
  refine T_getr (v := 66) rfl rfl rfl rfl ?_
  refine R_iload rfl rfl ?_
  refine R_push rfl ?_
  refine R_sub rfl (by omega) (by omega) ?_
  refine R_iload rfl rfl ?_
  refine R_aload rfl rfl rfl ?_
  refine T_getr (v := 66) rfl rfl rfl rfl ?_
  refine R_iload rfl rfl ?_
  refine R_push rfl ?_
  refine R_sub rfl (by omega) (by omega) ?_
  refine T_ald rfl rfl (by omega) (by omega) ?_
  refine R_aload rfl rfl rfl ?_
  refine T_getr (v := 66) rfl rfl rfl rfl ?_
  refine R_iload rfl rfl ?_
  refine R_push rfl ?_
  refine R_sub rfl (by omega) (by omega) ?_
  refine T_ald rfl rfl (by omega) (by omega) ?_
  refine R_inv rfl rfl rfl rfl rfl (sp_X8_together d (by omega) _ _ _ _ hk) rfl ?_
  show pCm _ _ _ 34 _ [(0, _), (0, _), (66, 0)] _
  refine T_iast rfl rfl (by omega) (by omega) ?_
  refine R_iload rfl rfl ?_
  refine R_push rfl ?_
  refine R_sub rfl (by omega) (by omega) ?_
  refine R_iret rfl ?_
  exact hE _ rfl
set_option maxRecDepth 20000 in
set_option maxHeartbeats 2000000 in
theorem sp_X8_plainWorth_44 (d : Nat) (hd : 1 ≤ d) (xs : List (Nat × Nat)) (t dd rr : Nat) (σ : Sg) (k v : Int) (hk : k = 2 ∨ k = 3 ∧ 0 ≤ v ∧ v < 8 ∨ k = 4 ∧ 0 ≤ v ∧ v < 12) : Ev d 240 [(60, 0), (0, k), (0, v), (67, 0)] (Wd xs t dd rr σ) (0, pln (σ 49) (σ 51) k v) (Wd xs t dd rr σ) := by
  obtain ⟨d, rfl⟩ : ∃ e, d = e + 1 := ⟨d - 1, by omega⟩
  refine evP (nL := 4) (code := k_X8_plainWorth) rfl pb0 rfl (fun E hE => ?_)
  show pCm (Ev d) k_X8_plainWorth E 0 [(60, 0), (0, k), (0, v), (67, 0)] [] _
  refine R_iload rfl rfl ?_
  refine R_push rfl ?_
  refine R_ic rfl (fun h2 => ?_) (fun h2 => ?_)
  · try simp only [ne_eq, b2i_e, b2i_1, Classical.not_not] at h2
    refine R_iload rfl rfl ?_
    refine R_push rfl ?_
    refine R_ic rfl (fun h28 => ?_) (fun h28 => ?_)
    · try simp only [ne_eq, b2i_e, b2i_1, Classical.not_not] at h28
      refine R_iload rfl rfl ?_
      refine R_iret rfl ?_
      exact hE _ (by
        congr 1
        unfold pln
        repeat' split
        all_goals first | rfl | omega | (exfalso; omega))
    · try simp only [ne_eq, b2i_e, b2i_1, Classical.not_not] at h28
      refine R_iload rfl rfl ?_
      refine R_if rfl (fun h32 => ?_) (fun h32 => ?_)
      · try simp only [ne_eq, b2i_e, b2i_1, Classical.not_not] at h32
        refine R_push rfl ?_
        refine R_iret rfl ?_
        exact hE _ (by
          congr 1
          unfold pln
          repeat' split
          all_goals first | rfl | omega | (exfalso; omega))
      · try simp only [ne_eq, b2i_e, b2i_1, Classical.not_not] at h32
        refine R_iload rfl rfl ?_
        refine R_aload rfl rfl rfl ?_
        refine R_alen rfl rfl rfl rfl ?_
        refine R_ic rfl (fun h38 => ?_) (fun h38 => ?_)
        · try simp only [ne_eq, b2i_e, b2i_1, Classical.not_not] at h38
          refine R_push rfl ?_
          refine R_iret rfl ?_
          exact hE _ (by
            congr 1
            unfold pln
            repeat' split
            all_goals first | rfl | omega | (exfalso; omega))
        · try simp only [ne_eq, b2i_e, b2i_1, Classical.not_not] at h38
          refine R_aload rfl rfl rfl ?_
          refine R_iload rfl rfl ?_
          refine T_ald rfl rfl (by omega) (by omega) ?_
          refine R_goto rfl ?_
          refine R_iret rfl ?_
          exact hE _ (by
            congr 1
            unfold pln
            repeat' split
            all_goals first | rfl | omega | (exfalso; omega))
  · try simp only [ne_eq, b2i_e, b2i_1, Classical.not_not] at h2
    refine R_iload rfl rfl ?_
    refine R_if rfl (fun h6 => ?_) (fun h6 => ?_)
    · try simp only [ne_eq, b2i_e, b2i_1, Classical.not_not] at h6
      refine R_push rfl ?_
      refine R_iret rfl ?_
      exact hE _ (by
        congr 1
        unfold pln
        repeat' split
        all_goals first | rfl | omega | (exfalso; omega))
    · try simp only [ne_eq, b2i_e, b2i_1, Classical.not_not] at h6
      refine R_iload rfl rfl ?_
      refine R_push rfl ?_
      refine R_ic rfl (fun h12 => ?_) (fun h12 => ?_)
      · try simp only [ne_eq, b2i_e, b2i_1, Classical.not_not] at h12
        refine R_push rfl ?_
        refine R_iret rfl ?_
        exact hE _ (by
          congr 1
          unfold pln
          repeat' split
          all_goals first | rfl | omega | (exfalso; omega))
      · try simp only [ne_eq, b2i_e, b2i_1, Classical.not_not] at h12
        refine R_aload rfl rfl rfl ?_
        refine T_getr (v := 65) rfl rfl rfl rfl ?_
        refine R_iload rfl rfl ?_
        refine T_ald rfl rfl (by omega) (by omega) ?_
        refine R_goto rfl ?_
        refine R_iret rfl ?_
        exact hE _ (by
          congr 1
          unfold pln
          repeat' split
          all_goals first | rfl | omega | (exfalso; omega))
set_option maxRecDepth 20000 in
set_option maxHeartbeats 2000000 in
theorem sp_X8_isNeeded_44 (d : Nat) (hd : 1 ≤ d) (xs : List (Nat × Nat)) (t dd rr : Nat) (σ : Sg) (i k : Int) (hi : 0 ≤ i ∧ i < 24) : Ev d 238 [(60, 0), (0, i), (0, k)] (Wd xs t dd rr σ) (0, b2i (σ 45 i = k ∨ σ 45 i = 128)) (Wd xs t dd rr σ) := by
  obtain ⟨d, rfl⟩ : ∃ e, d = e + 1 := ⟨d - 1, by omega⟩
  refine evP (nL := 3) (code := k_X8_isNeeded) rfl pb0 rfl (fun E hE => ?_)
  show pCm (Ev d) k_X8_isNeeded E 0 [(60, 0), (0, i), (0, k)] [] _
  refine R_aload rfl rfl rfl ?_
  refine T_getr (v := 61) rfl rfl rfl rfl ?_
  refine R_iload rfl rfl ?_
  refine T_ald rfl rfl (by omega) (by omega) ?_
  refine R_iload rfl rfl ?_
  refine R_ic rfl (fun h7 => ?_) (fun h7 => ?_)
  · try simp only [ne_eq, b2i_e, b2i_1, Classical.not_not] at h7
    refine R_push rfl ?_
    refine R_goto rfl ?_
    refine R_zret rfl (by first | exact Or.inl rfl | exact Or.inr rfl | omega | grind) ?_
    exact hE _ (by first | rfl | (congr 1; first | rw [b2i_t (by omega)] | rw [b2i_f (by omega)]))
  · try simp only [ne_eq, b2i_e, b2i_1, Classical.not_not] at h7
    refine R_aload rfl rfl rfl ?_
    refine T_getr (v := 61) rfl rfl rfl rfl ?_
    refine R_iload rfl rfl ?_
    refine T_ald rfl rfl (by omega) (by omega) ?_
    refine R_push rfl ?_
    refine R_ic rfl (fun h19 => ?_) (fun h19 => ?_)
    · try simp only [ne_eq, b2i_e, b2i_1, Classical.not_not] at h19
      refine R_push rfl ?_
      refine R_zret rfl (by first | exact Or.inl rfl | exact Or.inr rfl | omega | grind) ?_
      exact hE _ (by first | rfl | (congr 1; first | rw [b2i_t (by omega)] | rw [b2i_f (by omega)]))
    · try simp only [ne_eq, b2i_e, b2i_1, Classical.not_not] at h19
      refine R_push rfl ?_
      refine R_goto rfl ?_
      refine R_zret rfl (by first | exact Or.inl rfl | exact Or.inr rfl | omega | grind) ?_
      exact hE _ (by first | rfl | (congr 1; first | rw [b2i_t (by omega)] | rw [b2i_f (by omega)]))

def onC (σ : Sg) (day br j : Int) : Bool := decide ((σ 25 j ≤ day ∧ (σ 26 j = -1 ∨ day < σ 26 j)) ∧ (σ 27 j ≠ 0 ∨ br = 0))
/-- what the class's rows must be like for its walks -/
def CB (σ : Sg) (P J : Int) : Prop := σ 1 0 = P ∧ σ 21 0 = J ∧ (0 ≤ P ∧ P ≤ 40) ∧ (0 ≤ J ∧ J ≤ 80) ∧ ∀ j, 0 ≤ j → j < J → (0 ≤ σ 22 j ∧ σ 22 j < 8 * P) ∧ 0 ≤ σ 23 j ∧ σ 23 j < 8 * P
set_option maxRecDepth 20000 in
set_option maxHeartbeats 2000000 in
theorem sp_X3_merge_29 (d : Nat) (hd : 2 ≤ d) (xs : List (Nat × Nat)) (t dd rr : Nat) (σ : Sg) (N a0 b0 : Int) (hN : 0 ≤ N ∧ N ≤ 40) (ha : 0 ≤ a0 ∧ a0 < N) (hb : 0 ≤ b0 ∧ b0 < N) : ∃ σ', Ev d 177 [(45, 0), (0, N), (0, a0), (0, b0)] (Wd xs t dd rr σ) (8, 0) (Wd xs t dd rr σ') ∧ Fr [29] [] σ σ' ∧ ∀ p, 0 ≤ p → p < N → σ' 29 p = mrg N (σ 29) a0 b0 p := by
  obtain ⟨d, rfl⟩ : ∃ e, d = e + 1 := ⟨d - 1, by omega⟩
  refine evS (nL := 7) (code := k_X3_merge) rfl dc_X3_merge rfl (fun E hE => ?_)
  show pCm (Ev d) k_X3_merge E 0 [(45, 0), (0, N), (0, a0), (0, b0), (9, 0), (9, 0), (9, 0)] [] _
  refine R_aload rfl rfl rfl ?_
  refine R_iload rfl rfl ?_
  refine T_ald rfl rfl (by omega) (by omega) ?_
  refine R_aload rfl rfl rfl ?_
  refine R_iload rfl rfl ?_
  refine T_ald rfl rfl (by omega) (by omega) ?_
  refine R_inv rfl rfl rfl rfl rfl (sp_J9_min_7cf53 d (by omega) (Wd xs t dd rr σ) _ _) rfl ?_
  show pCm _ _ _ 9 _ [(0, _)] _
  generalize hlo : min (σ 29 a0) (σ 29 b0) = lo
  refine R_istore rfl rfl ?_
  refine R_aload rfl rfl rfl ?_
  refine R_iload rfl rfl ?_
  refine T_ald rfl rfl (by omega) (by omega) ?_
  refine R_aload rfl rfl rfl ?_
  refine R_iload rfl rfl ?_
  refine T_ald rfl rfl (by omega) (by omega) ?_
  refine R_inv rfl rfl rfl rfl rfl (sp_J9_max_7cf53 d (by omega) (Wd xs t dd rr σ) _ _) rfl ?_
  show pCm _ _ _ 20 _ [(0, _)] _
  generalize hhi : max (σ 29 a0) (σ 29 b0) = hi
  refine R_istore rfl rfl ?_
  refine R_push rfl ?_
  refine R_istore rfl rfl ?_
  refine loop (pc := 25) (α := Int × Sg) (fun a => (N - a.1).toNat) (fun a => ([(45, 0), (0, N), (0, a0), (0, b0), (0, lo), (0, hi), (0, a.1)], Wd xs t dd rr a.2)) (fun a => (0 ≤ a.1 ∧ a.1 ≤ N) ∧ Fr [29] [] σ a.2 ∧ ∀ p, 0 ≤ p → p < N → a.2 29 p = if p < a.1 then mrg N (σ 29) a0 b0 p else σ 29 p) ?_ (0, σ) ?_
  · intro ⟨k, s1⟩ ⟨hk, hF, hv⟩ ih
    dsimp only at hk hF hv ⊢
    have hh : k < N → s1 29 k = σ 29 k := fun q => by rw [hv k hk.1 q, if_neg (by omega)]
    refine R_iload rfl rfl ?_
    refine R_iload rfl rfl ?_
    refine R_ic rfl (fun h28 => ?_) (fun h28 => ?_)
    · try simp only [ne_eq, b2i_e, b2i_1, Classical.not_not] at h28
      refine R_vret rfl ?_
      exact hE _ _ rfl ⟨hF, fun p h0 h1 => by rw [hv p h0 h1, if_pos (by omega)]⟩
    · try simp only [ne_eq, b2i_e, b2i_1, Classical.not_not] at h28
      refine R_aload rfl rfl rfl ?_
      refine R_iload rfl rfl ?_
      refine T_ald rfl rfl (by omega) (by omega) ?_
      refine R_iload rfl rfl ?_
      refine R_ic rfl (fun h37 => ?_) (fun h37 => ?_)
      · try simp only [ne_eq, b2i_e, b2i_1, Classical.not_not] at h37
        refine R_inc rfl rfl (by omega) (by omega) ?_
        refine R_goto rfl ?_
        have hh := hh (by omega)
        first
        | (generalize hs3 : up2 s1 29 k _ = s3
           refine ih (k + 1, s3) ⟨by dsimp only; omega, by rw [← hs3]; exact hF.upr rfl, fun p h0 h1 => ?_⟩ (by dsimp only; omega)
           show s3 29 p = if p < k + 1 then _ else _
           rw [← hs3]
           by_cases q : p = k
           · subst q
             rw [up_s, if_pos (by omega), mrg_max h0 h1, if_pos (by omega)]; omega
           · rw [up_i q, hv p h0 h1]
             by_cases q2 : p < k
             · rw [if_pos q2, if_pos (by omega)]
             · rw [if_neg q2, if_neg (by omega)])
        | (refine ih (k + 1, s1) ⟨by dsimp only; omega, hF, fun p h0 h1 => ?_⟩ (by dsimp only; omega)
           show s1 29 p = if p < k + 1 then _ else _
           by_cases q : p = k
           · subst q
             rw [if_pos (by omega), mrg_max h0 h1, if_neg (by omega)]; exact hh
           · rw [hv p h0 h1]
             by_cases q2 : p < k
             · rw [if_pos q2, if_pos (by omega)]
             · rw [if_neg q2, if_neg (by omega)])
      · try simp only [ne_eq, b2i_e, b2i_1, Classical.not_not] at h37
        refine R_aload rfl rfl rfl ?_
        refine R_iload rfl rfl ?_
        refine R_iload rfl rfl ?_
        refine T_iast rfl rfl (by omega) (by omega) ?_
        refine R_inc rfl rfl (by omega) (by omega) ?_
        refine R_goto rfl ?_
        have hh := hh (by omega)
        first
        | (generalize hs3 : up2 s1 29 k _ = s3
           refine ih (k + 1, s3) ⟨by dsimp only; omega, by rw [← hs3]; exact hF.upr rfl, fun p h0 h1 => ?_⟩ (by dsimp only; omega)
           show s3 29 p = if p < k + 1 then _ else _
           rw [← hs3]
           by_cases q : p = k
           · subst q
             rw [up_s, if_pos (by omega), mrg_max h0 h1, if_pos (by omega)]; omega
           · rw [up_i q, hv p h0 h1]
             by_cases q2 : p < k
             · rw [if_pos q2, if_pos (by omega)]
             · rw [if_neg q2, if_neg (by omega)])
        | (refine ih (k + 1, s1) ⟨by dsimp only; omega, hF, fun p h0 h1 => ?_⟩ (by dsimp only; omega)
           show s1 29 p = if p < k + 1 then _ else _
           by_cases q : p = k
           · subst q
             rw [if_pos (by omega), mrg_max h0 h1, if_neg (by omega)]; exact hh
           · rw [hv p h0 h1]
             by_cases q2 : p < k
             · rw [if_pos q2, if_pos (by omega)]
             · rw [if_neg q2, if_neg (by omega)])
  · exact ⟨⟨Int.le_refl _, hN.1⟩, Fr.rf, fun p h0 h1 => by dsimp only; rw [if_neg (by omega)]⟩
set_option maxRecDepth 20000 in
set_option maxHeartbeats 2000000 in
theorem sp_X3_merge_30 (d : Nat) (hd : 2 ≤ d) (xs : List (Nat × Nat)) (t dd rr : Nat) (σ : Sg) (N a0 b0 : Int) (hN : 0 ≤ N ∧ N ≤ 40) (ha : 0 ≤ a0 ∧ a0 < N) (hb : 0 ≤ b0 ∧ b0 < N) : ∃ σ', Ev d 177 [(46, 0), (0, N), (0, a0), (0, b0)] (Wd xs t dd rr σ) (8, 0) (Wd xs t dd rr σ') ∧ Fr [30] [] σ σ' ∧ ∀ p, 0 ≤ p → p < N → σ' 30 p = mrg N (σ 30) a0 b0 p := by
  obtain ⟨d, rfl⟩ : ∃ e, d = e + 1 := ⟨d - 1, by omega⟩
  refine evS (nL := 7) (code := k_X3_merge) rfl dc_X3_merge rfl (fun E hE => ?_)
  show pCm (Ev d) k_X3_merge E 0 [(46, 0), (0, N), (0, a0), (0, b0), (9, 0), (9, 0), (9, 0)] [] _
  refine R_aload rfl rfl rfl ?_
  refine R_iload rfl rfl ?_
  refine T_ald rfl rfl (by omega) (by omega) ?_
  refine R_aload rfl rfl rfl ?_
  refine R_iload rfl rfl ?_
  refine T_ald rfl rfl (by omega) (by omega) ?_
  refine R_inv rfl rfl rfl rfl rfl (sp_J9_min_7cf53 d (by omega) (Wd xs t dd rr σ) _ _) rfl ?_
  show pCm _ _ _ 9 _ [(0, _)] _
  generalize hlo : min (σ 30 a0) (σ 30 b0) = lo
  refine R_istore rfl rfl ?_
  refine R_aload rfl rfl rfl ?_
  refine R_iload rfl rfl ?_
  refine T_ald rfl rfl (by omega) (by omega) ?_
  refine R_aload rfl rfl rfl ?_
  refine R_iload rfl rfl ?_
  refine T_ald rfl rfl (by omega) (by omega) ?_
  refine R_inv rfl rfl rfl rfl rfl (sp_J9_max_7cf53 d (by omega) (Wd xs t dd rr σ) _ _) rfl ?_
  show pCm _ _ _ 20 _ [(0, _)] _
  generalize hhi : max (σ 30 a0) (σ 30 b0) = hi
  refine R_istore rfl rfl ?_
  refine R_push rfl ?_
  refine R_istore rfl rfl ?_
  refine loop (pc := 25) (α := Int × Sg) (fun a => (N - a.1).toNat) (fun a => ([(46, 0), (0, N), (0, a0), (0, b0), (0, lo), (0, hi), (0, a.1)], Wd xs t dd rr a.2)) (fun a => (0 ≤ a.1 ∧ a.1 ≤ N) ∧ Fr [30] [] σ a.2 ∧ ∀ p, 0 ≤ p → p < N → a.2 30 p = if p < a.1 then mrg N (σ 30) a0 b0 p else σ 30 p) ?_ (0, σ) ?_
  · intro ⟨k, s1⟩ ⟨hk, hF, hv⟩ ih
    dsimp only at hk hF hv ⊢
    have hh : k < N → s1 30 k = σ 30 k := fun q => by rw [hv k hk.1 q, if_neg (by omega)]
    refine R_iload rfl rfl ?_
    refine R_iload rfl rfl ?_
    refine R_ic rfl (fun h28 => ?_) (fun h28 => ?_)
    · try simp only [ne_eq, b2i_e, b2i_1, Classical.not_not] at h28
      refine R_vret rfl ?_
      exact hE _ _ rfl ⟨hF, fun p h0 h1 => by rw [hv p h0 h1, if_pos (by omega)]⟩
    · try simp only [ne_eq, b2i_e, b2i_1, Classical.not_not] at h28
      refine R_aload rfl rfl rfl ?_
      refine R_iload rfl rfl ?_
      refine T_ald rfl rfl (by omega) (by omega) ?_
      refine R_iload rfl rfl ?_
      refine R_ic rfl (fun h37 => ?_) (fun h37 => ?_)
      · try simp only [ne_eq, b2i_e, b2i_1, Classical.not_not] at h37
        refine R_inc rfl rfl (by omega) (by omega) ?_
        refine R_goto rfl ?_
        have hh := hh (by omega)
        first
        | (generalize hs3 : up2 s1 30 k _ = s3
           refine ih (k + 1, s3) ⟨by dsimp only; omega, by rw [← hs3]; exact hF.upr rfl, fun p h0 h1 => ?_⟩ (by dsimp only; omega)
           show s3 30 p = if p < k + 1 then _ else _
           rw [← hs3]
           by_cases q : p = k
           · subst q
             rw [up_s, if_pos (by omega), mrg_max h0 h1, if_pos (by omega)]; omega
           · rw [up_i q, hv p h0 h1]
             by_cases q2 : p < k
             · rw [if_pos q2, if_pos (by omega)]
             · rw [if_neg q2, if_neg (by omega)])
        | (refine ih (k + 1, s1) ⟨by dsimp only; omega, hF, fun p h0 h1 => ?_⟩ (by dsimp only; omega)
           show s1 30 p = if p < k + 1 then _ else _
           by_cases q : p = k
           · subst q
             rw [if_pos (by omega), mrg_max h0 h1, if_neg (by omega)]; exact hh
           · rw [hv p h0 h1]
             by_cases q2 : p < k
             · rw [if_pos q2, if_pos (by omega)]
             · rw [if_neg q2, if_neg (by omega)])
      · try simp only [ne_eq, b2i_e, b2i_1, Classical.not_not] at h37
        refine R_aload rfl rfl rfl ?_
        refine R_iload rfl rfl ?_
        refine R_iload rfl rfl ?_
        refine T_iast rfl rfl (by omega) (by omega) ?_
        refine R_inc rfl rfl (by omega) (by omega) ?_
        refine R_goto rfl ?_
        have hh := hh (by omega)
        first
        | (generalize hs3 : up2 s1 30 k _ = s3
           refine ih (k + 1, s3) ⟨by dsimp only; omega, by rw [← hs3]; exact hF.upr rfl, fun p h0 h1 => ?_⟩ (by dsimp only; omega)
           show s3 30 p = if p < k + 1 then _ else _
           rw [← hs3]
           by_cases q : p = k
           · subst q
             rw [up_s, if_pos (by omega), mrg_max h0 h1, if_pos (by omega)]; omega
           · rw [up_i q, hv p h0 h1]
             by_cases q2 : p < k
             · rw [if_pos q2, if_pos (by omega)]
             · rw [if_neg q2, if_neg (by omega)])
        | (refine ih (k + 1, s1) ⟨by dsimp only; omega, hF, fun p h0 h1 => ?_⟩ (by dsimp only; omega)
           show s1 30 p = if p < k + 1 then _ else _
           by_cases q : p = k
           · subst q
             rw [if_pos (by omega), mrg_max h0 h1, if_neg (by omega)]; exact hh
           · rw [hv p h0 h1]
             by_cases q2 : p < k
             · rw [if_pos q2, if_pos (by omega)]
             · rw [if_neg q2, if_neg (by omega)])
  · exact ⟨⟨Int.le_refl _, hN.1⟩, Fr.rf, fun p h0 h1 => by dsimp only; rw [if_neg (by omega)]⟩
set_option maxRecDepth 20000 in
set_option maxHeartbeats 2000000 in
theorem sp_X3_merge_33 (d : Nat) (hd : 2 ≤ d) (xs : List (Nat × Nat)) (t dd rr : Nat) (σ : Sg) (N a0 b0 : Int) (hN : 0 ≤ N ∧ N ≤ 40) (ha : 0 ≤ a0 ∧ a0 < N) (hb : 0 ≤ b0 ∧ b0 < N) : ∃ σ', Ev d 177 [(49, 0), (0, N), (0, a0), (0, b0)] (Wd xs t dd rr σ) (8, 0) (Wd xs t dd rr σ') ∧ Fr [33] [] σ σ' ∧ ∀ p, 0 ≤ p → p < N → σ' 33 p = mrg N (σ 33) a0 b0 p := by
  obtain ⟨d, rfl⟩ : ∃ e, d = e + 1 := ⟨d - 1, by omega⟩
  refine evS (nL := 7) (code := k_X3_merge) rfl dc_X3_merge rfl (fun E hE => ?_)
  show pCm (Ev d) k_X3_merge E 0 [(49, 0), (0, N), (0, a0), (0, b0), (9, 0), (9, 0), (9, 0)] [] _
  refine R_aload rfl rfl rfl ?_
  refine R_iload rfl rfl ?_
  refine T_ald rfl rfl (by omega) (by omega) ?_
  refine R_aload rfl rfl rfl ?_
  refine R_iload rfl rfl ?_
  refine T_ald rfl rfl (by omega) (by omega) ?_
  refine R_inv rfl rfl rfl rfl rfl (sp_J9_min_7cf53 d (by omega) (Wd xs t dd rr σ) _ _) rfl ?_
  show pCm _ _ _ 9 _ [(0, _)] _
  generalize hlo : min (σ 33 a0) (σ 33 b0) = lo
  refine R_istore rfl rfl ?_
  refine R_aload rfl rfl rfl ?_
  refine R_iload rfl rfl ?_
  refine T_ald rfl rfl (by omega) (by omega) ?_
  refine R_aload rfl rfl rfl ?_
  refine R_iload rfl rfl ?_
  refine T_ald rfl rfl (by omega) (by omega) ?_
  refine R_inv rfl rfl rfl rfl rfl (sp_J9_max_7cf53 d (by omega) (Wd xs t dd rr σ) _ _) rfl ?_
  show pCm _ _ _ 20 _ [(0, _)] _
  generalize hhi : max (σ 33 a0) (σ 33 b0) = hi
  refine R_istore rfl rfl ?_
  refine R_push rfl ?_
  refine R_istore rfl rfl ?_
  refine loop (pc := 25) (α := Int × Sg) (fun a => (N - a.1).toNat) (fun a => ([(49, 0), (0, N), (0, a0), (0, b0), (0, lo), (0, hi), (0, a.1)], Wd xs t dd rr a.2)) (fun a => (0 ≤ a.1 ∧ a.1 ≤ N) ∧ Fr [33] [] σ a.2 ∧ ∀ p, 0 ≤ p → p < N → a.2 33 p = if p < a.1 then mrg N (σ 33) a0 b0 p else σ 33 p) ?_ (0, σ) ?_
  · intro ⟨k, s1⟩ ⟨hk, hF, hv⟩ ih
    dsimp only at hk hF hv ⊢
    have hh : k < N → s1 33 k = σ 33 k := fun q => by rw [hv k hk.1 q, if_neg (by omega)]
    refine R_iload rfl rfl ?_
    refine R_iload rfl rfl ?_
    refine R_ic rfl (fun h28 => ?_) (fun h28 => ?_)
    · try simp only [ne_eq, b2i_e, b2i_1, Classical.not_not] at h28
      refine R_vret rfl ?_
      exact hE _ _ rfl ⟨hF, fun p h0 h1 => by rw [hv p h0 h1, if_pos (by omega)]⟩
    · try simp only [ne_eq, b2i_e, b2i_1, Classical.not_not] at h28
      refine R_aload rfl rfl rfl ?_
      refine R_iload rfl rfl ?_
      refine T_ald rfl rfl (by omega) (by omega) ?_
      refine R_iload rfl rfl ?_
      refine R_ic rfl (fun h37 => ?_) (fun h37 => ?_)
      · try simp only [ne_eq, b2i_e, b2i_1, Classical.not_not] at h37
        refine R_inc rfl rfl (by omega) (by omega) ?_
        refine R_goto rfl ?_
        have hh := hh (by omega)
        first
        | (generalize hs3 : up2 s1 33 k _ = s3
           refine ih (k + 1, s3) ⟨by dsimp only; omega, by rw [← hs3]; exact hF.upr rfl, fun p h0 h1 => ?_⟩ (by dsimp only; omega)
           show s3 33 p = if p < k + 1 then _ else _
           rw [← hs3]
           by_cases q : p = k
           · subst q
             rw [up_s, if_pos (by omega), mrg_max h0 h1, if_pos (by omega)]; omega
           · rw [up_i q, hv p h0 h1]
             by_cases q2 : p < k
             · rw [if_pos q2, if_pos (by omega)]
             · rw [if_neg q2, if_neg (by omega)])
        | (refine ih (k + 1, s1) ⟨by dsimp only; omega, hF, fun p h0 h1 => ?_⟩ (by dsimp only; omega)
           show s1 33 p = if p < k + 1 then _ else _
           by_cases q : p = k
           · subst q
             rw [if_pos (by omega), mrg_max h0 h1, if_neg (by omega)]; exact hh
           · rw [hv p h0 h1]
             by_cases q2 : p < k
             · rw [if_pos q2, if_pos (by omega)]
             · rw [if_neg q2, if_neg (by omega)])
      · try simp only [ne_eq, b2i_e, b2i_1, Classical.not_not] at h37
        refine R_aload rfl rfl rfl ?_
        refine R_iload rfl rfl ?_
        refine R_iload rfl rfl ?_
        refine T_iast rfl rfl (by omega) (by omega) ?_
        refine R_inc rfl rfl (by omega) (by omega) ?_
        refine R_goto rfl ?_
        have hh := hh (by omega)
        first
        | (generalize hs3 : up2 s1 33 k _ = s3
           refine ih (k + 1, s3) ⟨by dsimp only; omega, by rw [← hs3]; exact hF.upr rfl, fun p h0 h1 => ?_⟩ (by dsimp only; omega)
           show s3 33 p = if p < k + 1 then _ else _
           rw [← hs3]
           by_cases q : p = k
           · subst q
             rw [up_s, if_pos (by omega), mrg_max h0 h1, if_pos (by omega)]; omega
           · rw [up_i q, hv p h0 h1]
             by_cases q2 : p < k
             · rw [if_pos q2, if_pos (by omega)]
             · rw [if_neg q2, if_neg (by omega)])
        | (refine ih (k + 1, s1) ⟨by dsimp only; omega, hF, fun p h0 h1 => ?_⟩ (by dsimp only; omega)
           show s1 33 p = if p < k + 1 then _ else _
           by_cases q : p = k
           · subst q
             rw [if_pos (by omega), mrg_max h0 h1, if_neg (by omega)]; exact hh
           · rw [hv p h0 h1]
             by_cases q2 : p < k
             · rw [if_pos q2, if_pos (by omega)]
             · rw [if_neg q2, if_neg (by omega)])
  · exact ⟨⟨Int.le_refl _, hN.1⟩, Fr.rf, fun p h0 h1 => by dsimp only; rw [if_neg (by omega)]⟩
set_option maxRecDepth 20000 in
set_option maxHeartbeats 2000000 in
theorem sp_X3_merge_35 (d : Nat) (hd : 2 ≤ d) (xs : List (Nat × Nat)) (t dd rr : Nat) (σ : Sg) (N a0 b0 : Int) (hN : 0 ≤ N ∧ N ≤ 5) (ha : 0 ≤ a0 ∧ a0 < N) (hb : 0 ≤ b0 ∧ b0 < N) : ∃ σ', Ev d 177 [(51, 0), (0, N), (0, a0), (0, b0)] (Wd xs t dd rr σ) (8, 0) (Wd xs t dd rr σ') ∧ Fr [35] [] σ σ' ∧ ∀ p, 0 ≤ p → p < N → σ' 35 p = mrg N (σ 35) a0 b0 p := by
  obtain ⟨d, rfl⟩ : ∃ e, d = e + 1 := ⟨d - 1, by omega⟩
  refine evS (nL := 7) (code := k_X3_merge) rfl dc_X3_merge rfl (fun E hE => ?_)
  show pCm (Ev d) k_X3_merge E 0 [(51, 0), (0, N), (0, a0), (0, b0), (9, 0), (9, 0), (9, 0)] [] _
  refine R_aload rfl rfl rfl ?_
  refine R_iload rfl rfl ?_
  refine T_ald rfl rfl (by omega) (by omega) ?_
  refine R_aload rfl rfl rfl ?_
  refine R_iload rfl rfl ?_
  refine T_ald rfl rfl (by omega) (by omega) ?_
  refine R_inv rfl rfl rfl rfl rfl (sp_J9_min_7cf53 d (by omega) (Wd xs t dd rr σ) _ _) rfl ?_
  show pCm _ _ _ 9 _ [(0, _)] _
  generalize hlo : min (σ 35 a0) (σ 35 b0) = lo
  refine R_istore rfl rfl ?_
  refine R_aload rfl rfl rfl ?_
  refine R_iload rfl rfl ?_
  refine T_ald rfl rfl (by omega) (by omega) ?_
  refine R_aload rfl rfl rfl ?_
  refine R_iload rfl rfl ?_
  refine T_ald rfl rfl (by omega) (by omega) ?_
  refine R_inv rfl rfl rfl rfl rfl (sp_J9_max_7cf53 d (by omega) (Wd xs t dd rr σ) _ _) rfl ?_
  show pCm _ _ _ 20 _ [(0, _)] _
  generalize hhi : max (σ 35 a0) (σ 35 b0) = hi
  refine R_istore rfl rfl ?_
  refine R_push rfl ?_
  refine R_istore rfl rfl ?_
  refine loop (pc := 25) (α := Int × Sg) (fun a => (N - a.1).toNat) (fun a => ([(51, 0), (0, N), (0, a0), (0, b0), (0, lo), (0, hi), (0, a.1)], Wd xs t dd rr a.2)) (fun a => (0 ≤ a.1 ∧ a.1 ≤ N) ∧ Fr [35] [] σ a.2 ∧ ∀ p, 0 ≤ p → p < N → a.2 35 p = if p < a.1 then mrg N (σ 35) a0 b0 p else σ 35 p) ?_ (0, σ) ?_
  · intro ⟨k, s1⟩ ⟨hk, hF, hv⟩ ih
    dsimp only at hk hF hv ⊢
    have hh : k < N → s1 35 k = σ 35 k := fun q => by rw [hv k hk.1 q, if_neg (by omega)]
    refine R_iload rfl rfl ?_
    refine R_iload rfl rfl ?_
    refine R_ic rfl (fun h28 => ?_) (fun h28 => ?_)
    · try simp only [ne_eq, b2i_e, b2i_1, Classical.not_not] at h28
      refine R_vret rfl ?_
      exact hE _ _ rfl ⟨hF, fun p h0 h1 => by rw [hv p h0 h1, if_pos (by omega)]⟩
    · try simp only [ne_eq, b2i_e, b2i_1, Classical.not_not] at h28
      refine R_aload rfl rfl rfl ?_
      refine R_iload rfl rfl ?_
      refine T_ald rfl rfl (by omega) (by omega) ?_
      refine R_iload rfl rfl ?_
      refine R_ic rfl (fun h37 => ?_) (fun h37 => ?_)
      · try simp only [ne_eq, b2i_e, b2i_1, Classical.not_not] at h37
        refine R_inc rfl rfl (by omega) (by omega) ?_
        refine R_goto rfl ?_
        have hh := hh (by omega)
        first
        | (generalize hs3 : up2 s1 35 k _ = s3
           refine ih (k + 1, s3) ⟨by dsimp only; omega, by rw [← hs3]; exact hF.upr rfl, fun p h0 h1 => ?_⟩ (by dsimp only; omega)
           show s3 35 p = if p < k + 1 then _ else _
           rw [← hs3]
           by_cases q : p = k
           · subst q
             rw [up_s, if_pos (by omega), mrg_max h0 h1, if_pos (by omega)]; omega
           · rw [up_i q, hv p h0 h1]
             by_cases q2 : p < k
             · rw [if_pos q2, if_pos (by omega)]
             · rw [if_neg q2, if_neg (by omega)])
        | (refine ih (k + 1, s1) ⟨by dsimp only; omega, hF, fun p h0 h1 => ?_⟩ (by dsimp only; omega)
           show s1 35 p = if p < k + 1 then _ else _
           by_cases q : p = k
           · subst q
             rw [if_pos (by omega), mrg_max h0 h1, if_neg (by omega)]; exact hh
           · rw [hv p h0 h1]
             by_cases q2 : p < k
             · rw [if_pos q2, if_pos (by omega)]
             · rw [if_neg q2, if_neg (by omega)])
      · try simp only [ne_eq, b2i_e, b2i_1, Classical.not_not] at h37
        refine R_aload rfl rfl rfl ?_
        refine R_iload rfl rfl ?_
        refine R_iload rfl rfl ?_
        refine T_iast rfl rfl (by omega) (by omega) ?_
        refine R_inc rfl rfl (by omega) (by omega) ?_
        refine R_goto rfl ?_
        have hh := hh (by omega)
        first
        | (generalize hs3 : up2 s1 35 k _ = s3
           refine ih (k + 1, s3) ⟨by dsimp only; omega, by rw [← hs3]; exact hF.upr rfl, fun p h0 h1 => ?_⟩ (by dsimp only; omega)
           show s3 35 p = if p < k + 1 then _ else _
           rw [← hs3]
           by_cases q : p = k
           · subst q
             rw [up_s, if_pos (by omega), mrg_max h0 h1, if_pos (by omega)]; omega
           · rw [up_i q, hv p h0 h1]
             by_cases q2 : p < k
             · rw [if_pos q2, if_pos (by omega)]
             · rw [if_neg q2, if_neg (by omega)])
        | (refine ih (k + 1, s1) ⟨by dsimp only; omega, hF, fun p h0 h1 => ?_⟩ (by dsimp only; omega)
           show s1 35 p = if p < k + 1 then _ else _
           by_cases q : p = k
           · subst q
             rw [if_pos (by omega), mrg_max h0 h1, if_neg (by omega)]; exact hh
           · rw [hv p h0 h1]
             by_cases q2 : p < k
             · rw [if_pos q2, if_pos (by omega)]
             · rw [if_neg q2, if_neg (by omega)])
  · exact ⟨⟨Int.le_refl _, hN.1⟩, Fr.rf, fun p h0 h1 => by dsimp only; rw [if_neg (by omega)]⟩
set_option maxRecDepth 20000 in
set_option maxHeartbeats 2000000 in
theorem sp_X3_hang_29 (d : Nat) (hd : 3 ≤ d) (xs : List (Nat × Nat)) (t dd rr : Nat) (σ : Sg) (day br P J : Int) (hC : CB σ P J) (hbr : br = 0 ∨ br = 1) : ∃ σ', Ev d 176 [(44, 0), (45, 0), (0, day), (0, br)] (Wd xs t dd rr σ) (8, 0) (Wd xs t dd rr σ') ∧ Fr [29] [] σ σ' ∧ ∀ p, 0 ≤ p → p < P → σ' 29 p = lab P J (onC σ day br) (σ 22) (σ 23) p := by
  obtain ⟨d, rfl⟩ : ∃ e, d = e + 1 := ⟨d - 1, by omega⟩
  obtain ⟨h1_, h21_, hP0, hJ0, hAB⟩ := hC
  have hPJ : 0 ≤ P ∧ P ≤ 40 ∧ 0 ≤ J ∧ J ≤ 80 := ⟨hP0.1, hP0.2, hJ0.1, hJ0.2⟩
  clear hP0 hJ0
  refine evS (nL := 5) (code := k_X3_hang) rfl dc_X3_hang rfl (fun E hE => ?_)
  show pCm (Ev d) k_X3_hang E 0 [(44, 0), (45, 0), (0, day), (0, br), (9, 0)] [] _
  refine R_push rfl ?_
  refine R_istore rfl rfl ?_
  refine loop (pc := 3) (α := Int × Sg) (fun a => (P - a.1).toNat) (fun a => ([(44, 0), (45, 0), (0, day), (0, br), (0, a.1)], Wd xs t dd rr a.2)) (fun a => (0 ≤ a.1 ∧ a.1 ≤ P) ∧ Fr [29] [] σ a.2 ∧ ∀ p, 0 ≤ p → p < a.1 → a.2 29 p = p) ?_ (0, σ) ?_
  · intro ⟨k, s1⟩ ⟨hk, hF, hv⟩ ih
    dsimp only at hk hF hv ⊢
    have e1 := hF.row 1 rfl 0
    have e21 := hF.row 21 rfl 0
    refine R_iload rfl rfl ?_
    refine R_aload rfl rfl rfl ?_
    refine T_getr (v := 17) rfl rfl rfl rfl ?_
    refine T_geti rfl rfl rfl ?_
    refine R_ic rfl (fun h12 => ?_) (fun h12 => ?_)
    · try simp only [ne_eq, b2i_e, b2i_1, Classical.not_not] at h12
      refine R_push rfl ?_
      refine R_istore rfl rfl ?_
      refine loop (pc := 30) (α := Int × Sg) (fun a => (J - a.1).toNat) (fun a => ([(44, 0), (45, 0), (0, day), (0, br), (0, a.1)], Wd xs t dd rr a.2)) (fun a => (0 ≤ a.1 ∧ a.1 ≤ J) ∧ Fr [29] [] σ a.2 ∧ ∀ p, 0 ≤ p → p < P → a.2 29 p = lab P a.1 (onC σ day br) (σ 22) (σ 23) p) ?_ (0, s1) ?_
      · clear ih hk h12 e1 e21
        intro ⟨j, s1⟩ ⟨hk, hF, hv⟩ ih
        dsimp only at hk hF hv ⊢
        have e1 := hF.row 1 rfl 0
        have e21 := hF.row 21 rfl 0
        have e22 := hF.row 22 rfl j
        have e23 := hF.row 23 rfl j
        have e25 := hF.row 25 rfl j
        have e26 := hF.row 26 rfl j
        have e27 := hF.row 27 rfl j
        have hAj : j < J → _ := hAB j hk.1
        refine R_iload rfl rfl ?_
        refine R_aload rfl rfl rfl ?_
        refine T_getr (v := 37) rfl rfl rfl rfl ?_
        refine T_geti rfl rfl rfl ?_
        refine R_ic rfl (fun h39 => ?_) (fun h39 => ?_)
        · try simp only [ne_eq, b2i_e, b2i_1, Classical.not_not] at h39
          refine R_vret rfl ?_
          exact hE _ _ rfl ⟨hF, fun p h0 h1 => by rw [hv p h0 h1]; congr 1; omega⟩
        · try simp only [ne_eq, b2i_e, b2i_1, Classical.not_not] at h39
          refine R_aload rfl rfl rfl ?_
          refine T_getr (v := 37) rfl rfl rfl rfl ?_
          refine R_iload rfl rfl ?_
          refine R_iload rfl rfl ?_
          refine R_invv rfl rfl rfl rfl rfl rfl (sp_X4_stoodOn d (by omega) xs t dd rr s1 j day ⟨by omega, by omega⟩) rfl ?_
          show pCm _ _ _ 52 _ [(0, _)] _
          refine R_if rfl (fun h52 => ?_) (fun h52 => ?_)
          · try simp only [ne_eq, b2i_e, b2i_1, Classical.not_not] at h52
            refine R_inc rfl rfl (by omega) (by omega) ?_
            refine R_goto rfl ?_
            have hon : onC σ day br j = false := by unfold onC; rw [decide_eq_false_iff_not]; omega
            exact ih (j + 1, s1) ⟨by dsimp only; omega, hF, fun p h0 h1 => by dsimp only; rw [lab_s hk.1, hon]; exact hv p h0 h1⟩ (by dsimp only; omega)
          · try simp only [ne_eq, b2i_e, b2i_1, Classical.not_not] at h52
            refine R_aload rfl rfl rfl ?_
            refine T_getr (v := 37) rfl rfl rfl rfl ?_
            refine T_getr (v := 43) rfl rfl rfl rfl ?_
            refine R_iload rfl rfl ?_
            refine T_ald rfl rfl (by omega) (by omega) ?_
            refine R_if rfl (fun h65 => ?_) (fun h65 => ?_)
            · try simp only [ne_eq, b2i_e, b2i_1, Classical.not_not] at h65
              have hAj := hAj (by omega)
              refine R_aload rfl rfl rfl ?_
              refine R_aload rfl rfl rfl ?_
              refine T_getr (v := 17) rfl rfl rfl rfl ?_
              refine T_geti rfl rfl rfl ?_
              refine R_aload rfl rfl rfl ?_
              refine T_getr (v := 37) rfl rfl rfl rfl ?_
              refine T_getr (v := 38) rfl rfl rfl rfl ?_
              refine R_iload rfl rfl ?_
              refine T_ald rfl rfl (by omega) (by omega) ?_
              refine R_push rfl ?_
              refine R_dv rfl (by omega) (by omega) (by omega) ?_
              refine R_aload rfl rfl rfl ?_
              refine T_getr (v := 37) rfl rfl rfl rfl ?_
              refine T_getr (v := 39) rfl rfl rfl rfl ?_
              refine R_iload rfl rfl ?_
              refine T_ald rfl rfl (by omega) (by omega) ?_
              refine R_push rfl ?_
              refine R_dv rfl (by omega) (by omega) (by omega) ?_
              obtain ⟨s4, hev, hF4, hv4⟩ := sp_X3_merge_29 d (by omega) xs t dd rr s1 P (σ 22 j / 8) (σ 23 j / 8) ⟨by omega, by omega⟩ ⟨by omega, by omega⟩ ⟨by omega, by omega⟩
              rw [show s1 1 0 = P by omega, e22, e23]
              refine R_inv rfl rfl rfl rfl rfl (hev) rfl ?_
              show pCm _ _ _ 109 _ [] _
              have hon : onC σ day br j = true := by unfold onC; rw [decide_eq_true_iff]; omega
              refine R_inc rfl rfl (by omega) (by omega) ?_
              refine R_goto rfl ?_
              exact ih (j + 1, s4) ⟨by dsimp only; omega, hF.tr hF4 rfl rfl, fun p h0 h1 => by dsimp only; rw [lab_s hk.1, hon, hv4 p h0 h1]; exact mrg_congr hv (by omega) (by omega) p h0 h1⟩ (by dsimp only; omega)
            · try simp only [ne_eq, b2i_e, b2i_1, Classical.not_not] at h65
              refine R_iload rfl rfl ?_
              refine R_if rfl (fun h69 => ?_) (fun h69 => ?_)
              · try simp only [ne_eq, b2i_e, b2i_1, Classical.not_not] at h69
                refine R_inc rfl rfl (by omega) (by omega) ?_
                refine R_goto rfl ?_
                have hon : onC σ day br j = false := by unfold onC; rw [decide_eq_false_iff_not]; omega
                exact ih (j + 1, s1) ⟨by dsimp only; omega, hF, fun p h0 h1 => by dsimp only; rw [lab_s hk.1, hon]; exact hv p h0 h1⟩ (by dsimp only; omega)
              · try simp only [ne_eq, b2i_e, b2i_1, Classical.not_not] at h69
                have hAj := hAj (by omega)
                refine R_aload rfl rfl rfl ?_
                refine R_aload rfl rfl rfl ?_
                refine T_getr (v := 17) rfl rfl rfl rfl ?_
                refine T_geti rfl rfl rfl ?_
                refine R_aload rfl rfl rfl ?_
                refine T_getr (v := 37) rfl rfl rfl rfl ?_
                refine T_getr (v := 38) rfl rfl rfl rfl ?_
                refine R_iload rfl rfl ?_
                refine T_ald rfl rfl (by omega) (by omega) ?_
                refine R_push rfl ?_
                refine R_dv rfl (by omega) (by omega) (by omega) ?_
                refine R_aload rfl rfl rfl ?_
                refine T_getr (v := 37) rfl rfl rfl rfl ?_
                refine T_getr (v := 39) rfl rfl rfl rfl ?_
                refine R_iload rfl rfl ?_
                refine T_ald rfl rfl (by omega) (by omega) ?_
                refine R_push rfl ?_
                refine R_dv rfl (by omega) (by omega) (by omega) ?_
                obtain ⟨s4, hev, hF4, hv4⟩ := sp_X3_merge_29 d (by omega) xs t dd rr s1 P (σ 22 j / 8) (σ 23 j / 8) ⟨by omega, by omega⟩ ⟨by omega, by omega⟩ ⟨by omega, by omega⟩
                rw [show s1 1 0 = P by omega, e22, e23]
                refine R_inv rfl rfl rfl rfl rfl (hev) rfl ?_
                show pCm _ _ _ 109 _ [] _
                have hon : onC σ day br j = true := by unfold onC; rw [decide_eq_true_iff]; omega
                refine R_inc rfl rfl (by omega) (by omega) ?_
                refine R_goto rfl ?_
                exact ih (j + 1, s4) ⟨by dsimp only; omega, hF.tr hF4 rfl rfl, fun p h0 h1 => by dsimp only; rw [lab_s hk.1, hon, hv4 p h0 h1]; exact mrg_congr hv (by omega) (by omega) p h0 h1⟩ (by dsimp only; omega)
      · exact ⟨⟨Int.le_refl _, hPJ.2.2.1⟩, hF, fun p h0 h1 => by dsimp only; rw [lab_0]; exact hv p h0 (by omega)⟩
    · try simp only [ne_eq, b2i_e, b2i_1, Classical.not_not] at h12
      refine R_aload rfl rfl rfl ?_
      refine R_iload rfl rfl ?_
      refine R_iload rfl rfl ?_
      refine T_iast rfl rfl (by omega) (by omega) ?_
      refine R_inc rfl rfl (by omega) (by omega) ?_
      refine R_goto rfl ?_
      generalize hs3 : up2 s1 29 k _ = s3
      refine ih (k + 1, s3) ⟨by dsimp only; omega, by rw [← hs3]; exact hF.upr rfl, fun p h0 h1 => ?_⟩ (by dsimp only; omega)
      dsimp only at h1 ⊢
      rw [← hs3]
      by_cases q : p = k
      · rw [q, up_s]
      · rw [up_i q]; exact hv p h0 (by omega)
  · exact ⟨⟨Int.le_refl _, hPJ.1⟩, Fr.rf, fun p h0 h1 => by dsimp only at h1; omega⟩
set_option maxRecDepth 20000 in
set_option maxHeartbeats 2000000 in
theorem sp_X3_hang_30 (d : Nat) (hd : 3 ≤ d) (xs : List (Nat × Nat)) (t dd rr : Nat) (σ : Sg) (day br P J : Int) (hC : CB σ P J) (hbr : br = 0 ∨ br = 1) : ∃ σ', Ev d 176 [(44, 0), (46, 0), (0, day), (0, br)] (Wd xs t dd rr σ) (8, 0) (Wd xs t dd rr σ') ∧ Fr [30] [] σ σ' ∧ ∀ p, 0 ≤ p → p < P → σ' 30 p = lab P J (onC σ day br) (σ 22) (σ 23) p := by
  obtain ⟨d, rfl⟩ : ∃ e, d = e + 1 := ⟨d - 1, by omega⟩
  obtain ⟨h1_, h21_, hP0, hJ0, hAB⟩ := hC
  have hPJ : 0 ≤ P ∧ P ≤ 40 ∧ 0 ≤ J ∧ J ≤ 80 := ⟨hP0.1, hP0.2, hJ0.1, hJ0.2⟩
  clear hP0 hJ0
  refine evS (nL := 5) (code := k_X3_hang) rfl dc_X3_hang rfl (fun E hE => ?_)
  show pCm (Ev d) k_X3_hang E 0 [(44, 0), (46, 0), (0, day), (0, br), (9, 0)] [] _
  refine R_push rfl ?_
  refine R_istore rfl rfl ?_
  refine loop (pc := 3) (α := Int × Sg) (fun a => (P - a.1).toNat) (fun a => ([(44, 0), (46, 0), (0, day), (0, br), (0, a.1)], Wd xs t dd rr a.2)) (fun a => (0 ≤ a.1 ∧ a.1 ≤ P) ∧ Fr [30] [] σ a.2 ∧ ∀ p, 0 ≤ p → p < a.1 → a.2 30 p = p) ?_ (0, σ) ?_
  · intro ⟨k, s1⟩ ⟨hk, hF, hv⟩ ih
    dsimp only at hk hF hv ⊢
    have e1 := hF.row 1 rfl 0
    have e21 := hF.row 21 rfl 0
    refine R_iload rfl rfl ?_
    refine R_aload rfl rfl rfl ?_
    refine T_getr (v := 17) rfl rfl rfl rfl ?_
    refine T_geti rfl rfl rfl ?_
    refine R_ic rfl (fun h12 => ?_) (fun h12 => ?_)
    · try simp only [ne_eq, b2i_e, b2i_1, Classical.not_not] at h12
      refine R_push rfl ?_
      refine R_istore rfl rfl ?_
      refine loop (pc := 30) (α := Int × Sg) (fun a => (J - a.1).toNat) (fun a => ([(44, 0), (46, 0), (0, day), (0, br), (0, a.1)], Wd xs t dd rr a.2)) (fun a => (0 ≤ a.1 ∧ a.1 ≤ J) ∧ Fr [30] [] σ a.2 ∧ ∀ p, 0 ≤ p → p < P → a.2 30 p = lab P a.1 (onC σ day br) (σ 22) (σ 23) p) ?_ (0, s1) ?_
      · clear ih hk h12 e1 e21
        intro ⟨j, s1⟩ ⟨hk, hF, hv⟩ ih
        dsimp only at hk hF hv ⊢
        have e1 := hF.row 1 rfl 0
        have e21 := hF.row 21 rfl 0
        have e22 := hF.row 22 rfl j
        have e23 := hF.row 23 rfl j
        have e25 := hF.row 25 rfl j
        have e26 := hF.row 26 rfl j
        have e27 := hF.row 27 rfl j
        have hAj : j < J → _ := hAB j hk.1
        refine R_iload rfl rfl ?_
        refine R_aload rfl rfl rfl ?_
        refine T_getr (v := 37) rfl rfl rfl rfl ?_
        refine T_geti rfl rfl rfl ?_
        refine R_ic rfl (fun h39 => ?_) (fun h39 => ?_)
        · try simp only [ne_eq, b2i_e, b2i_1, Classical.not_not] at h39
          refine R_vret rfl ?_
          exact hE _ _ rfl ⟨hF, fun p h0 h1 => by rw [hv p h0 h1]; congr 1; omega⟩
        · try simp only [ne_eq, b2i_e, b2i_1, Classical.not_not] at h39
          refine R_aload rfl rfl rfl ?_
          refine T_getr (v := 37) rfl rfl rfl rfl ?_
          refine R_iload rfl rfl ?_
          refine R_iload rfl rfl ?_
          refine R_invv rfl rfl rfl rfl rfl rfl (sp_X4_stoodOn d (by omega) xs t dd rr s1 j day ⟨by omega, by omega⟩) rfl ?_
          show pCm _ _ _ 52 _ [(0, _)] _
          refine R_if rfl (fun h52 => ?_) (fun h52 => ?_)
          · try simp only [ne_eq, b2i_e, b2i_1, Classical.not_not] at h52
            refine R_inc rfl rfl (by omega) (by omega) ?_
            refine R_goto rfl ?_
            have hon : onC σ day br j = false := by unfold onC; rw [decide_eq_false_iff_not]; omega
            exact ih (j + 1, s1) ⟨by dsimp only; omega, hF, fun p h0 h1 => by dsimp only; rw [lab_s hk.1, hon]; exact hv p h0 h1⟩ (by dsimp only; omega)
          · try simp only [ne_eq, b2i_e, b2i_1, Classical.not_not] at h52
            refine R_aload rfl rfl rfl ?_
            refine T_getr (v := 37) rfl rfl rfl rfl ?_
            refine T_getr (v := 43) rfl rfl rfl rfl ?_
            refine R_iload rfl rfl ?_
            refine T_ald rfl rfl (by omega) (by omega) ?_
            refine R_if rfl (fun h65 => ?_) (fun h65 => ?_)
            · try simp only [ne_eq, b2i_e, b2i_1, Classical.not_not] at h65
              have hAj := hAj (by omega)
              refine R_aload rfl rfl rfl ?_
              refine R_aload rfl rfl rfl ?_
              refine T_getr (v := 17) rfl rfl rfl rfl ?_
              refine T_geti rfl rfl rfl ?_
              refine R_aload rfl rfl rfl ?_
              refine T_getr (v := 37) rfl rfl rfl rfl ?_
              refine T_getr (v := 38) rfl rfl rfl rfl ?_
              refine R_iload rfl rfl ?_
              refine T_ald rfl rfl (by omega) (by omega) ?_
              refine R_push rfl ?_
              refine R_dv rfl (by omega) (by omega) (by omega) ?_
              refine R_aload rfl rfl rfl ?_
              refine T_getr (v := 37) rfl rfl rfl rfl ?_
              refine T_getr (v := 39) rfl rfl rfl rfl ?_
              refine R_iload rfl rfl ?_
              refine T_ald rfl rfl (by omega) (by omega) ?_
              refine R_push rfl ?_
              refine R_dv rfl (by omega) (by omega) (by omega) ?_
              obtain ⟨s4, hev, hF4, hv4⟩ := sp_X3_merge_30 d (by omega) xs t dd rr s1 P (σ 22 j / 8) (σ 23 j / 8) ⟨by omega, by omega⟩ ⟨by omega, by omega⟩ ⟨by omega, by omega⟩
              rw [show s1 1 0 = P by omega, e22, e23]
              refine R_inv rfl rfl rfl rfl rfl (hev) rfl ?_
              show pCm _ _ _ 109 _ [] _
              have hon : onC σ day br j = true := by unfold onC; rw [decide_eq_true_iff]; omega
              refine R_inc rfl rfl (by omega) (by omega) ?_
              refine R_goto rfl ?_
              exact ih (j + 1, s4) ⟨by dsimp only; omega, hF.tr hF4 rfl rfl, fun p h0 h1 => by dsimp only; rw [lab_s hk.1, hon, hv4 p h0 h1]; exact mrg_congr hv (by omega) (by omega) p h0 h1⟩ (by dsimp only; omega)
            · try simp only [ne_eq, b2i_e, b2i_1, Classical.not_not] at h65
              refine R_iload rfl rfl ?_
              refine R_if rfl (fun h69 => ?_) (fun h69 => ?_)
              · try simp only [ne_eq, b2i_e, b2i_1, Classical.not_not] at h69
                refine R_inc rfl rfl (by omega) (by omega) ?_
                refine R_goto rfl ?_
                have hon : onC σ day br j = false := by unfold onC; rw [decide_eq_false_iff_not]; omega
                exact ih (j + 1, s1) ⟨by dsimp only; omega, hF, fun p h0 h1 => by dsimp only; rw [lab_s hk.1, hon]; exact hv p h0 h1⟩ (by dsimp only; omega)
              · try simp only [ne_eq, b2i_e, b2i_1, Classical.not_not] at h69
                have hAj := hAj (by omega)
                refine R_aload rfl rfl rfl ?_
                refine R_aload rfl rfl rfl ?_
                refine T_getr (v := 17) rfl rfl rfl rfl ?_
                refine T_geti rfl rfl rfl ?_
                refine R_aload rfl rfl rfl ?_
                refine T_getr (v := 37) rfl rfl rfl rfl ?_
                refine T_getr (v := 38) rfl rfl rfl rfl ?_
                refine R_iload rfl rfl ?_
                refine T_ald rfl rfl (by omega) (by omega) ?_
                refine R_push rfl ?_
                refine R_dv rfl (by omega) (by omega) (by omega) ?_
                refine R_aload rfl rfl rfl ?_
                refine T_getr (v := 37) rfl rfl rfl rfl ?_
                refine T_getr (v := 39) rfl rfl rfl rfl ?_
                refine R_iload rfl rfl ?_
                refine T_ald rfl rfl (by omega) (by omega) ?_
                refine R_push rfl ?_
                refine R_dv rfl (by omega) (by omega) (by omega) ?_
                obtain ⟨s4, hev, hF4, hv4⟩ := sp_X3_merge_30 d (by omega) xs t dd rr s1 P (σ 22 j / 8) (σ 23 j / 8) ⟨by omega, by omega⟩ ⟨by omega, by omega⟩ ⟨by omega, by omega⟩
                rw [show s1 1 0 = P by omega, e22, e23]
                refine R_inv rfl rfl rfl rfl rfl (hev) rfl ?_
                show pCm _ _ _ 109 _ [] _
                have hon : onC σ day br j = true := by unfold onC; rw [decide_eq_true_iff]; omega
                refine R_inc rfl rfl (by omega) (by omega) ?_
                refine R_goto rfl ?_
                exact ih (j + 1, s4) ⟨by dsimp only; omega, hF.tr hF4 rfl rfl, fun p h0 h1 => by dsimp only; rw [lab_s hk.1, hon, hv4 p h0 h1]; exact mrg_congr hv (by omega) (by omega) p h0 h1⟩ (by dsimp only; omega)
      · exact ⟨⟨Int.le_refl _, hPJ.2.2.1⟩, hF, fun p h0 h1 => by dsimp only; rw [lab_0]; exact hv p h0 (by omega)⟩
    · try simp only [ne_eq, b2i_e, b2i_1, Classical.not_not] at h12
      refine R_aload rfl rfl rfl ?_
      refine R_iload rfl rfl ?_
      refine R_iload rfl rfl ?_
      refine T_iast rfl rfl (by omega) (by omega) ?_
      refine R_inc rfl rfl (by omega) (by omega) ?_
      refine R_goto rfl ?_
      generalize hs3 : up2 s1 30 k _ = s3
      refine ih (k + 1, s3) ⟨by dsimp only; omega, by rw [← hs3]; exact hF.upr rfl, fun p h0 h1 => ?_⟩ (by dsimp only; omega)
      dsimp only at h1 ⊢
      rw [← hs3]
      by_cases q : p = k
      · rw [q, up_s]
      · rw [up_i q]; exact hv p h0 (by omega)
  · exact ⟨⟨Int.le_refl _, hPJ.1⟩, Fr.rf, fun p h0 h1 => by dsimp only at h1; omega⟩
set_option maxRecDepth 20000 in
set_option maxHeartbeats 2000000 in
theorem sp_X3_hang_33 (d : Nat) (hd : 3 ≤ d) (xs : List (Nat × Nat)) (t dd rr : Nat) (σ : Sg) (day br P J : Int) (hC : CB σ P J) (hbr : br = 0 ∨ br = 1) : ∃ σ', Ev d 176 [(44, 0), (49, 0), (0, day), (0, br)] (Wd xs t dd rr σ) (8, 0) (Wd xs t dd rr σ') ∧ Fr [33] [] σ σ' ∧ ∀ p, 0 ≤ p → p < P → σ' 33 p = lab P J (onC σ day br) (σ 22) (σ 23) p := by
  obtain ⟨d, rfl⟩ : ∃ e, d = e + 1 := ⟨d - 1, by omega⟩
  obtain ⟨h1_, h21_, hP0, hJ0, hAB⟩ := hC
  have hPJ : 0 ≤ P ∧ P ≤ 40 ∧ 0 ≤ J ∧ J ≤ 80 := ⟨hP0.1, hP0.2, hJ0.1, hJ0.2⟩
  clear hP0 hJ0
  refine evS (nL := 5) (code := k_X3_hang) rfl dc_X3_hang rfl (fun E hE => ?_)
  show pCm (Ev d) k_X3_hang E 0 [(44, 0), (49, 0), (0, day), (0, br), (9, 0)] [] _
  refine R_push rfl ?_
  refine R_istore rfl rfl ?_
  refine loop (pc := 3) (α := Int × Sg) (fun a => (P - a.1).toNat) (fun a => ([(44, 0), (49, 0), (0, day), (0, br), (0, a.1)], Wd xs t dd rr a.2)) (fun a => (0 ≤ a.1 ∧ a.1 ≤ P) ∧ Fr [33] [] σ a.2 ∧ ∀ p, 0 ≤ p → p < a.1 → a.2 33 p = p) ?_ (0, σ) ?_
  · intro ⟨k, s1⟩ ⟨hk, hF, hv⟩ ih
    dsimp only at hk hF hv ⊢
    have e1 := hF.row 1 rfl 0
    have e21 := hF.row 21 rfl 0
    refine R_iload rfl rfl ?_
    refine R_aload rfl rfl rfl ?_
    refine T_getr (v := 17) rfl rfl rfl rfl ?_
    refine T_geti rfl rfl rfl ?_
    refine R_ic rfl (fun h12 => ?_) (fun h12 => ?_)
    · try simp only [ne_eq, b2i_e, b2i_1, Classical.not_not] at h12
      refine R_push rfl ?_
      refine R_istore rfl rfl ?_
      refine loop (pc := 30) (α := Int × Sg) (fun a => (J - a.1).toNat) (fun a => ([(44, 0), (49, 0), (0, day), (0, br), (0, a.1)], Wd xs t dd rr a.2)) (fun a => (0 ≤ a.1 ∧ a.1 ≤ J) ∧ Fr [33] [] σ a.2 ∧ ∀ p, 0 ≤ p → p < P → a.2 33 p = lab P a.1 (onC σ day br) (σ 22) (σ 23) p) ?_ (0, s1) ?_
      · clear ih hk h12 e1 e21
        intro ⟨j, s1⟩ ⟨hk, hF, hv⟩ ih
        dsimp only at hk hF hv ⊢
        have e1 := hF.row 1 rfl 0
        have e21 := hF.row 21 rfl 0
        have e22 := hF.row 22 rfl j
        have e23 := hF.row 23 rfl j
        have e25 := hF.row 25 rfl j
        have e26 := hF.row 26 rfl j
        have e27 := hF.row 27 rfl j
        have hAj : j < J → _ := hAB j hk.1
        refine R_iload rfl rfl ?_
        refine R_aload rfl rfl rfl ?_
        refine T_getr (v := 37) rfl rfl rfl rfl ?_
        refine T_geti rfl rfl rfl ?_
        refine R_ic rfl (fun h39 => ?_) (fun h39 => ?_)
        · try simp only [ne_eq, b2i_e, b2i_1, Classical.not_not] at h39
          refine R_vret rfl ?_
          exact hE _ _ rfl ⟨hF, fun p h0 h1 => by rw [hv p h0 h1]; congr 1; omega⟩
        · try simp only [ne_eq, b2i_e, b2i_1, Classical.not_not] at h39
          refine R_aload rfl rfl rfl ?_
          refine T_getr (v := 37) rfl rfl rfl rfl ?_
          refine R_iload rfl rfl ?_
          refine R_iload rfl rfl ?_
          refine R_invv rfl rfl rfl rfl rfl rfl (sp_X4_stoodOn d (by omega) xs t dd rr s1 j day ⟨by omega, by omega⟩) rfl ?_
          show pCm _ _ _ 52 _ [(0, _)] _
          refine R_if rfl (fun h52 => ?_) (fun h52 => ?_)
          · try simp only [ne_eq, b2i_e, b2i_1, Classical.not_not] at h52
            refine R_inc rfl rfl (by omega) (by omega) ?_
            refine R_goto rfl ?_
            have hon : onC σ day br j = false := by unfold onC; rw [decide_eq_false_iff_not]; omega
            exact ih (j + 1, s1) ⟨by dsimp only; omega, hF, fun p h0 h1 => by dsimp only; rw [lab_s hk.1, hon]; exact hv p h0 h1⟩ (by dsimp only; omega)
          · try simp only [ne_eq, b2i_e, b2i_1, Classical.not_not] at h52
            refine R_aload rfl rfl rfl ?_
            refine T_getr (v := 37) rfl rfl rfl rfl ?_
            refine T_getr (v := 43) rfl rfl rfl rfl ?_
            refine R_iload rfl rfl ?_
            refine T_ald rfl rfl (by omega) (by omega) ?_
            refine R_if rfl (fun h65 => ?_) (fun h65 => ?_)
            · try simp only [ne_eq, b2i_e, b2i_1, Classical.not_not] at h65
              have hAj := hAj (by omega)
              refine R_aload rfl rfl rfl ?_
              refine R_aload rfl rfl rfl ?_
              refine T_getr (v := 17) rfl rfl rfl rfl ?_
              refine T_geti rfl rfl rfl ?_
              refine R_aload rfl rfl rfl ?_
              refine T_getr (v := 37) rfl rfl rfl rfl ?_
              refine T_getr (v := 38) rfl rfl rfl rfl ?_
              refine R_iload rfl rfl ?_
              refine T_ald rfl rfl (by omega) (by omega) ?_
              refine R_push rfl ?_
              refine R_dv rfl (by omega) (by omega) (by omega) ?_
              refine R_aload rfl rfl rfl ?_
              refine T_getr (v := 37) rfl rfl rfl rfl ?_
              refine T_getr (v := 39) rfl rfl rfl rfl ?_
              refine R_iload rfl rfl ?_
              refine T_ald rfl rfl (by omega) (by omega) ?_
              refine R_push rfl ?_
              refine R_dv rfl (by omega) (by omega) (by omega) ?_
              obtain ⟨s4, hev, hF4, hv4⟩ := sp_X3_merge_33 d (by omega) xs t dd rr s1 P (σ 22 j / 8) (σ 23 j / 8) ⟨by omega, by omega⟩ ⟨by omega, by omega⟩ ⟨by omega, by omega⟩
              rw [show s1 1 0 = P by omega, e22, e23]
              refine R_inv rfl rfl rfl rfl rfl (hev) rfl ?_
              show pCm _ _ _ 109 _ [] _
              have hon : onC σ day br j = true := by unfold onC; rw [decide_eq_true_iff]; omega
              refine R_inc rfl rfl (by omega) (by omega) ?_
              refine R_goto rfl ?_
              exact ih (j + 1, s4) ⟨by dsimp only; omega, hF.tr hF4 rfl rfl, fun p h0 h1 => by dsimp only; rw [lab_s hk.1, hon, hv4 p h0 h1]; exact mrg_congr hv (by omega) (by omega) p h0 h1⟩ (by dsimp only; omega)
            · try simp only [ne_eq, b2i_e, b2i_1, Classical.not_not] at h65
              refine R_iload rfl rfl ?_
              refine R_if rfl (fun h69 => ?_) (fun h69 => ?_)
              · try simp only [ne_eq, b2i_e, b2i_1, Classical.not_not] at h69
                refine R_inc rfl rfl (by omega) (by omega) ?_
                refine R_goto rfl ?_
                have hon : onC σ day br j = false := by unfold onC; rw [decide_eq_false_iff_not]; omega
                exact ih (j + 1, s1) ⟨by dsimp only; omega, hF, fun p h0 h1 => by dsimp only; rw [lab_s hk.1, hon]; exact hv p h0 h1⟩ (by dsimp only; omega)
              · try simp only [ne_eq, b2i_e, b2i_1, Classical.not_not] at h69
                have hAj := hAj (by omega)
                refine R_aload rfl rfl rfl ?_
                refine R_aload rfl rfl rfl ?_
                refine T_getr (v := 17) rfl rfl rfl rfl ?_
                refine T_geti rfl rfl rfl ?_
                refine R_aload rfl rfl rfl ?_
                refine T_getr (v := 37) rfl rfl rfl rfl ?_
                refine T_getr (v := 38) rfl rfl rfl rfl ?_
                refine R_iload rfl rfl ?_
                refine T_ald rfl rfl (by omega) (by omega) ?_
                refine R_push rfl ?_
                refine R_dv rfl (by omega) (by omega) (by omega) ?_
                refine R_aload rfl rfl rfl ?_
                refine T_getr (v := 37) rfl rfl rfl rfl ?_
                refine T_getr (v := 39) rfl rfl rfl rfl ?_
                refine R_iload rfl rfl ?_
                refine T_ald rfl rfl (by omega) (by omega) ?_
                refine R_push rfl ?_
                refine R_dv rfl (by omega) (by omega) (by omega) ?_
                obtain ⟨s4, hev, hF4, hv4⟩ := sp_X3_merge_33 d (by omega) xs t dd rr s1 P (σ 22 j / 8) (σ 23 j / 8) ⟨by omega, by omega⟩ ⟨by omega, by omega⟩ ⟨by omega, by omega⟩
                rw [show s1 1 0 = P by omega, e22, e23]
                refine R_inv rfl rfl rfl rfl rfl (hev) rfl ?_
                show pCm _ _ _ 109 _ [] _
                have hon : onC σ day br j = true := by unfold onC; rw [decide_eq_true_iff]; omega
                refine R_inc rfl rfl (by omega) (by omega) ?_
                refine R_goto rfl ?_
                exact ih (j + 1, s4) ⟨by dsimp only; omega, hF.tr hF4 rfl rfl, fun p h0 h1 => by dsimp only; rw [lab_s hk.1, hon, hv4 p h0 h1]; exact mrg_congr hv (by omega) (by omega) p h0 h1⟩ (by dsimp only; omega)
      · exact ⟨⟨Int.le_refl _, hPJ.2.2.1⟩, hF, fun p h0 h1 => by dsimp only; rw [lab_0]; exact hv p h0 (by omega)⟩
    · try simp only [ne_eq, b2i_e, b2i_1, Classical.not_not] at h12
      refine R_aload rfl rfl rfl ?_
      refine R_iload rfl rfl ?_
      refine R_iload rfl rfl ?_
      refine T_iast rfl rfl (by omega) (by omega) ?_
      refine R_inc rfl rfl (by omega) (by omega) ?_
      refine R_goto rfl ?_
      generalize hs3 : up2 s1 33 k _ = s3
      refine ih (k + 1, s3) ⟨by dsimp only; omega, by rw [← hs3]; exact hF.upr rfl, fun p h0 h1 => ?_⟩ (by dsimp only; omega)
      dsimp only at h1 ⊢
      rw [← hs3]
      by_cases q : p = k
      · rw [q, up_s]
      · rw [up_i q]; exact hv p h0 (by omega)
  · exact ⟨⟨Int.le_refl _, hPJ.1⟩, Fr.rf, fun p h0 h1 => by dsimp only at h1; omega⟩

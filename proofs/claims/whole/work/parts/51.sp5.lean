def onS (σ : Sg) (j : Int) : Bool := decide (σ 26 j = -1)
def onM (σ : Sg) (j : Int) : Bool := decide (σ 106 j = -1)
theorem modE (n : Int) (h : -1000 ≤ n ∧ n ≤ 1000) : pAnd n 7 = n % 8 := by
  have key : ∀ m : Nat, m ≤ 2000 → pAnd ((m : Int) - 1000) 7 = ((m : Int) - 1000) % 8 := by decide +kernel
  have := key (n + 1000).toNat (by omega)
  rwa [show (((n + 1000).toNat : Nat) : Int) - 1000 = n by omega] at this
set_option maxRecDepth 20000 in
set_option maxHeartbeats 2000000 in
theorem sp_X3_setNeighbours (d : Nat) (hd : 3 ≤ d) (xs : List (Nat × Nat)) (t dd rr : Nat) (σ : Sg) (u n0 P J : Int) (hC : CB σ P J) (hT : ∀ j, 0 ≤ j → j < J → 0 ≤ σ 24 j ∧ σ 24 j ≤ 7) (hu : 0 ≤ u ∧ u < P) (hu2 : σ 31 u ≠ -1) (hB : BI P (n0, σ 34, σ 31)) : ∃ σ', Ev d 179 [(44, 0), (0, u), (0, n0)] (Wd xs t dd rr σ) (0, (bpiece (onS σ) (σ 22) (σ 23) (σ 24) J u (n0, σ 34, σ 31)).1) (Wd xs t dd rr σ') ∧ Fr [31, 34] [] σ σ' ∧ (σ' 34 = (bpiece (onS σ) (σ 22) (σ 23) (σ 24) J u (n0, σ 34, σ 31)).2.1 ∧ σ' 31 = (bpiece (onS σ) (σ 22) (σ 23) (σ 24) J u (n0, σ 34, σ 31)).2.2) := by
  obtain ⟨d, rfl⟩ : ∃ e, d = e + 1 := ⟨d - 1, by omega⟩
  obtain ⟨h1_, h21_, hP0, hJ0, hAB⟩ := hC
  have hPJ : 0 ≤ P ∧ P ≤ 40 ∧ 0 ≤ J ∧ J ≤ 80 := ⟨hP0.1, hP0.2, hJ0.1, hJ0.2⟩
  clear hP0 hJ0
  refine evS (nL := 6) (code := k_X3_setNeighbours) rfl dc_X3_setNeighbours rfl (fun E hE => ?_)
  show pCm (Ev d) k_X3_setNeighbours E 0 [(44, 0), (0, u), (0, n0), (9, 0), (9, 0), (9, 0)] [] _
  refine R_iload rfl rfl ?_
  refine R_istore rfl rfl ?_
  refine R_push rfl ?_
  refine R_istore rfl rfl ?_
  refine fgt wc_X3_setNeighbours [1, 1, 1, 1, 1, 0] ?_
  refine loop (pc := 5) (α := Int × Sg × Int) (fun a => (J - a.1).toNat) (fun a => ([(44, 0), (0, u), (0, n0), (0, a.2.2), (0, a.1), (9, 0)], Wd xs t dd rr a.2.1)) (fun a => (0 ≤ a.1 ∧ a.1 ≤ J) ∧ Fr [31, 34] [] σ a.2.1 ∧ (a.2.2, a.2.1 34, a.2.1 31) = bpiece (onS σ) (σ 22) (σ 23) (σ 24) a.1 u (n0, σ 34, σ 31)) ?_ (0, σ, n0) ?_
  · intro ⟨j, s1, n⟩ ⟨hk, hF, hst⟩ ih
    dsimp only at hk hF hst ⊢
    have e21 := hF.row 21 rfl 0
    have e22 := hF.row 22 rfl j
    have e23 := hF.row 23 rfl j
    have e24 := hF.row 24 rfl j
    have e26 := hF.row 26 rfl j
    have hAj : j < J → _ := hAB j hk.1
    have hTj : j < J → _ := hT j hk.1
    obtain ⟨bi, bn, bq, bt⟩ := BI_piece (on := onS σ) (T := σ 24) (u := u) hPJ.1 hPJ.2.2.1 hAB hB j hk.1 hk.2
    have htu := bt u hu2
    rw [← hst] at bi bn bq bt htu
    dsimp only at bi bn bq bt htu
    have hbu := bi.2.2 u hu.1 hu.2
    dsimp only at hbu
    have hle := BI_le hPJ.1 bi
    dsimp only at hle
    have hn1 := hB.1.1
    dsimp only at hn1
    refine R_iload rfl rfl ?_
    refine R_aload rfl rfl rfl ?_
    refine T_getr (v := 37) rfl rfl rfl rfl ?_
    refine T_geti rfl rfl rfl ?_
    refine R_ic rfl (fun h14 => ?_) (fun h14 => ?_)
    · try simp only [ne_eq, b2i_e, b2i_1, Classical.not_not] at h14
      refine R_iload rfl rfl ?_
      refine R_iret rfl ?_
      exact hE _ _ (by rw [show j = J by omega] at hst; rw [← hst]) ⟨hF, by rw [show j = J by omega] at hst; rw [← hst]; exact ⟨rfl, rfl⟩⟩
    · try simp only [ne_eq, b2i_e, b2i_1, Classical.not_not] at h14
      have J43 : ∀ q : Int, q = nbr (onS σ) (σ 22) (σ 23) u j → pCm (Ev d) k_X3_setNeighbours E 43 [(44, 0), (0, u), (0, n0), (0, n), (0, j), (9, 0)] [(0, q)] (Wd xs t dd rr s1) := by
        intro q hq
        have hAj := hAj (by omega)
        have hTj := hTj (by omega)
        have hqin := nbr_in (on := onS σ) (u := u) hAB hk.1 (show j < J by omega)
        rw [← hq] at hqin
        obtain ⟨-, -, -, -, blt⟩ := BI_step (on := onS σ) (T := σ 24) (u := u) (j := j) hPJ.1 hAB hk.1 (by omega) bi
        dsimp only at blt
        rw [← hq] at blt
        have hnb : nbr (onS σ) (σ 22) (σ 23) u j = q := hq.symm
        refine R_istore rfl rfl ?_
        refine R_iload rfl rfl ?_
        refine R_push rfl ?_
        refine R_ic rfl (fun h48 => ?_) (fun h48 => ?_)
        · try simp only [ne_eq, b2i_e, b2i_1, Classical.not_not] at h48
          refine R_inc rfl rfl (by omega) (by omega) ?_
          refine R_goto rfl ?_
          refine fgt wc_X3_setNeighbours [1, 1, 1, 1, 1, 0] ?_
          exact ih (j + 1, s1, n) ⟨by dsimp only; omega, hF, by
            dsimp only
            rw [bpiece_s hk.1, ← hst]
            unfold bstep
            rw [if_neg]
            rw [hnb]
            dsimp only
            intro ⟨z1, z2⟩
            first | exact z1 h48 | exact h59 z2 | (have := blt ⟨z1, z2⟩; omega)⟩ (by dsimp only; omega)
        · try simp only [ne_eq, b2i_e, b2i_1, Classical.not_not] at h48
          refine R_aload rfl rfl rfl ?_
          refine T_getr (v := 47) rfl rfl rfl rfl ?_
          refine R_iload rfl rfl ?_
          refine T_ald rfl rfl (by omega) (by omega) ?_
          refine R_push rfl ?_
          refine R_ic rfl (fun h59 => ?_) (fun h59 => ?_)
          · try simp only [ne_eq, b2i_e, b2i_1, Classical.not_not] at h59
            refine R_inc rfl rfl (by omega) (by omega) ?_
            refine R_goto rfl ?_
            refine fgt wc_X3_setNeighbours [1, 1, 1, 1, 1, 0] ?_
            exact ih (j + 1, s1, n) ⟨by dsimp only; omega, hF, by
              dsimp only
              rw [bpiece_s hk.1, ← hst]
              unfold bstep
              rw [if_neg]
              rw [hnb]
              dsimp only
              intro ⟨z1, z2⟩
              first | exact z1 h48 | exact h59 z2 | (have := blt ⟨z1, z2⟩; omega)⟩ (by dsimp only; omega)
          · try simp only [ne_eq, b2i_e, b2i_1, Classical.not_not] at h59
            refine R_iload rfl rfl ?_
            refine R_push rfl ?_
            refine R_ic rfl (fun h65 => ?_) (fun h65 => ?_)
            · try simp only [ne_eq, b2i_e, b2i_1, Classical.not_not] at h65
              refine R_inc rfl rfl (by omega) (by omega) ?_
              refine R_goto rfl ?_
              refine fgt wc_X3_setNeighbours [1, 1, 1, 1, 1, 0] ?_
              exact ih (j + 1, s1, n) ⟨by dsimp only; omega, hF, by
                dsimp only
                rw [bpiece_s hk.1, ← hst]
                unfold bstep
                rw [if_neg]
                rw [hnb]
                dsimp only
                intro ⟨z1, z2⟩
                first | exact z1 h48 | exact h59 z2 | (have := blt ⟨z1, z2⟩; omega)⟩ (by dsimp only; omega)
            · try simp only [ne_eq, b2i_e, b2i_1, Classical.not_not] at h65
              refine R_aload rfl rfl rfl ?_
              refine T_getr (v := 47) rfl rfl rfl rfl ?_
              refine R_iload rfl rfl ?_
              refine R_aload rfl rfl rfl ?_
              refine T_getr (v := 37) rfl rfl rfl rfl ?_
              refine T_getr (v := 40) rfl rfl rfl rfl ?_
              refine R_iload rfl rfl ?_
              refine T_ald rfl rfl (by omega) (by omega) ?_
              refine R_aload rfl rfl rfl ?_
              refine T_getr (v := 47) rfl rfl rfl rfl ?_
              refine R_iload rfl rfl ?_
              refine T_ald rfl rfl (by omega) (by omega) ?_
              refine R_sub rfl (by omega) (by omega) ?_
              refine R_inv rfl rfl rfl rfl rfl (sp_X9_modEight d (by omega) _ _) rfl ?_
              show pCm _ _ _ 94 _ [(0, _), (0, _), (47, 0)] _
              rw [modE _ (by omega), e24, htu]
              refine T_iast rfl rfl (by omega) (by omega) ?_
              refine R_aload rfl rfl rfl ?_
              refine T_getr (v := 50) rfl rfl rfl rfl ?_
              refine R_iload rfl rfl ?_
              refine R_iload rfl rfl ?_
              refine T_iast rfl rfl (by omega) (by omega) ?_
              refine R_inc rfl rfl (by omega) (by omega) ?_
              refine R_inc rfl rfl (by omega) (by omega) ?_
              refine R_goto rfl ?_
              refine fgt wc_X3_setNeighbours [1, 1, 1, 1, 1, 0] ?_
              generalize hs3 : up2 (up2 s1 31 q _) 34 n q = s3
              refine ih (j + 1, s3, n + 1) ⟨by dsimp only; omega, by rw [← hs3]; exact (hF.upr rfl).upr rfl, ?_⟩ (by dsimp only; omega)
              dsimp only
              rw [bpiece_s hk.1, ← hst]
              unfold bstep
              rw [hnb, if_pos ⟨by omega, by dsimp only; omega⟩]
              dsimp only
              rw [← hs3, up_row, up_rowo (by decide), up_rowo (by decide), up_row, htu]
      refine R_aload rfl rfl rfl ?_
      refine T_getr (v := 37) rfl rfl rfl rfl ?_
      refine R_iload rfl rfl ?_
      refine R_invv rfl rfl rfl rfl rfl rfl (sp_X4_stands d (by omega) xs t dd rr s1 j J (by omega) (by omega)) rfl ?_
      show pCm _ _ _ 26 _ [(0, _)] _
      refine R_if rfl (fun h26 => ?_) (fun h26 => ?_)
      · try simp only [ne_eq, b2i_e, b2i_1, Classical.not_not] at h26
        refine R_push rfl ?_
        exact J43 _ (by
          first
          | (have ho : onS σ j = false := by unfold onS; rw [decide_eq_false_iff_not]; omega
             simp [nbr, ho])
          | (have ho : onS σ j = true := by unfold onS; rw [decide_eq_true_iff]; omega
             simp [nbr, ho, e22, e23]))
      · try simp only [ne_eq, b2i_e, b2i_1, Classical.not_not] at h26
        refine R_aload rfl rfl rfl ?_
        refine T_getr (v := 37) rfl rfl rfl rfl ?_
        refine R_iload rfl rfl ?_
        refine R_iload rfl rfl ?_
        have hAj2 := hAj (by omega)
        refine R_invv rfl rfl rfl rfl rfl rfl (sp_X4_neighbour d (by omega) xs t dd rr s1 j u ⟨by omega, by omega⟩ ⟨by omega, by omega⟩ ⟨by omega, by omega⟩) rfl ?_
        show pCm _ _ _ 39 _ [(0, _)] _
        refine R_goto rfl ?_
        exact J43 _ (by
          first
          | (have ho : onS σ j = false := by unfold onS; rw [decide_eq_false_iff_not]; omega
             simp [nbr, ho])
          | (have ho : onS σ j = true := by unfold onS; rw [decide_eq_true_iff]; omega
             simp [nbr, ho, e22, e23]))
  · exact ⟨⟨Int.le_refl _, hPJ.2.2.1⟩, Fr.rf, rfl⟩

set_option maxRecDepth 20000 in
set_option maxHeartbeats 2000000 in
theorem sp_X0_addCut (d : Nat) (hd : 3 ≤ d) (xs : List (Nat × Nat)) (t dd rr : Nat) (σ s : Sg) (c a b w : Int) (P J : Int) (hH : BH σ P J) (hFb : Fb σ s) (hR : RG s σ P J c) (ha : 0 ≤ a ∧ a < 8 * P) (hb : 0 ≤ b ∧ b < 8 * P) (hsa : hsS σ a = 1) (hsb : hsS σ b = 1) (hca : σ 29 (a / 8) = c) (hcb : σ 29 (b / 8) = c) (hw : 0 ≤ w ∧ w ≤ 15) (hU : ∀ i, 0 ≤ i → i < 144 → 0 ≤ s 60 i ∧ s 60 i ≤ 1000000) : ∃ σ', Ev d 146 [(73, 0), (0, a), (0, b), (0, w)] (Wd xs t dd rr s) (8, 0) (Wd xs t dd rr σ') ∧ σ' = if (0 ≤ blS σ P J a ∧ 0 ≤ blS σ P J b ∧ blS σ P J a ≠ blS σ P J b) then up2 (up2 s 60 (12 * idx (gtS σ P J c (8 * P)).2 (gtS σ P J c (8 * P)).1 (blS σ P J a) + idx (gtS σ P J c (8 * P)).2 (gtS σ P J c (8 * P)).1 (blS σ P J b)) (s 60 (12 * idx (gtS σ P J c (8 * P)).2 (gtS σ P J c (8 * P)).1 (blS σ P J a) + idx (gtS σ P J c (8 * P)).2 (gtS σ P J c (8 * P)).1 (blS σ P J b)) + w)) 61 (idx (gtS σ P J c (8 * P)).2 (gtS σ P J c (8 * P)).1 (blS σ P J a)) (pOr (s 61 (idx (gtS σ P J c (8 * P)).2 (gtS σ P J c (8 * P)).1 (blS σ P J a))) (pShl 1 (idx (gtS σ P J c (8 * P)).2 (gtS σ P J c (8 * P)).1 (blS σ P J b)))) else s := by
  obtain ⟨d, rfl⟩ : ∃ e, d = e + 1 := ⟨d - 1, by omega⟩
  obtain ⟨⟨hP, hJ, h0, hJ0, hJB⟩, hHH, h32, h17, hcut⟩ := id hH
  have hTb := hR.2.1
  have ra := fun q => RG_in hH ha.1 ha.2 hsa hca q
  have rb := fun q => RG_in hH hb.1 hb.2 hsb hcb q
  have ba : -1 ≤ blS σ P J a := (bl_bd hHH ha.1 ha.2 hsa).1
  have bb : -1 ≤ blS σ P J b := (bl_bd hHH hb.1 hb.2 hsb).1
  have na : blS σ P J a = -1 → idx (gtS σ P J c (8 * P)).2 (gtS σ P J c (8 * P)).1 (blS σ P J a) = -1 := fun q => idx_none hTb.1 (fun i i0 i1 => by have := hR.2.2.2.2 i i0 i1; omega)
  have nb : blS σ P J b = -1 → idx (gtS σ P J c (8 * P)).2 (gtS σ P J c (8 * P)).1 (blS σ P J b) = -1 := fun q => idx_none hTb.1 (fun i i0 i1 => by have := hR.2.2.2.2 i i0 i1; omega)
  have ne : 0 ≤ blS σ P J a → 0 ≤ blS σ P J b → idx (gtS σ P J c (8 * P)).2 (gtS σ P J c (8 * P)).1 (blS σ P J a) = idx (gtS σ P J c (8 * P)).2 (gtS σ P J c (8 * P)).1 (blS σ P J b) → blS σ P J a = blS σ P J b := fun q1 q2 w => by
    rcases idx_c (R := (gtS σ P J c (8 * P)).2) (T := (gtS σ P J c (8 * P)).1) (y := blS σ P J a) hTb.1 with z | z
    · have := ra q1; omega
    · rcases idx_c (R := (gtS σ P J c (8 * P)).2) (T := (gtS σ P J c (8 * P)).1) (y := blS σ P J b) hTb.1 with y | y
      · have := rb q2; omega
      · rw [← z.2.2, ← y.2.2, w]
  have ee : blS σ P J a = blS σ P J b → idx (gtS σ P J c (8 * P)).2 (gtS σ P J c (8 * P)).1 (blS σ P J a) = idx (gtS σ P J c (8 * P)).2 (gtS σ P J c (8 * P)).1 (blS σ P J b) := fun q => by rw [q]
  have hAC : (0 ≤ blS σ P J a ∧ 0 ≤ blS σ P J b ∧ blS σ P J a ≠ blS σ P J b) ↔ idx (gtS σ P J c (8 * P)).2 (gtS σ P J c (8 * P)).1 (blS σ P J a) ≠ -1 ∧ idx (gtS σ P J c (8 * P)).2 (gtS σ P J c (8 * P)).1 (blS σ P J b) ≠ -1 ∧ idx (gtS σ P J c (8 * P)).2 (gtS σ P J c (8 * P)).1 (blS σ P J a) ≠ idx (gtS σ P J c (8 * P)).2 (gtS σ P J c (8 * P)).1 (blS σ P J b) := by
    constructor
    · intro ⟨q1, q2, q3⟩
      have := ra q1
      have := rb q2
      exact ⟨by omega, by omega, fun z => q3 (ne q1 q2 z)⟩
    · intro ⟨q1, q2, q3⟩
      refine ⟨by have := na; omega, by have := nb; omega, fun z => q3 (ee z)⟩
  refine evS (nL := 6) (code := k_X0_addCut) rfl dc_X0_addCut rfl (fun E hE => ?_)
  show pCm (Ev d) k_X0_addCut E 0 [(73, 0), (0, a), (0, b), (0, w), (9, 0), (9, 0)] [] _
  refine R_aload rfl rfl rfl ?_
  refine R_aload rfl rfl rfl ?_
  refine R_iload rfl rfl ?_
  have hbo := sp_X0_blowOf d (by omega) xs t dd rr s P J (BH_fr hH hFb) a ⟨by omega, by omega⟩ (by rw [hsS_fr (hFb.fn 13 rfl)]; omega)
  rw [blS_fr hFb] at hbo
  refine R_invv rfl rfl rfl rfl rfl rfl (hbo) rfl ?_
  show pCm _ _ _ 6 _ [(0, _), (73, 0)] _
  have hpl := sp_X0_placeOf d (by omega) xs t dd rr s (blS σ P J a) (gtS σ P J c (8 * P)).2 (gtS σ P J c (8 * P)).1 hR
  refine R_invv rfl rfl rfl rfl rfl rfl (hpl) rfl ?_
  show pCm _ _ _ 9 _ [(0, _)] _
  refine R_istore rfl rfl ?_
  refine R_aload rfl rfl rfl ?_
  refine R_aload rfl rfl rfl ?_
  refine R_iload rfl rfl ?_
  have hbo := sp_X0_blowOf d (by omega) xs t dd rr s P J (BH_fr hH hFb) b ⟨by omega, by omega⟩ (by rw [hsS_fr (hFb.fn 13 rfl)]; omega)
  rw [blS_fr hFb] at hbo
  refine R_invv rfl rfl rfl rfl rfl rfl (hbo) rfl ?_
  show pCm _ _ _ 17 _ [(0, _), (73, 0)] _
  have hpl := sp_X0_placeOf d (by omega) xs t dd rr s (blS σ P J b) (gtS σ P J c (8 * P)).2 (gtS σ P J c (8 * P)).1 hR
  refine R_invv rfl rfl rfl rfl rfl rfl (hpl) rfl ?_
  show pCm _ _ _ 20 _ [(0, _)] _
  refine R_istore rfl rfl ?_
  refine R_iload rfl rfl ?_
  refine R_push rfl ?_
  refine R_ic rfl (fun h25 => ?_) (fun h25 => ?_)
  · try simp only [ne_eq, b2i_e, b2i_1, Classical.not_not] at h25
    refine R_vret rfl ?_
    exact hE _ _ rfl (by rw [if_neg (fun w => by have := hAC.mp w; omega)])
  · try simp only [ne_eq, b2i_e, b2i_1, Classical.not_not] at h25
    refine R_iload rfl rfl ?_
    refine R_push rfl ?_
    refine R_ic rfl (fun h31 => ?_) (fun h31 => ?_)
    · try simp only [ne_eq, b2i_e, b2i_1, Classical.not_not] at h31
      refine R_vret rfl ?_
      exact hE _ _ rfl (by rw [if_neg (fun w => by have := hAC.mp w; omega)])
    · try simp only [ne_eq, b2i_e, b2i_1, Classical.not_not] at h31
      refine R_iload rfl rfl ?_
      refine R_iload rfl rfl ?_
      refine R_ic rfl (fun h38 => ?_) (fun h38 => ?_)
      · try simp only [ne_eq, b2i_e, b2i_1, Classical.not_not] at h38
        have hac := hAC.mpr ⟨by omega, by omega, by omega⟩
        have ra := ra hac.1
        have rb := rb hac.2.1
        have hUi := hU (12 * idx (gtS σ P J c (8 * P)).2 (gtS σ P J c (8 * P)).1 (blS σ P J a) + idx (gtS σ P J c (8 * P)).2 (gtS σ P J c (8 * P)).1 (blS σ P J b)) (by omega) (by omega)
        refine R_aload rfl rfl rfl ?_
        refine T_getr (v := 76) rfl rfl rfl rfl ?_
        refine R_iload rfl rfl ?_
        refine R_push rfl ?_
        refine R_mul rfl (by omega) (by omega) ?_
        refine R_iload rfl rfl ?_
        refine R_add rfl (by omega) (by omega) ?_
        rw [show idx (gtS σ P J c (8 * P)).2 (gtS σ P J c (8 * P)).1 (blS σ P J a) * 12 + idx (gtS σ P J c (8 * P)).2 (gtS σ P J c (8 * P)).1 (blS σ P J b) = 12 * idx (gtS σ P J c (8 * P)).2 (gtS σ P J c (8 * P)).1 (blS σ P J a) + idx (gtS σ P J c (8 * P)).2 (gtS σ P J c (8 * P)).1 (blS σ P J b) by omega]
        refine R_dup2 rfl rfl rfl ?_
        refine T_ald rfl rfl (by omega) (by omega) ?_
        refine R_iload rfl rfl ?_
        refine R_add rfl (by omega) (by omega) ?_
        refine T_iast rfl rfl (by omega) (by omega) ?_
        refine R_aload rfl rfl rfl ?_
        refine T_getr (v := 77) rfl rfl rfl rfl ?_
        refine R_iload rfl rfl ?_
        refine R_dup2 rfl rfl rfl ?_
        refine T_ald rfl rfl (by omega) (by omega) ?_
        refine R_push rfl ?_
        refine R_iload rfl rfl ?_
        refine R_bin rfl ?_
        refine R_bin rfl ?_
        refine T_iast rfl rfl (by omega) (by omega) ?_
        refine R_vret rfl ?_
        refine hE _ _ rfl ?_
        rw [if_pos hac]
        have e61 : up2 s 60 (12 * idx (gtS σ P J c (8 * P)).2 (gtS σ P J c (8 * P)).1 (blS σ P J a) + idx (gtS σ P J c (8 * P)).2 (gtS σ P J c (8 * P)).1 (blS σ P J b)) (s 60 (12 * idx (gtS σ P J c (8 * P)).2 (gtS σ P J c (8 * P)).1 (blS σ P J a) + idx (gtS σ P J c (8 * P)).2 (gtS σ P J c (8 * P)).1 (blS σ P J b)) + w) 61 (idx (gtS σ P J c (8 * P)).2 (gtS σ P J c (8 * P)).1 (blS σ P J a)) = s 61 (idx (gtS σ P J c (8 * P)).2 (gtS σ P J c (8 * P)).1 (blS σ P J a)) := by simp [up2]
        rw [e61]
      · try simp only [ne_eq, b2i_e, b2i_1, Classical.not_not] at h38
        refine R_vret rfl ?_
        exact hE _ _ rfl (by rw [if_neg (fun w => by have := hAC.mp w; omega)])

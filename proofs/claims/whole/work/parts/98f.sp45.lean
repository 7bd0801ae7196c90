/-- what is sure, and what cuts what, of a cobble's blows, by the class's rows -/
def AS (σ : Sg) (P J c : Int) : Int → Int := sur (gtS σ P J c (8 * P)).2 (gtS σ P J c (8 * P)).1 P (hsS σ) (σ 14) (σ 29) (σ 30) (mtS σ J)
def US (σ : Sg) (P J c : Int) : Int → Int := wgt (gtS σ P J c (8 * P)).2 (gtS σ P J c (8 * P)).1 P c (hsS σ) (σ 14) (σ 29) (σ 30) (mtS σ J) (fun f g => nib (σ 18 f) g) (8 * P)
/-- blows' rows hold the cobble c -/
def BCx (s σ : Sg) (P J c : Int) : Prop := s 57 5 = (gtS σ P J c (8 * P)).1 ∧ ((gtS σ P J c (8 * P)).1 ≤ 12 → (∀ i, 0 ≤ i → i < (gtS σ P J c (8 * P)).1 → s 58 i = (gtS σ P J c (8 * P)).2 i) ∧ s 62 0 = nev (Lq (US σ P J c) (AS σ P J c) (gtS σ P J c (8 * P)).1 0) ∧ (0 ≤ Lq (US σ P J c) (AS σ P J c) (gtS σ P J c (8 * P)).1 0 → ∀ i, 0 ≤ i → i < (gtS σ P J c (8 * P)).1 → s 63 i = pck (US σ P J c) (AS σ P J c) (gtS σ P J c (8 * P)).1 (dnz (US σ P J c) (AS σ P J c) (gtS σ P J c (8 * P)).1 i)))
theorem AS_fr {σ s : Sg} {P J c : Int} (hF : Fb σ s) : AS s P J c = AS σ P J c := by
  unfold AS
  rw [gtS_fr hF, hsS_fr (hF.fn 13 rfl), mtS_fr (hF.fn 17 rfl) (hF.fn 22 rfl) (hF.fn 23 rfl), hF.fn 29 rfl, hF.fn 30 rfl, hF.fn 14 rfl]
theorem US_fr {σ s : Sg} {P J c : Int} (hF : Fb σ s) : US s P J c = US σ P J c := by
  unfold US
  rw [gtS_fr hF, hsS_fr (hF.fn 13 rfl), mtS_fr (hF.fn 17 rfl) (hF.fn 22 rfl) (hF.fn 23 rfl), hF.fn 29 rfl, hF.fn 30 rfl, hF.fn 14 rfl, hF.fn 18 rfl]
theorem BCx_fr {s σ σ' : Sg} {P J c : Int} (hF : Fb σ σ') (h : BCx s σ P J c) : BCx s σ' P J c := by
  unfold BCx
  rw [gtS_fr hF, AS_fr hF, US_fr hF]
  exact h
theorem KW_of {s σ : Sg} {P J c : Int} (hH : BH σ P J) (hT : (gtS σ P J c (8 * P)).1 ≤ 12) (hR : RG s σ P J c) (hA : ∀ k, 0 ≤ k → k < (gtS σ P J c (8 * P)).1 → s 59 k = AS σ P J c k) (hU : KC s (US σ P J c)) : KW s (AS σ P J c) (US σ P J c) (gtS σ P J c (8 * P)).1 := by
  have h0 := hH.2.1.1
  have hwo := wgt_ok (R := (gtS σ P J c (8 * P)).2) (T := (gtS σ P J c (8 * P)).1) (P := P) (c := c) (hs := hsS σ) (so := σ 14) (co := σ 29) (who := σ 30) (mt := mtS σ J) (cw := fun f g => nib (σ 18 f) g) h0 (RG_hi hH hT) (fun f _ _ g g0 g1 => (nib_le ⟨g0, g1⟩).2) (8 * P).toNat (by omega)
  rw [Int.toNat_of_nonneg (by omega)] at hwo
  refine ⟨hR.1, hR.2.1, hA, hU.1, hU.2, ⟨hwo.1, fun k k0 k1 => ?_⟩, fun k k0 k1 => ?_⟩
  · have := hwo.2 k k0 k1
    show sumZ (fun j => US σ P J c (12 * k + j)) 12 ≤ 38400
    have e : sumZ (fun j => US σ P J c (12 * k + j)) 12 ≤ 120 * (8 * P) := this
    omega
  · have := wgt_dg (R := (gtS σ P J c (8 * P)).2) (T := (gtS σ P J c (8 * P)).1) (P := P) (c := c) (hs := hsS σ) (so := σ 14) (co := σ 29) (who := σ 30) (mt := mtS σ J) (cw := fun f g => nib (σ 18 f) g) hR.2.1.1 (RG_hi hH hT) ⟨k0, k1⟩ (8 * P).toNat (by omega)
    rw [Int.toNat_of_nonneg (by omega)] at this
    exact this
set_option maxRecDepth 20000 in
set_option maxHeartbeats 2000000 in
theorem sp_X0_arrange (d : Nat) (hd : 5 ≤ d) (xs : List (Nat × Nat)) (t dd rr : Nat) (σ : Sg) (c : Int) (P J : Int) (hH : BH σ P J) (hold : σ 57 4 = c → BCx σ σ P J c) : ∃ σ', Ev d 139 [(73, 0), (0, c)] (Wd xs t dd rr σ) (8, 0) (Wd xs t dd rr σ') ∧ Fb σ σ' ∧ σ' 57 4 = c ∧ BCx σ' σ P J c := by
  obtain ⟨d, rfl⟩ : ∃ e, d = e + 1 := ⟨d - 1, by omega⟩
  obtain ⟨⟨hP, hJ, h0, hJ0, hJB⟩, hHH, h32, h17, hcut⟩ := id hH
  refine evS (nL := 2) (code := k_X0_arrange) rfl dc_X0_arrange rfl (fun E hE => ?_)
  show pCm (Ev d) k_X0_arrange E 0 [(73, 0), (0, c)] [] _
  refine R_aload rfl rfl rfl ?_
  refine T_geti rfl rfl rfl ?_
  refine R_iload rfl rfl ?_
  refine R_ic rfl (fun h5 => ?_) (fun h5 => ?_)
  · try simp only [ne_eq, b2i_e, b2i_1, Classical.not_not] at h5
    refine R_aload rfl rfl rfl ?_
    refine R_iload rfl rfl ?_
    refine T_puti rfl rfl rfl ?_
    refine R_aload rfl rfl rfl ?_
    refine R_iload rfl rfl ?_
    generalize hs0 : up2 σ 57 4 c = s0
    have F0 : Fb σ s0 := by rw [← hs0]; exact Fr.rf.up rfl
    have e4 : s0 57 4 = c := by rw [← hs0]; simp [up2]
    obtain ⟨s1, hev1, hF1, hR1⟩ := sp_X0_gather d (by omega) xs t dd rr s0 c P J (BH_fr hH F0)
    rw [gtS_fr F0] at hR1
    have F1 : Fb σ s1 := F0.tr hF1 rfl rfl
    have e41 : s1 57 4 = c := by rw [hF1.at 57 4 rfl, e4]
    refine R_invv rfl rfl rfl rfl rfl rfl (hev1) rfl ?_
    show pCm _ _ _ 19 _ [] _
    refine R_aload rfl rfl rfl ?_
    refine T_geti rfl rfl rfl ?_
    refine R_push rfl ?_
    refine R_ic rfl (fun h25 => ?_) (fun h25 => ?_)
    · try simp only [ne_eq, b2i_e, b2i_1, Classical.not_not] at h25
      refine R_aload rfl rfl rfl ?_
      refine R_iload rfl rfl ?_
      have hRG : RG s1 σ P J c := RG_of hH hR1 (by omega)
      have hT12 := hRG.2.1
      obtain ⟨s2, hev2, hF2, hA2⟩ := sp_X0_tellSure d (by omega) xs t dd rr σ s1 c P J hH F1 hRG
      have F2 : Fb σ s2 := F1.tr hF2 rfl rfl
      have hR2 : RG s2 σ P J c := RT_fr hRG (hF2.row 57 rfl 5) (hF2.fn 58 rfl)
      refine R_invv rfl rfl rfl rfl rfl rfl (hev2) rfl ?_
      show pCm _ _ _ 34 _ [] _
      refine R_aload rfl rfl rfl ?_
      refine R_iload rfl rfl ?_
      obtain ⟨s3, hev3, hF3, hU3⟩ := sp_X0_tellCuts d (by omega) xs t dd rr σ s2 c P J hH F2 hR2
      have F3 : Fb σ s3 := F2.tr hF3 rfl rfl
      have hR3 : RG s3 σ P J c := RT_fr hR2 (hF3.row 57 rfl 5) (hF3.fn 58 rfl)
      have hKW : KW s3 (AS σ P J c) (US σ P J c) (gtS σ P J c (8 * P)).1 := KW_of hH hT12.2 hR3 (fun k k0 k1 => by rw [hF3.row 59 rfl]; exact hA2 k k0 k1) hU3
      refine R_invv rfl rfl rfl rfl rfl rfl (hev3) rfl ?_
      show pCm _ _ _ 39 _ [] _
      refine R_aload rfl rfl rfl ?_
      obtain ⟨s4, hev4, hF4, hL4⟩ := sp_X0_weighAll d (by omega) xs t dd rr s3 (AS σ P J c) (US σ P J c) (gtS σ P J c (8 * P)).1 hKW
      have F4 : Fb σ s4 := F3.tr hF4 rfl rfl
      have hR4 : RG s4 σ P J c := RT_fr hR3 (hF4.row 57 rfl 5) (hF4.fn 58 rfl)
      have hK4 := KW_fr hKW hF4 rfl rfl rfl rfl
      have hal := al_bd hT12
      have hL40 := hL4 0 (by omega) (by omega)
      have hLqb := Lq_bd (A := AS σ P J c) (dn := 0) hK4.2.2.2.2.2.1 hT12
      have e45 := hR4.1
      have e44 : s4 57 4 = c := by rw [hF4.row 57 rfl, hF3.row 57 rfl, hF2.row 57 rfl, e41]
      have hnv : nev (Lq (US σ P J c) (AS σ P J c) (gtS σ P J c (8 * P)).1 0) = 1000000 ∧ Lq (US σ P J c) (AS σ P J c) (gtS σ P J c (8 * P)).1 0 = -1 ∨ nev (Lq (US σ P J c) (AS σ P J c) (gtS σ P J c (8 * P)).1 0) = Lq (US σ P J c) (AS σ P J c) (gtS σ P J c (8 * P)).1 0 ∧ 0 ≤ Lq (US σ P J c) (AS σ P J c) (gtS σ P J c (8 * P)).1 0 := by
        unfold nev; split <;> omega
      refine R_invv rfl rfl rfl rfl rfl rfl (hev4) rfl ?_
      show pCm _ _ _ 43 _ [] _
      refine R_aload rfl rfl rfl ?_
      refine R_invv rfl rfl rfl rfl rfl rfl (sp_X0_hasOrder d (by omega) xs t dd rr s4) rfl ?_
      show pCm _ _ _ 47 _ [(0, _)] _
      refine R_if rfl (fun h47 => ?_) (fun h47 => ?_)
      · try simp only [ne_eq, b2i_e, b2i_1, Classical.not_not] at h47
        refine R_vret rfl ?_
        first
        | exact hE _ _ rfl ⟨F5, by rw [hF5.row 57 rfl, e44], hR5.1, fun _ => ⟨hR5.2.2.1, by rw [hF5.row 62 rfl]; exact hL40, fun _ => hO5⟩⟩
        | exact hE _ _ rfl ⟨F4, e44, hR4.1, fun _ => ⟨hR4.2.2.1, hL40, fun w => by exfalso; omega⟩⟩
      · try simp only [ne_eq, b2i_e, b2i_1, Classical.not_not] at h47
        refine R_aload rfl rfl rfl ?_
        obtain ⟨s5, hev5, hF5, hO5⟩ := sp_X0_putInOrder d (by omega) xs t dd rr s4 (AS σ P J c) (US σ P J c) (gtS σ P J c (8 * P)).1 hK4 hL4 (by omega)
        have F5 : Fb σ s5 := F4.tr hF5 rfl rfl
        have hR5 : RG s5 σ P J c := RT_fr hR4 (hF5.row 57 rfl 5) (hF5.fn 58 rfl)
        refine R_invv rfl rfl rfl rfl rfl rfl (hev5) rfl ?_
        show pCm _ _ _ 54 _ [] _
        refine R_vret rfl ?_
        first
        | exact hE _ _ rfl ⟨F5, by rw [hF5.row 57 rfl, e44], hR5.1, fun _ => ⟨hR5.2.2.1, by rw [hF5.row 62 rfl]; exact hL40, fun _ => hO5⟩⟩
        | exact hE _ _ rfl ⟨F4, e44, hR4.1, fun _ => ⟨hR4.2.2.1, hL40, fun w => by exfalso; omega⟩⟩
    · try simp only [ne_eq, b2i_e, b2i_1, Classical.not_not] at h25
      refine R_vret rfl ?_
      exact hE _ _ rfl ⟨F1, e41, hR1.1, fun w => by have := hR1.1; omega⟩
  · try simp only [ne_eq, b2i_e, b2i_1, Classical.not_not] at h5
    refine R_vret rfl ?_
    exact hE _ _ rfl ⟨Fr.rf, by assumption, hold (by assumption)⟩
def qS (σ : Sg) (P J c : Int) : Int := if (gtS σ P J c (8 * P)).1 ≤ 12 then Lq (US σ P J c) (AS σ P J c) (gtS σ P J c (8 * P)).1 0 else -2
theorem WB_US {σ : Sg} {P J c : Int} (hH : BH σ P J) (hT : (gtS σ P J c (8 * P)).1 ≤ 12) : WB (US σ P J c) := by
  have h0 := hH.2.1.1
  have hwo := wgt_ok (R := (gtS σ P J c (8 * P)).2) (T := (gtS σ P J c (8 * P)).1) (P := P) (c := c) (hs := hsS σ) (so := σ 14) (co := σ 29) (who := σ 30) (mt := mtS σ J) (cw := fun f g => nib (σ 18 f) g) h0 (RG_hi hH hT) (fun f _ _ g g0 g1 => (nib_le ⟨g0, g1⟩).2) (8 * P).toNat (by omega)
  rw [Int.toNat_of_nonneg (by omega)] at hwo
  refine ⟨hwo.1, fun k k0 k1 => ?_⟩
  have := hwo.2 k k0 k1
  show sumZ (fun j => US σ P J c (12 * k + j)) 12 ≤ 38400
  have e : sumZ (fun j => US σ P J c (12 * k + j)) 12 ≤ 120 * (8 * P) := this
  omega
theorem qS_bd {σ : Sg} {P J c : Int} (hH : BH σ P J) : (qS σ P J c = -2 ∧ 12 < (gtS σ P J c (8 * P)).1) ∨ ((gtS σ P J c (8 * P)).1 ≤ 12 ∧ qS σ P J c = Lq (US σ P J c) (AS σ P J c) (gtS σ P J c (8 * P)).1 0 ∧ (qS σ P J c = -1 ∧ nev (Lq (US σ P J c) (AS σ P J c) (gtS σ P J c (8 * P)).1 0) = 1000000 ∨ 0 ≤ qS σ P J c ∧ qS σ P J c ≤ 460800 ∧ nev (Lq (US σ P J c) (AS σ P J c) (gtS σ P J c (8 * P)).1 0) = qS σ P J c)) := by
  unfold qS
  by_cases q : (gtS σ P J c (8 * P)).1 ≤ 12
  · rw [if_pos q]
    have g := gt2_ok (c := c) (hs := hsS σ) (so := σ 14) (co := σ 29) (who := σ 30) (mt := mtS σ J) hH.2.1.1
    have := Lq_bd (A := AS σ P J c) (dn := 0) (WB_US hH q) ⟨g.1, q⟩
    refine Or.inr ⟨q, rfl, ?_⟩
    unfold nev
    have t0 : Lq (US σ P J c) (AS σ P J c) (gt2 P c (hsS σ) (σ 14) (σ 29) (σ 30) (mtS σ J) (8 * P)).1 0 = Lq (US σ P J c) (AS σ P J c) (gtS σ P J c (8 * P)).1 0 := rfl
    rw [t0] at this
    split <;> omega
  · rw [if_neg q]; exact Or.inl ⟨rfl, by omega⟩
set_option maxRecDepth 20000 in
set_option maxHeartbeats 2000000 in
theorem sp_X0_leastQuarrel (d : Nat) (hd : 6 ≤ d) (xs : List (Nat × Nat)) (t dd rr : Nat) (σ : Sg) (c : Int) (P J : Int) (hH : BH σ P J) (hold : σ 57 4 = c → BCx σ σ P J c) : ∃ σ', Ev d 130 [(73, 0), (0, c)] (Wd xs t dd rr σ) (0, if qS σ P J c < 0 then -1 else qS σ P J c) (Wd xs t dd rr σ') ∧ Fb σ σ' ∧ σ' 57 4 = c ∧ BCx σ' σ P J c := by
  obtain ⟨d, rfl⟩ : ∃ e, d = e + 1 := ⟨d - 1, by omega⟩
  obtain ⟨⟨hP, hJ, h0, hJ0, hJB⟩, hHH, h32, h17, hcut⟩ := id hH
  refine evS (nL := 2) (code := k_X0_leastQuarrel) rfl dc_X0_leastQuarrel rfl (fun E hE => ?_)
  show pCm (Ev d) k_X0_leastQuarrel E 0 [(73, 0), (0, c)] [] _
  refine R_aload rfl rfl rfl ?_
  refine R_iload rfl rfl ?_
  obtain ⟨s1, hev, hF, h4, hB⟩ := sp_X0_arrange d (by omega) xs t dd rr σ c P J hH hold
  have h5 := hB.1
  have h6 : s1 57 5 ≤ 12 → _ := fun w => hB.2 (by omega)
  have hq := qS_bd (c := c) hH
  refine R_invv rfl rfl rfl rfl rfl rfl (hev) rfl ?_
  show pCm _ _ _ 5 _ [] _
  refine R_aload rfl rfl rfl ?_
  refine R_invv rfl rfl rfl rfl rfl rfl (sp_X0_hasOrder d (by omega) xs t dd rr s1) rfl ?_
  show pCm _ _ _ 9 _ [(0, _)] _
  refine R_if rfl (fun h9 => ?_) (fun h9 => ?_)
  · try simp only [ne_eq, b2i_e, b2i_1, Classical.not_not] at h9
    refine R_push rfl ?_
    refine R_iret rfl ?_
    first
    | exact hE _ _ (by
        have h6 := h6 (by omega)
        rw [h6.2.1] at *
        rw [if_neg (by omega)]
        congr 1
        omega) ⟨hF, h4, hB⟩
    | exact hE _ _ (by
        by_cases z : s1 57 5 ≤ 12
        · have h6 := h6 z
          rw [h6.2.1] at *
          rw [if_pos (by omega)]
        · rw [if_pos (by omega)]) ⟨hF, h4, hB⟩
  · try simp only [ne_eq, b2i_e, b2i_1, Classical.not_not] at h9
    refine R_aload rfl rfl rfl ?_
    refine T_getr (v := 78) rfl rfl rfl rfl ?_
    refine R_push rfl ?_
    refine T_ald rfl rfl (by omega) (by omega) ?_
    refine R_goto rfl ?_
    refine R_iret rfl ?_
    first
    | exact hE _ _ (by
        have h6 := h6 (by omega)
        rw [h6.2.1] at *
        rw [if_neg (by omega)]
        congr 1
        omega) ⟨hF, h4, hB⟩
    | exact hE _ _ (by
        by_cases z : s1 57 5 ≤ 12
        · have h6 := h6 z
          rw [h6.2.1] at *
          rw [if_pos (by omega)]
        · rw [if_pos (by omega)]) ⟨hF, h4, hB⟩
set_option maxRecDepth 20000 in
set_option maxHeartbeats 2000000 in
theorem sp_X0_isRing (d : Nat) (hd : 6 ≤ d) (xs : List (Nat × Nat)) (t dd rr : Nat) (σ : Sg) (c : Int) (P J : Int) (hH : BH σ P J) (hold : σ 57 4 = c → BCx σ σ P J c) : ∃ σ', Ev d 131 [(73, 0), (0, c)] (Wd xs t dd rr σ) (0, b2i (qS σ P J c = -1)) (Wd xs t dd rr σ') ∧ Fb σ σ' ∧ σ' 57 4 = c ∧ BCx σ' σ P J c := by
  obtain ⟨d, rfl⟩ : ∃ e, d = e + 1 := ⟨d - 1, by omega⟩
  obtain ⟨⟨hP, hJ, h0, hJ0, hJB⟩, hHH, h32, h17, hcut⟩ := id hH
  refine evS (nL := 2) (code := k_X0_isRing) rfl dc_X0_isRing rfl (fun E hE => ?_)
  show pCm (Ev d) k_X0_isRing E 0 [(73, 0), (0, c)] [] _
  refine R_aload rfl rfl rfl ?_
  refine R_iload rfl rfl ?_
  obtain ⟨s1, hev, hF, h4, hB⟩ := sp_X0_arrange d (by omega) xs t dd rr σ c P J hH hold
  have h5 := hB.1
  have h6 : s1 57 5 ≤ 12 → _ := fun w => hB.2 (by omega)
  have hq := qS_bd (c := c) hH
  refine R_invv rfl rfl rfl rfl rfl rfl (hev) rfl ?_
  show pCm _ _ _ 5 _ [] _
  refine R_aload rfl rfl rfl ?_
  refine T_geti rfl rfl rfl ?_
  refine R_push rfl ?_
  refine R_ic rfl (fun h11 => ?_) (fun h11 => ?_)
  · try simp only [ne_eq, b2i_e, b2i_1, Classical.not_not] at h11
    refine R_push rfl ?_
    refine R_zret rfl (by first | exact Or.inl rfl | exact Or.inr rfl | omega | grind) ?_
    exact hE _ _ (by
      by_cases z : s1 57 5 ≤ 12
      · have h6 := (h6 z).2.1
        first | (exfalso; omega) | rw [b2i_t (by omega)] | rw [b2i_f (by omega)]
      · first | (exfalso; omega) | rw [b2i_t (by omega)] | rw [b2i_f (by omega)]) ⟨hF, h4, hB⟩
  · try simp only [ne_eq, b2i_e, b2i_1, Classical.not_not] at h11
    refine R_aload rfl rfl rfl ?_
    refine R_invv rfl rfl rfl rfl rfl rfl (sp_X0_hasOrder d (by omega) xs t dd rr s1) rfl ?_
    show pCm _ _ _ 18 _ [(0, _)] _
    refine R_if rfl (fun h18 => ?_) (fun h18 => ?_)
    · try simp only [ne_eq, b2i_e, b2i_1, Classical.not_not] at h18
      refine R_push rfl ?_
      refine R_zret rfl (by first | exact Or.inl rfl | exact Or.inr rfl | omega | grind) ?_
      exact hE _ _ (by
        by_cases z : s1 57 5 ≤ 12
        · have h6 := (h6 z).2.1
          first | (exfalso; omega) | rw [b2i_t (by omega)] | rw [b2i_f (by omega)]
        · first | (exfalso; omega) | rw [b2i_t (by omega)] | rw [b2i_f (by omega)]) ⟨hF, h4, hB⟩
    · try simp only [ne_eq, b2i_e, b2i_1, Classical.not_not] at h18
      refine R_push rfl ?_
      refine R_goto rfl ?_
      refine R_zret rfl (by first | exact Or.inl rfl | exact Or.inr rfl | omega | grind) ?_
      exact hE _ _ (by
        by_cases z : s1 57 5 ≤ 12
        · have h6 := (h6 z).2.1
          first | (exfalso; omega) | rw [b2i_t (by omega)] | rw [b2i_f (by omega)]
        · first | (exfalso; omega) | rw [b2i_t (by omega)] | rw [b2i_f (by omega)]) ⟨hF, h4, hB⟩
def ordS (σ : Sg) (P J c i : Int) : Int := (gtS σ P J c (8 * P)).2 (pck (US σ P J c) (AS σ P J c) (gtS σ P J c (8 * P)).1 (dnz (US σ P J c) (AS σ P J c) (gtS σ P J c (8 * P)).1 i))
set_option maxRecDepth 20000 in
set_option maxHeartbeats 2000000 in
theorem sp_X0_inOrder (d : Nat) (hd : 6 ≤ d) (xs : List (Nat × Nat)) (t dd rr : Nat) (σ : Sg) (c i : Int) (P J : Int) (hH : BH σ P J) (hold : σ 57 4 = c → BCx σ σ P J c) : ∃ σ', Ev d 132 [(73, 0), (0, c), (0, i)] (Wd xs t dd rr σ) (0, if 0 ≤ qS σ P J c ∧ 0 ≤ i ∧ i < (gtS σ P J c (8 * P)).1 then ordS σ P J c i else -1) (Wd xs t dd rr σ') ∧ Fb σ σ' ∧ σ' 57 4 = c ∧ BCx σ' σ P J c := by
  obtain ⟨d, rfl⟩ : ∃ e, d = e + 1 := ⟨d - 1, by omega⟩
  obtain ⟨⟨hP, hJ, h0, hJ0, hJB⟩, hHH, h32, h17, hcut⟩ := id hH
  refine evS (nL := 3) (code := k_X0_inOrder) rfl dc_X0_inOrder rfl (fun E hE => ?_)
  show pCm (Ev d) k_X0_inOrder E 0 [(73, 0), (0, c), (0, i)] [] _
  refine R_aload rfl rfl rfl ?_
  refine R_iload rfl rfl ?_
  obtain ⟨s1, hev, hF, h4, hB⟩ := sp_X0_arrange d (by omega) xs t dd rr σ c P J hH hold
  have h5 := hB.1
  have h6 : s1 57 5 ≤ 12 → _ := fun w => hB.2 (by omega)
  have hq := qS_bd (c := c) hH
  have hoi : 0 ≤ qS σ P J c → (gtS σ P J c (8 * P)).1 ≤ 12 → 0 ≤ i → i < (gtS σ P J c (8 * P)).1 → s1 63 i = pck (US σ P J c) (AS σ P J c) (gtS σ P J c (8 * P)).1 (dnz (US σ P J c) (AS σ P J c) (gtS σ P J c (8 * P)).1 i) ∧ (0 ≤ s1 63 i ∧ s1 63 i < (gtS σ P J c (8 * P)).1) ∧ s1 58 (s1 63 i) = ordS σ P J c i := fun w0 w1 i0 i1 => by
    have hb := hB.2 w1
    have hq0 : 0 ≤ Lq (US σ P J c) (AS σ P J c) (gtS σ P J c (8 * P)).1 0 := by omega
    have e1 := hb.2.2 hq0 i i0 i1
    have hU := WB_US hH w1
    have hTT : 0 ≤ (gtS σ P J c (8 * P)).1 ∧ (gtS σ P J c (8 * P)).1 ≤ 12 := ⟨by omega, w1⟩
    have hdz := dnz_ok (A := AS σ P J c) hU hTT hq0 i.toNat (by omega)
    rw [Int.toNat_of_nonneg i0] at hdz
    have hne : dnz (US σ P J c) (AS σ P J c) (gtS σ P J c (8 * P)).1 i ≠ pShl 1 (gtS σ P J c (8 * P)).1 - 1 := fun q => by
      have h2 := hdz.2.1
      rw [q, zc_all hTT] at h2
      omega
    have hpk := (pck_ok (A := AS σ P J c) hU hTT hdz.1.1 (by omega) hdz.2.2).1
    rw [← e1] at hpk
    refine ⟨e1, hpk, ?_⟩
    rw [hb.1 _ hpk.1 hpk.2, e1]
    rfl
  refine R_invv rfl rfl rfl rfl rfl rfl (hev) rfl ?_
  show pCm _ _ _ 5 _ [] _
  refine R_aload rfl rfl rfl ?_
  refine R_invv rfl rfl rfl rfl rfl rfl (sp_X0_hasOrder d (by omega) xs t dd rr s1) rfl ?_
  show pCm _ _ _ 9 _ [(0, _)] _
  refine R_if rfl (fun h9 => ?_) (fun h9 => ?_)
  · try simp only [ne_eq, b2i_e, b2i_1, Classical.not_not] at h9
    refine R_push rfl ?_
    refine R_iret rfl ?_
    first
    | exact hE _ _ (by rw [if_pos (by omega), hoi.2.2]) ⟨hF, h4, hB⟩
    | exact hE _ _ (by
        by_cases z : s1 57 5 ≤ 12
        · have h62 := (h6 z).2.1
          rw [if_neg (by omega)]
        · rw [if_neg (by omega)]) ⟨hF, h4, hB⟩
  · try simp only [ne_eq, b2i_e, b2i_1, Classical.not_not] at h9
    refine R_iload rfl rfl ?_
    refine R_if rfl (fun h13 => ?_) (fun h13 => ?_)
    · try simp only [ne_eq, b2i_e, b2i_1, Classical.not_not] at h13
      refine R_push rfl ?_
      refine R_iret rfl ?_
      first
      | exact hE _ _ (by rw [if_pos (by omega), hoi.2.2]) ⟨hF, h4, hB⟩
      | exact hE _ _ (by
          by_cases z : s1 57 5 ≤ 12
          · have h62 := (h6 z).2.1
            rw [if_neg (by omega)]
          · rw [if_neg (by omega)]) ⟨hF, h4, hB⟩
    · try simp only [ne_eq, b2i_e, b2i_1, Classical.not_not] at h13
      refine R_iload rfl rfl ?_
      refine R_aload rfl rfl rfl ?_
      refine T_geti rfl rfl rfl ?_
      refine R_ic rfl (fun h21 => ?_) (fun h21 => ?_)
      · try simp only [ne_eq, b2i_e, b2i_1, Classical.not_not] at h21
        refine R_push rfl ?_
        refine R_iret rfl ?_
        first
        | exact hE _ _ (by rw [if_pos (by omega), hoi.2.2]) ⟨hF, h4, hB⟩
        | exact hE _ _ (by
            by_cases z : s1 57 5 ≤ 12
            · have h62 := (h6 z).2.1
              rw [if_neg (by omega)]
            · rw [if_neg (by omega)]) ⟨hF, h4, hB⟩
      · try simp only [ne_eq, b2i_e, b2i_1, Classical.not_not] at h21
        have h6 := h6 (by omega)
        have h62 := h6.2.1
        have hoi := hoi (by omega) (by omega) (by omega) (by omega)
        refine R_aload rfl rfl rfl ?_
        refine T_getr (v := 74) rfl rfl rfl rfl ?_
        refine R_aload rfl rfl rfl ?_
        refine T_getr (v := 79) rfl rfl rfl rfl ?_
        refine R_iload rfl rfl ?_
        refine T_ald rfl rfl (by omega) (by omega) ?_
        refine T_ald rfl rfl (by omega) (by omega) ?_
        refine R_goto rfl ?_
        refine R_iret rfl ?_
        first
        | exact hE _ _ (by rw [if_pos (by omega), hoi.2.2]) ⟨hF, h4, hB⟩
        | exact hE _ _ (by
            by_cases z : s1 57 5 ≤ 12
            · have h62 := (h6 z).2.1
              rw [if_neg (by omega)]
            · rw [if_neg (by omega)]) ⟨hF, h4, hB⟩

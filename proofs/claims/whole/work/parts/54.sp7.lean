def onB (σ : Sg) (j : Int) : Bool := decide (σ 26 j = -1 ∧ σ 27 j ≠ 0)
def cobS (σ : Sg) (P J : Int) : Int → Int := lab P J (onS σ) (σ 22) (σ 23)
def whoS (σ : Sg) (P J : Int) : Int → Int := lab P J (onB σ) (σ 22) (σ 23)
def trnS (σ : Sg) (P J : Int) : Int → Int := trn (onS σ) (σ 22) (σ 23) (σ 24) P J
theorem onC_S {σ : Sg} {j : Int} (h : σ 25 j ≤ 999 ∧ σ 26 j ≤ 999) : onC σ 999 0 j = onS σ j := by
  unfold onC onS
  rw [decide_eq_decide]
  omega
theorem onC_B {σ : Sg} {j : Int} (h : σ 25 j ≤ 999 ∧ σ 26 j ≤ 999) : onC σ 999 1 j = onB σ j := by
  unfold onC onB
  rw [decide_eq_decide]
  omega
theorem onC_fr {σ σ' : Sg} {d b : Int} (h5 : σ' 25 = σ 25) (h6 : σ' 26 = σ 26) (h7 : σ' 27 = σ 27) : onC σ' d b = onC σ d b := by unfold onC; rw [h5, h6, h7]
set_option maxRecDepth 20000 in
set_option maxHeartbeats 2000000 in
theorem sp_X3_regroup (d : Nat) (hd : 5 ≤ d) (xs : List (Nat × Nat)) (t dd rr : Nat) (σ : Sg) (P J : Int) (hC : CB σ P J) (hT : ∀ j, 0 ≤ j → j < J → 0 ≤ σ 24 j ∧ σ 24 j ≤ 7) (hD : ∀ j, 0 ≤ j → j < J → σ 25 j ≤ 999 ∧ σ 26 j ≤ 999) : ∃ σ', Ev d 175 [(44, 0)] (Wd xs t dd rr σ) (8, 0) (Wd xs t dd rr σ') ∧ Fr [29, 30, 31, 32, 34] [] σ σ' ∧ ∀ p, 0 ≤ p → p < P → σ' 29 p = cobS σ P J p ∧ σ' 30 p = whoS σ P J p ∧ σ' 31 p = trnS σ P J p ∧ σ' 32 p = sumZ (fun q => b2i (cobS σ P J q = p)) P := by
  obtain ⟨d, rfl⟩ : ∃ e, d = e + 1 := ⟨d - 1, by omega⟩
  have hC0 := hC
  obtain ⟨h1_, h21_, hP0, hJ0, hAB⟩ := hC
  have hPJ : 0 ≤ P ∧ P ≤ 40 ∧ 0 ≤ J ∧ J ≤ 80 := ⟨hP0.1, hP0.2, hJ0.1, hJ0.2⟩
  clear hP0 hJ0
  refine evS (nL := 2) (code := k_X3_regroup) rfl dc_X3_regroup rfl (fun E hE => ?_)
  show pCm (Ev d) k_X3_regroup E 0 [(44, 0), (9, 0)] [] _
  refine R_aload rfl rfl rfl ?_
  refine R_aload rfl rfl rfl ?_
  refine T_getr (v := 45) rfl rfl rfl rfl ?_
  refine R_push rfl ?_
  refine R_push rfl ?_
  obtain ⟨s1, hev1, hF1, v1⟩ := sp_X3_hang_29 d (by omega) xs t dd rr σ 999 0 P J hC0 (Or.inl rfl)
  refine R_invv rfl rfl rfl rfl rfl rfl (hev1) rfl ?_
  show pCm _ _ _ 12 _ [] _
  refine R_aload rfl rfl rfl ?_
  refine R_aload rfl rfl rfl ?_
  refine T_getr (v := 46) rfl rfl rfl rfl ?_
  refine R_push rfl ?_
  refine R_push rfl ?_
  have c1 := hF1.row 1 rfl 0
  have c21 := hF1.row 21 rfl 0
  have c22 := hF1.fn 22 rfl
  have c23 := hF1.fn 23 rfl
  have c25 := hF1.fn 25 rfl
  have c26 := hF1.fn 26 rfl
  have c27 := hF1.fn 27 rfl
  obtain ⟨s2, hev2, hF2, v2⟩ := sp_X3_hang_30 d (by omega) xs t dd rr s1 999 1 P J (CB_fr hC0 c1 c21 c22 c23) (Or.inr rfl)
  rw [onC_fr c25 c26 c27, c22, c23] at v2
  refine R_invv rfl rfl rfl rfl rfl rfl (hev2) rfl ?_
  show pCm _ _ _ 24 _ [] _
  refine R_push rfl ?_
  refine R_istore rfl rfl ?_
  have hbd : ∀ p, 0 ≤ p → p < P → 0 ≤ cobS σ P J p ∧ cobS σ P J p ≤ p := lab_bd hPJ.2.2.1 hAB
  have hCo : ∀ p, 0 ≤ p → p < P → s1 29 p = cobS σ P J p := fun p h0 h1 => by rw [v1 p h0 h1]; unfold cobS; rw [lab_on hPJ.2.2.1 (fun j j0 j1 => onC_S (hD j j0 j1))]
  have hWo : ∀ p, 0 ≤ p → p < P → s2 30 p = whoS σ P J p := fun p h0 h1 => by rw [v2 p h0 h1]; unfold whoS; rw [lab_on hPJ.2.2.1 (fun j j0 j1 => onC_B (hD j j0 j1))]
  have hFa : Fr [29, 30, 31, 32, 34] [] σ s2 := hF1.tr hF2 rfl rfl
  have hCo : ∀ p, 0 ≤ p → p < P → s2 29 p = cobS σ P J p := fun p h0 h1 => by rw [hF2.row 29 rfl]; exact hCo p h0 h1
  clear v1 v2 hev1 hev2 c1 c21 c22 c23 c25 c26 c27
  clear hF1 hF2
  refine loop (pc := 26) (α := Int × Sg) (fun a => (P - a.1).toNat) (fun a => ([(44, 0), (0, a.1)], Wd xs t dd rr a.2)) (fun a => (0 ≤ a.1 ∧ a.1 ≤ P) ∧ Fr [31, 32] [] s2 a.2 ∧ ∀ p, 0 ≤ p → p < a.1 → a.2 31 p = -1 ∧ a.2 32 p = 0) ?_ (0, s2) ?_
  · intro ⟨k, s3⟩ ⟨hk, hF, hv⟩ ih
    dsimp only at hk hF hv ⊢
    have e1 := (hFa.tr (r3 := [29, 30, 31, 32, 34]) (s3 := []) hF rfl rfl).row 1 rfl 0
    refine R_iload rfl rfl ?_
    refine R_aload rfl rfl rfl ?_
    refine T_getr (v := 17) rfl rfl rfl rfl ?_
    refine T_geti rfl rfl rfl ?_
    refine R_ic rfl (fun h34 => ?_) (fun h34 => ?_)
    · try simp only [ne_eq, b2i_e, b2i_1, Classical.not_not] at h34
      refine R_push rfl ?_
      refine R_istore rfl rfl ?_
      refine loop (pc := 59) (α := Int × Sg) (fun a => (P - a.1).toNat) (fun a => ([(44, 0), (0, a.1)], Wd xs t dd rr a.2)) (fun a => (0 ≤ a.1 ∧ a.1 ≤ P) ∧ Fr [31, 32, 34] [] s2 a.2 ∧ (∀ p, 0 ≤ p → p < P → a.2 31 p = if cobS σ P J p < a.1 then trnS σ P J p else -1) ∧ ∀ p, 0 ≤ p → p < P → a.2 32 p = sumZ (fun q => b2i (cobS σ P J q = p)) a.1) ?_ (0, s3) ?_
      · clear ih e1
        intro ⟨m, s5⟩ ⟨hm, hF5, hv5, hc5⟩ ih
        dsimp only at hm hF5 hv5 hc5 ⊢
        have hFb : Fr [29, 30, 31, 32, 34] [] σ s5 := hFa.tr hF5 rfl rfl
        have e1 := hFb.row 1 rfl 0
        have e29 := hF5.row 29 rfl m
        have hCm := hCo m hm.1
        have hbm := hbd m hm.1
        have hcm := hc5 (cobS σ P J m)
        have hsb := sumZ_bd (f := fun q => b2i (cobS σ P J q = cobS σ P J m)) (c := 1) hm.1 (fun i _ _ => b2i_bd)
        refine R_iload rfl rfl ?_
        refine R_aload rfl rfl rfl ?_
        refine T_getr (v := 17) rfl rfl rfl rfl ?_
        refine T_geti rfl rfl rfl ?_
        refine R_ic rfl (fun h67 => ?_) (fun h67 => ?_)
        · try simp only [ne_eq, b2i_e, b2i_1, Classical.not_not] at h67
          refine R_vret rfl ?_
          exact hE _ _ rfl ⟨hFb, fun p h0 h1 => ⟨by rw [hF5.row 29 rfl]; exact hCo p h0 h1, by rw [hF5.row 30 rfl]; exact hWo p h0 h1, by
            have := hbd p h0 h1
            rw [hv5 p h0 h1, if_pos (by omega)], by rw [hc5 p h0 h1]; congr 1; omega⟩⟩
        · try simp only [ne_eq, b2i_e, b2i_1, Classical.not_not] at h67
          refine R_aload rfl rfl rfl ?_
          refine T_getr (v := 48) rfl rfl rfl rfl ?_
          refine R_aload rfl rfl rfl ?_
          refine T_getr (v := 45) rfl rfl rfl rfl ?_
          refine R_iload rfl rfl ?_
          refine T_ald rfl rfl (by omega) (by omega) ?_
          have hCm := hCm (by omega)
          have hbm := hbm (by omega)
          have ec : s5 29 m = cobS σ P J m := by rw [e29]; exact hCm
          have hcm := hcm hbm.1 (by omega)
          rw [ec]
          refine R_dup2 rfl rfl rfl ?_
          refine T_ald rfl rfl (by omega) (by omega) ?_
          refine R_push rfl ?_
          refine R_add rfl (by omega) (by omega) ?_
          refine T_iast rfl rfl (by omega) (by omega) ?_
          rw [hcm]
          generalize hs6 : up2 s5 32 (cobS σ P J m) _ = s6
          have hF6 : Fr [31, 32, 34] [] s2 s6 := by rw [← hs6]; exact hF5.upr rfl
          have hv6 : ∀ p, 0 ≤ p → p < P → s6 31 p = if cobS σ P J p < m then trnS σ P J p else -1 := fun p h0 h1 => by rw [← hs6, up_k (by decide)]; exact hv5 p h0 h1
          have hc6 : ∀ p, 0 ≤ p → p < P → s6 32 p = sumZ (fun q => b2i (cobS σ P J q = p)) (m + 1) := fun p h0 h1 => by
            rw [sumZ_s hm.1, ← hs6]
            by_cases z : p = cobS σ P J m
            · rw [z, up_s, b2i_t rfl]
            · rw [up_i z, hc5 p h0 h1, b2i_f (fun y => z y.symm)]; omega
          have e29' : s6 29 m = cobS σ P J m := by rw [← hs6, up_k (by decide)]; exact ec
          clear hs6 hc5 hv5 hF5 hcm hsb
          refine R_aload rfl rfl rfl ?_
          refine T_getr (v := 45) rfl rfl rfl rfl ?_
          refine R_iload rfl rfl ?_
          refine T_ald rfl rfl (by omega) (by omega) ?_
          refine R_iload rfl rfl ?_
          refine R_ic rfl (fun h92 => ?_) (fun h92 => ?_)
          · try simp only [ne_eq, b2i_e, b2i_1, Classical.not_not] at h92
            refine R_inc rfl rfl (by omega) (by omega) ?_
            refine R_goto rfl ?_
            exact ih (m + 1, s6) ⟨by dsimp only; omega, hF6, fun p h0 h1 => by
              dsimp only
              rw [hv6 p h0 h1]
              by_cases z : cobS σ P J p < m
              · rw [if_pos z, if_pos (by omega)]
              · rw [if_neg z, if_neg ?_]
                intro y
                have z2 : cobS σ P J p = m := by omega
                have id := lab_idem (on := onS σ) hPJ.2.2.1 hAB p h0 h1
                have id : cobS σ P J (cobS σ P J p) = cobS σ P J p := id
                rw [z2] at id
                omega, hc6⟩ (by dsimp only; omega)
          · try simp only [ne_eq, b2i_e, b2i_1, Classical.not_not] at h92
            refine R_aload rfl rfl rfl ?_
            refine R_iload rfl rfl ?_
            have hFc : Fr [29, 30, 31, 32, 34] [] σ s6 := hFa.tr hF6 rfl rfl
            have d1 := hFc.row 1 rfl 0
            have d21 := hFc.row 21 rfl 0
            have d22 := hFc.fn 22 rfl
            have d23 := hFc.fn 23 rfl
            have d24 := hFc.fn 24 rfl
            have d26 := hFc.fn 26 rfl
            have htr : ∀ p, 0 ≤ p → p < P → -1 ≤ s6 31 p ∧ s6 31 p ≤ 7 := fun p h0 h1 => by
              rw [hv6 p h0 h1]
              have := trn_bd (on := onS σ) (T := σ 24) ⟨hPJ.1, hPJ.2.1⟩ hPJ.2.2.1 hAB (p := p) ⟨h0, h1⟩
              have : 0 ≤ trnS σ P J p ∧ trnS σ P J p ≤ 7 := this
              split <;> omega
            obtain ⟨s7, hev7, hF7, q7⟩ := sp_X3_set d (by omega) xs t dd rr s6 m P J (CB_fr hC0 d1 d21 d22 d23) (by rw [d24]; exact hT) ⟨by omega, by omega⟩ htr
            rw [onS_fr d26, d22, d23, d24] at q7
            refine R_invv rfl rfl rfl rfl rfl rfl (hev7) rfl ?_
            show pCm _ _ _ 100 _ [] _
            refine R_inc rfl rfl (by omega) (by omega) ?_
            refine R_goto rfl ?_
            exact ih (m + 1, s7) ⟨by dsimp only; omega, hF6.tr hF7 rfl rfl, fun p h0 h1 => by
              dsimp only
              rw [q7, set_trn (on := onS σ) (T := σ 24) ⟨hPJ.1, hPJ.2.1⟩ hPJ.2.2.1 hAB (u := m) ⟨by omega, by omega⟩ (show cobS σ P J m = m by omega) htr (fun p h0 h1 hl => by
                have hl : cobS σ P J p = m := hl
                rw [hv6 p h0 h1, if_neg (by omega)]) p h0 h1]
              show (if cobS σ P J p = m then trnS σ P J p else s6 31 p) = _
              by_cases z : cobS σ P J p = m
              · rw [if_pos z, if_pos (by omega)]
              · rw [if_neg z, hv6 p h0 h1]
                by_cases y : cobS σ P J p < m
                · rw [if_pos y, if_pos (by omega)]
                · rw [if_neg y, if_neg (by omega)], fun p h0 h1 => by dsimp only; rw [hF7.row 32 rfl]; exact hc6 p h0 h1⟩ (by dsimp only; omega)
      · exact ⟨⟨Int.le_refl _, hPJ.1⟩, hF.tr (r2 := []) (s2 := []) Fr.rf rfl rfl, fun p h0 h1 => by
  have := hbd p h0 h1
  dsimp only; rw [if_neg (by omega), (hv p h0 (by omega)).1], fun p h0 h1 => by dsimp only; rw [(hv p h0 (by omega)).2]; rfl⟩
    · try simp only [ne_eq, b2i_e, b2i_1, Classical.not_not] at h34
      refine R_aload rfl rfl rfl ?_
      refine T_getr (v := 47) rfl rfl rfl rfl ?_
      refine R_iload rfl rfl ?_
      refine R_push rfl ?_
      refine T_iast rfl rfl (by omega) (by omega) ?_
      refine R_aload rfl rfl rfl ?_
      refine T_getr (v := 48) rfl rfl rfl rfl ?_
      refine R_iload rfl rfl ?_
      refine R_push rfl ?_
      refine T_iast rfl rfl (by omega) (by omega) ?_
      refine R_inc rfl rfl (by omega) (by omega) ?_
      refine R_goto rfl ?_
      generalize hs4 : up2 (up2 s3 31 k _) 32 k _ = s4
      refine ih (k + 1, s4) ⟨by dsimp only; omega, by rw [← hs4]; exact (hF.upr rfl).upr rfl, fun p h0 h1 => ?_⟩ (by dsimp only; omega)
      dsimp only at h1 ⊢
      rw [← hs4]
      by_cases q : p = k
      · simp [up2, q]
      · have := hv p h0 (by omega)
        simp [up2, q, this]
  · exact ⟨⟨Int.le_refl _, hPJ.1⟩, Fr.rf, fun p h0 h1 => by dsimp only at h1; omega⟩

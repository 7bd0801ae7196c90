def onMB (σ : Sg) (j : Int) : Bool := decide (σ 106 j = -1 ∧ σ 99 (σ 102 j) = 3)
def cobM (σ : Sg) (P J : Int) : Int → Int := lab P J (onM σ) (σ 102) (σ 103)
def whoM (σ : Sg) (P J : Int) : Int → Int := lab P J (onMB σ) (σ 102) (σ 103)
def trnM (σ : Sg) (P J : Int) : Int → Int := trn (onM σ) (σ 102) (σ 103) (σ 104) P J
theorem onD_M {σ : Sg} {j : Int} : onD σ (-1) 0 j = onM σ j := by
  unfold onD onM
  rw [decide_eq_decide]
  omega
theorem onD_MB {σ : Sg} {j : Int} : onD σ (-1) 1 j = onMB σ j := by
  unfold onD onMB
  rw [decide_eq_decide]
  omega
theorem onMB_fr {σ σ' : Sg} (h : σ' 106 = σ 106) (h2 : σ' 99 = σ 99) (h3 : σ' 102 = σ 102) : onMB σ' = onMB σ := by unfold onMB; rw [h, h2, h3]
theorem MB_fr {σ σ' : Sg} {P J : Int} (h : MB σ P J) (h1 : σ' 71 26 = σ 71 26) (h21 : σ' 71 43 = σ 71 43) (h22 : σ' 102 = σ 102) (h23 : σ' 103 = σ 103) : MB σ' P J := by unfold MB; rw [h1, h21, h22, h23]; exact h
def opM (σ : Sg) (P J j : Int) : Int := b2i (σ 106 j = -1 ∧ (trnM σ P J (σ 102 j / 8) + trnM σ P J (σ 103 j / 8) - σ 104 j) % 8 ≠ 0)
def opS (σ : Sg) (P J j : Int) : Int := b2i (σ 26 j = -1 ∧ (trnS σ P J (σ 22 j / 8) + trnS σ P J (σ 23 j / 8) - σ 24 j) % 8 ≠ 0)
theorem cobM_fr {σ σ' : Sg} {P J : Int} (h1 : σ' 106 = σ 106) (h2 : σ' 102 = σ 102) (h3 : σ' 103 = σ 103) : cobM σ' P J = cobM σ P J := by unfold cobM; rw [onM_fr h1, h2, h3]
theorem whoM_fr {σ σ' : Sg} {P J : Int} (h0 : σ' 99 = σ 99) (h1 : σ' 106 = σ 106) (h2 : σ' 102 = σ 102) (h3 : σ' 103 = σ 103) : whoM σ' P J = whoM σ P J := by unfold whoM; rw [onMB_fr h1 h0 h2, h2, h3]
theorem trnM_fr {σ σ' : Sg} {P J : Int} (h1 : σ' 106 = σ 106) (h2 : σ' 102 = σ 102) (h3 : σ' 103 = σ 103) (h4 : σ' 104 = σ 104) : trnM σ' P J = trnM σ P J := by unfold trnM; rw [onM_fr h1, h2, h3, h4]
theorem opM_fr {σ σ' : Sg} {P J : Int} (h1 : σ' 106 = σ 106) (h2 : σ' 102 = σ 102) (h3 : σ' 103 = σ 103) (h4 : σ' 104 = σ 104) : opM σ' P J = opM σ P J := by unfold opM; rw [trnM_fr h1 h2 h3 h4, h1, h2, h3, h4]
theorem cobM_bd {σ : Sg} {P J : Int} (hM : MB σ P J) : ∀ p, 0 ≤ p → p < P → 0 ≤ cobM σ P J p ∧ cobM σ P J p ≤ p := lab_bd hM.2.2.2.1.1 hM.2.2.2.2
theorem whoM_bd {σ : Sg} {P J : Int} (hM : MB σ P J) : ∀ p, 0 ≤ p → p < P → 0 ≤ whoM σ P J p ∧ whoM σ P J p ≤ p := lab_bd hM.2.2.2.1.1 hM.2.2.2.2
theorem trnM_bd {σ : Sg} {P J : Int} (hM : MB σ P J) : ∀ p, 0 ≤ p → p < P → 0 ≤ trnM σ P J p ∧ trnM σ P J p ≤ 7 := fun p h0 h1 => trn_bd hM.2.2.1 hM.2.2.2.1.1 hM.2.2.2.2 ⟨h0, h1⟩
theorem cobS_bd {σ : Sg} {P J : Int} (hM : CB σ P J) : ∀ p, 0 ≤ p → p < P → 0 ≤ cobS σ P J p ∧ cobS σ P J p ≤ p := lab_bd hM.2.2.2.1.1 hM.2.2.2.2
theorem whoS_bd {σ : Sg} {P J : Int} (hM : CB σ P J) : ∀ p, 0 ≤ p → p < P → 0 ≤ whoS σ P J p ∧ whoS σ P J p ≤ p := lab_bd hM.2.2.2.1.1 hM.2.2.2.2
theorem trnS_bd {σ : Sg} {P J : Int} (hM : CB σ P J) : ∀ p, 0 ≤ p → p < P → 0 ≤ trnS σ P J p ∧ trnS σ P J p ≤ 7 := fun p h0 h1 => trn_bd hM.2.2.1 hM.2.2.2.1.1 hM.2.2.2.2 ⟨h0, h1⟩
set_option maxRecDepth 20000 in
set_option maxHeartbeats 2000000 in
theorem sp_X10_cobbleOf (d : Nat) (hd : 3 ≤ d) (xs : List (Nat × Nat)) (t dd rr : Nat) (σ : Sg) (p : Int) (P J : Int) (hM : MB σ P J) (hp : 0 ≤ p ∧ p < P) : ∃ σ', Ev d 85 [(87, 0), (0, p)] (Wd xs t dd rr σ) (0, cobM σ P J p) (Wd xs t dd rr σ') ∧ Fr [107] [] σ σ' := by
  obtain ⟨d, rfl⟩ : ∃ e, d = e + 1 := ⟨d - 1, by omega⟩
  have hM0 := hM
  obtain ⟨h26, h43, hP0, hJ0, hAB⟩ := hM
  have hPJ : 0 ≤ P ∧ P ≤ 40 ∧ 0 ≤ J ∧ J ≤ 80 := ⟨hP0.1, hP0.2, hJ0.1, hJ0.2⟩
  clear hP0 hJ0
  refine evS (nL := 2) (code := k_X10_cobbleOf) rfl dc_X10_cobbleOf rfl (fun E hE => ?_)
  show pCm (Ev d) k_X10_cobbleOf E 0 [(87, 0), (0, p)] [] _
  refine R_aload rfl rfl rfl ?_
  refine R_push rfl ?_
  refine R_push rfl ?_
  obtain ⟨s1, hev, hF, hv⟩ := sp_X10_hangs d (by omega) xs t dd rr σ (-1) 0 P J hM0 (Or.inl rfl)
  refine R_invv rfl rfl rfl rfl rfl rfl (hev) rfl ?_
  show pCm _ _ _ 6 _ [] _
  refine R_aload rfl rfl rfl ?_
  refine T_getr (v := 123) rfl rfl rfl rfl ?_
  refine R_iload rfl rfl ?_
  refine T_ald rfl rfl (by omega) (by omega) ?_
  refine R_iret rfl ?_
  exact hE _ _ (by rw [hv p hp.1 hp.2]; unfold cobM; rw [lab_on hPJ.2.2.1 (fun j _ _ => onD_M)]) hF
set_option maxRecDepth 20000 in
set_option maxHeartbeats 2000000 in
theorem sp_X10_findHeaps (d : Nat) (hd : 3 ≤ d) (xs : List (Nat × Nat)) (t dd rr : Nat) (σ : Sg) (P J : Int) (hM : MB σ P J)  : ∃ σ', Ev d 91 [(87, 0)] (Wd xs t dd rr σ) (8, 0) (Wd xs t dd rr σ') ∧ Fr [107, 111, 112] [] σ σ' ∧ ∀ p, 0 ≤ p → p < P → σ' 111 p = cobM σ P J p ∧ σ' 112 p = whoM σ P J p := by
  obtain ⟨d, rfl⟩ : ∃ e, d = e + 1 := ⟨d - 1, by omega⟩
  have hM0 := hM
  obtain ⟨h26, h43, hP0, hJ0, hAB⟩ := hM
  have hPJ : 0 ≤ P ∧ P ≤ 40 ∧ 0 ≤ J ∧ J ≤ 80 := ⟨hP0.1, hP0.2, hJ0.1, hJ0.2⟩
  clear hP0 hJ0
  refine evS (nL := 2) (code := k_X10_findHeaps) rfl dc_X10_findHeaps rfl (fun E hE => ?_)
  show pCm (Ev d) k_X10_findHeaps E 0 [(87, 0), (9, 0)] [] _
  refine R_aload rfl rfl rfl ?_
  refine R_push rfl ?_
  refine R_push rfl ?_
  obtain ⟨s1, hev, hF1, hv1⟩ := sp_X10_hangs d (by omega) xs t dd rr σ (-1) 0 P J hM0 (Or.inl rfl)
  refine R_invv rfl rfl rfl rfl rfl rfl (hev) rfl ?_
  show pCm _ _ _ 6 _ [] _
  refine R_push rfl ?_
  refine R_istore rfl rfl ?_
  refine loop (pc := 8) (α := Int × Sg) (fun a => (P - a.1).toNat) (fun a => ([(87, 0), (0, a.1)], Wd xs t dd rr a.2)) (fun a => (0 ≤ a.1 ∧ a.1 ≤ P) ∧ Fr [111] [] s1 a.2 ∧ ∀ p, 0 ≤ p → p < a.1 → a.2 111 p = s1 107 p) ?_ (0, s1) ?_
  · intro ⟨k, s1'⟩ ⟨hk, hF, hv⟩ ih
    dsimp only at hk hF hv ⊢
    have e26 := (hF1.tr (r3 := [107, 111, 112]) (s3 := []) hF rfl rfl).row 71 rfl 26
    have e107 := hF.row 107 rfl k
    refine R_iload rfl rfl ?_
    refine R_aload rfl rfl rfl ?_
    refine T_geti rfl rfl rfl ?_
    refine R_ic rfl (fun h13 => ?_) (fun h13 => ?_)
    · try simp only [ne_eq, b2i_e, b2i_1, Classical.not_not] at h13
      refine R_aload rfl rfl rfl ?_
      refine R_push rfl ?_
      refine R_push rfl ?_
      have hFx : Fr [107, 111, 112] [] σ s1' := hF1.tr hF rfl rfl
      have hc : ∀ p, 0 ≤ p → p < P → s1' 111 p = cobM σ P J p := fun p h0 h1 => by rw [hv p h0 (by omega), hv1 p h0 h1]; unfold cobM; rw [lab_on hPJ.2.2.1 (fun j _ _ => onD_M)]
      have c26 := hFx.row 71 rfl 26
      have c43 := hFx.row 71 rfl 43
      have c99 := hFx.fn 99 rfl
      have c102 := hFx.fn 102 rfl
      have c103 := hFx.fn 103 rfl
      have c106 := hFx.fn 106 rfl
      obtain ⟨s2, hev2, hF2, hv2⟩ := sp_X10_hangs d (by omega) xs t dd rr s1' (-1) 1 P J (MB_fr hM0 c26 c43 c102 c103) (Or.inr rfl)
      have hFa : Fr [107, 111, 112] [] σ s2 := hFx.tr hF2 rfl rfl
      have hw : ∀ p, 0 ≤ p → p < P → s2 107 p = whoM σ P J p := fun p h0 h1 => by
        rw [hv2 p h0 h1, lab_on hPJ.2.2.1 (fun j _ _ => onD_MB), onMB_fr c106 c99 c102, c102, c103]; rfl
      have hc : ∀ p, 0 ≤ p → p < P → s2 111 p = cobM σ P J p := fun p h0 h1 => by rw [hF2.row 111 rfl]; exact hc p h0 h1
      clear ih hv hF e26 e107 hv2 hF2
      refine R_invv rfl rfl rfl rfl rfl rfl (hev2) rfl ?_
      show pCm _ _ _ 40 _ [] _
      refine R_push rfl ?_
      refine R_istore rfl rfl ?_
      refine loop (pc := 42) (α := Int × Sg) (fun a => (P - a.1).toNat) (fun a => ([(87, 0), (0, a.1)], Wd xs t dd rr a.2)) (fun a => (0 ≤ a.1 ∧ a.1 ≤ P) ∧ Fr [112] [] s2 a.2 ∧ ∀ p, 0 ≤ p → p < a.1 → a.2 112 p = s2 107 p) ?_ (0, s2) ?_
      · intro ⟨k, s2'⟩ ⟨hk, hF, hv⟩ ih
        dsimp only at hk hF hv ⊢
        have e26 := (hFa.tr (r3 := [107, 111, 112]) (s3 := []) hF rfl rfl).row 71 rfl 26
        have e107 := hF.row 107 rfl k
        refine R_iload rfl rfl ?_
        refine R_aload rfl rfl rfl ?_
        refine T_geti rfl rfl rfl ?_
        refine R_ic rfl (fun h47 => ?_) (fun h47 => ?_)
        · try simp only [ne_eq, b2i_e, b2i_1, Classical.not_not] at h47
          refine R_vret rfl ?_
          exact hE _ _ rfl ⟨hFa.tr hF rfl rfl, fun p h0 h1 => ⟨by rw [hF.row 111 rfl]; exact hc p h0 h1, by rw [hv p h0 (by omega)]; exact hw p h0 h1⟩⟩
        · try simp only [ne_eq, b2i_e, b2i_1, Classical.not_not] at h47
          refine R_aload rfl rfl rfl ?_
          refine T_getr (v := 128) rfl rfl rfl rfl ?_
          refine R_iload rfl rfl ?_
          refine R_aload rfl rfl rfl ?_
          refine T_getr (v := 123) rfl rfl rfl rfl ?_
          refine R_iload rfl rfl ?_
          refine T_ald rfl rfl (by omega) (by omega) ?_
          refine T_iast rfl rfl (by omega) (by omega) ?_
          refine R_inc rfl rfl (by omega) (by omega) ?_
          refine R_goto rfl ?_
          generalize hs3 : up2 s2' 112 k _ = s3
          refine ih (k + 1, s3) ⟨by dsimp only; omega, by rw [← hs3]; exact hF.upr rfl, fun p h0 h1 => ?_⟩ (by dsimp only; omega)
          dsimp only at h1 ⊢
          rw [← hs3]
          by_cases q : p = k
          · rw [q, up_s]; exact e107
          · rw [up_i q]; exact hv p h0 (by omega)
      · exact ⟨⟨Int.le_refl _, hPJ.1⟩, Fr.rf, fun p h0 h1 => by dsimp only at h1; omega⟩
    · try simp only [ne_eq, b2i_e, b2i_1, Classical.not_not] at h13
      refine R_aload rfl rfl rfl ?_
      refine T_getr (v := 127) rfl rfl rfl rfl ?_
      refine R_iload rfl rfl ?_
      refine R_aload rfl rfl rfl ?_
      refine T_getr (v := 123) rfl rfl rfl rfl ?_
      refine R_iload rfl rfl ?_
      refine T_ald rfl rfl (by omega) (by omega) ?_
      refine T_iast rfl rfl (by omega) (by omega) ?_
      refine R_inc rfl rfl (by omega) (by omega) ?_
      refine R_goto rfl ?_
      generalize hs3 : up2 s1' 111 k _ = s3
      refine ih (k + 1, s3) ⟨by dsimp only; omega, by rw [← hs3]; exact hF.upr rfl, fun p h0 h1 => ?_⟩ (by dsimp only; omega)
      dsimp only at h1 ⊢
      rw [← hs3]
      by_cases q : p = k
      · rw [q, up_s]; exact e107
      · rw [up_i q]; exact hv p h0 (by omega)
  · exact ⟨⟨Int.le_refl _, hPJ.1⟩, Fr.rf, fun p h0 h1 => by dsimp only at h1; omega⟩
set_option maxRecDepth 20000 in
set_option maxHeartbeats 2000000 in
theorem sp_X10_isOpen (d : Nat) (hd : 4 ≤ d) (xs : List (Nat × Nat)) (t dd rr : Nat) (σ : Sg) (j : Int) (P J : Int) (hM : MB σ P J) (hT : ∀ j, 0 ≤ j → j < J → 0 ≤ σ 104 j ∧ σ 104 j ≤ 7) (hj : 0 ≤ j ∧ j < J) : ∃ σ', Ev d 88 [(87, 0), (0, j)] (Wd xs t dd rr σ) (0, opM σ P J j) (Wd xs t dd rr σ') ∧ Fr [107, 108, 109, 110] [] σ σ' := by
  obtain ⟨d, rfl⟩ : ∃ e, d = e + 1 := ⟨d - 1, by omega⟩
  have hM0 := hM
  obtain ⟨h26, h43, hP0, hJ0, hAB⟩ := hM
  have hPJ : 0 ≤ P ∧ P ≤ 40 ∧ 0 ≤ J ∧ J ≤ 80 := ⟨hP0.1, hP0.2, hJ0.1, hJ0.2⟩
  clear hP0 hJ0
  have hAj := hAB j hj.1 hj.2
  have hTj := hT j hj.1 hj.2
  refine evS (nL := 2) (code := k_X10_isOpen) rfl dc_X10_isOpen rfl (fun E hE => ?_)
  show pCm (Ev d) k_X10_isOpen E 0 [(87, 0), (0, j)] [] _
  refine R_aload rfl rfl rfl ?_
  refine R_iload rfl rfl ?_
  refine R_invv rfl rfl rfl rfl rfl rfl (sp_X10_isOn d (by omega) xs t dd rr σ j ⟨by omega, by omega⟩) rfl ?_
  show pCm _ _ _ 5 _ [(0, _)] _
  refine R_if rfl (fun h5 => ?_) (fun h5 => ?_)
  · try simp only [ne_eq, b2i_e, b2i_1, Classical.not_not] at h5
    refine R_aload rfl rfl rfl ?_
    refine R_aload rfl rfl rfl ?_
    refine R_aload rfl rfl rfl ?_
    refine T_getr (v := 118) rfl rfl rfl rfl ?_
    refine R_iload rfl rfl ?_
    refine T_ald rfl rfl (by omega) (by omega) ?_
    refine R_push rfl ?_
    refine R_dv rfl (by omega) (by omega) (by omega) ?_
    obtain ⟨s1, hev, hF1⟩ := sp_X10_cobbleOf d (by omega) xs t dd rr σ (σ 102 j / 8) P J hM0 ⟨by omega, by omega⟩
    refine R_invv rfl rfl rfl rfl rfl rfl (hev) rfl ?_
    show pCm _ _ _ 24 _ [(0, _), (87, 0)] _
    have c26 := hF1.row 71 rfl 26
    have c43 := hF1.row 71 rfl 43
    have c102 := hF1.fn 102 rfl
    have c103 := hF1.fn 103 rfl
    have c104 := hF1.fn 104 rfl
    have c106 := hF1.fn 106 rfl
    have hcb := cobM_bd hM0 (σ 102 j / 8) (by omega) (by omega)
    obtain ⟨s2, hev2, hF2, hS⟩ := sp_X10_sets d (by omega) xs t dd rr s1 (cobM σ P J (σ 102 j / 8)) P J (MB_fr hM0 c26 c43 c102 c103) (by rw [c104]; exact hT) ⟨by omega, by omega⟩
    rw [onM_fr c106, c102, c103, c104] at hS
    refine R_invv rfl rfl rfl rfl rfl rfl (hev2) rfl ?_
    show pCm _ _ _ 27 _ [] _
    have hFa : Fr [107, 108, 109, 110] [] σ s2 := hF1.tr hF2 rfl rfl
    have d102 := hFa.row 102 rfl j
    have d103 := hFa.row 103 rfl j
    have d104 := hFa.row 104 rfl j
    have ho : onM σ j = true := by unfold onM; rw [decide_eq_true_iff]; omega
    have tr : ∀ p, 0 ≤ p ∧ p < P → cobM σ P J p = cobM σ P J (σ 102 j / 8) → s2 108 p = trnM σ P J p := by
      intro p hp he
      have h1 := hS.2 p hp.1 hp.2
      have h2 := bfs_all (on := onM σ) (T := σ 104) ⟨hPJ.1, hPJ.2.1⟩ hPJ.2.2.1 hAB (u := cobM σ P J (σ 102 j / 8)) ⟨by omega, by omega⟩ p hp (by
        show cobM σ P J p = cobM σ P J (cobM σ P J (σ 102 j / 8))
        rw [show cobM σ P J (cobM σ P J (σ 102 j / 8)) = cobM σ P J (σ 102 j / 8) from lab_idem hPJ.2.2.1 hAB _ (by omega) (by omega)]; exact he)
      unfold trnM trn
      rw [show lab P J (onM σ) (σ 102) (σ 103) p = cobM σ P J (σ 102 j / 8) from he]
      omega
    have t1 := tr (σ 102 j / 8) ⟨by omega, by omega⟩ rfl
    have t2 := tr (σ 103 j / 8) ⟨by omega, by omega⟩ (lab_join hAB hj.1 hj.2 ho).symm
    have b1 := trnM_bd hM0 (σ 102 j / 8) (by omega) (by omega)
    have b2 := trnM_bd hM0 (σ 103 j / 8) (by omega) (by omega)
    refine R_aload rfl rfl rfl ?_
    refine T_getr (v := 124) rfl rfl rfl rfl ?_
    refine R_aload rfl rfl rfl ?_
    refine T_getr (v := 118) rfl rfl rfl rfl ?_
    refine R_iload rfl rfl ?_
    refine T_ald rfl rfl (by omega) (by omega) ?_
    rw [d102]
    refine R_push rfl ?_
    refine R_dv rfl (by omega) (by omega) (by omega) ?_
    refine T_ald rfl rfl (by omega) (by omega) ?_
    rw [t1]
    refine R_aload rfl rfl rfl ?_
    refine T_getr (v := 124) rfl rfl rfl rfl ?_
    refine R_aload rfl rfl rfl ?_
    refine T_getr (v := 119) rfl rfl rfl rfl ?_
    refine R_iload rfl rfl ?_
    refine T_ald rfl rfl (by omega) (by omega) ?_
    rw [d103]
    refine R_push rfl ?_
    refine R_dv rfl (by omega) (by omega) (by omega) ?_
    refine T_ald rfl rfl (by omega) (by omega) ?_
    rw [t2]
    refine R_add rfl (by omega) (by omega) ?_
    refine R_aload rfl rfl rfl ?_
    refine T_getr (v := 120) rfl rfl rfl rfl ?_
    refine R_iload rfl rfl ?_
    refine T_ald rfl rfl (by omega) (by omega) ?_
    rw [d104]
    refine R_sub rfl (by omega) (by omega) ?_
    refine R_push rfl ?_
    refine R_add rfl (by omega) (by omega) ?_
    refine R_push rfl ?_
    refine R_rm rfl (by omega) (by omega) (by omega) ?_
    refine R_if rfl (fun h69 => ?_) (fun h69 => ?_)
    · try simp only [ne_eq, b2i_e, b2i_1, Classical.not_not] at h69
      refine R_push rfl ?_
      refine R_zret rfl (by first | exact Or.inl rfl | exact Or.inr rfl | omega | grind) ?_
      exact hE _ _ (by
        congr 1
        unfold opM
        first
        | rw [b2i_t (by omega)]
        | rw [b2i_f (by omega)]) hFa
    · try simp only [ne_eq, b2i_e, b2i_1, Classical.not_not] at h69
      refine R_push rfl ?_
      refine R_goto rfl ?_
      refine R_zret rfl (by first | exact Or.inl rfl | exact Or.inr rfl | omega | grind) ?_
      exact hE _ _ (by
        congr 1
        unfold opM
        first
        | rw [b2i_t (by omega)]
        | rw [b2i_f (by omega)]) hFa
  · try simp only [ne_eq, b2i_e, b2i_1, Classical.not_not] at h5
    refine R_push rfl ?_
    refine R_zret rfl (by first | exact Or.inl rfl | exact Or.inr rfl | omega | grind) ?_
    exact hE _ _ (by unfold opM; rw [b2i_f (by omega)]) Fr.rf

theorem opM_bd {σ : Sg} {P J j : Int} : 0 ≤ opM σ P J j ∧ opM σ P J j ≤ 1 := b2i_bd
theorem opS_bd {σ : Sg} {P J j : Int} : 0 ≤ opS σ P J j ∧ opS σ P J j ≤ 1 := b2i_bd
set_option maxRecDepth 20000 in
set_option maxHeartbeats 2000000 in
theorem sp_X10_openJoins (d : Nat) (hd : 5 ≤ d) (xs : List (Nat × Nat)) (t dd rr : Nat) (σ : Sg) (P J : Int) (hM : MB σ P J) (hT : ∀ j, 0 ≤ j → j < J → 0 ≤ σ 104 j ∧ σ 104 j ≤ 7)  : ∃ σ', Ev d 125 [(87, 0)] (Wd xs t dd rr σ) (0, sumZ (opM σ P J) J) (Wd xs t dd rr σ') ∧ Fr [107, 108, 109, 110] [] σ σ' := by
  obtain ⟨d, rfl⟩ : ∃ e, d = e + 1 := ⟨d - 1, by omega⟩
  have hM0 := hM
  obtain ⟨h26, h43, hP0, hJ0, hAB⟩ := hM
  have hPJ : 0 ≤ P ∧ P ≤ 40 ∧ 0 ≤ J ∧ J ≤ 80 := ⟨hP0.1, hP0.2, hJ0.1, hJ0.2⟩
  clear hP0 hJ0
  refine evS (nL := 3) (code := k_X10_openJoins) rfl dc_X10_openJoins rfl (fun E hE => ?_)
  show pCm (Ev d) k_X10_openJoins E 0 [(87, 0), (9, 0), (9, 0)] [] _
  refine R_push rfl ?_
  refine R_istore rfl rfl ?_
  refine R_push rfl ?_
  refine R_istore rfl rfl ?_
  refine loop (pc := 4) (α := Int × Int × Sg) (fun a => (J - a.2.1).toNat) (fun a => ([(87, 0), (0, a.1), (0, a.2.1)], Wd xs t dd rr a.2.2)) (fun a => (0 ≤ a.2.1 ∧ a.2.1 ≤ J) ∧ Fr [107, 108, 109, 110] [] σ a.2.2 ∧ a.1 = sumZ (opM σ P J) a.2.1) ?_ (0, 0, σ) ?_
  · intro ⟨n, k, s1⟩ ⟨⟨hk0, hk1⟩, hF, hn⟩ ih
    dsimp only at hk0 hk1 hF hn ⊢
    have hs := sumZ_bd (f := opM σ P J) (c := 1) hk0 (fun i hi0 hi1 => opM_bd)
    have e43 := hF.row 71 rfl 43
    have e26 := hF.row 71 rfl 26
    have c102 := hF.fn 102 rfl
    have c103 := hF.fn 103 rfl
    have c104 := hF.fn 104 rfl
    have c106 := hF.fn 106 rfl
    have hob := opM_bd (σ := σ) (P := P) (J := J) (j := k)
    refine R_iload rfl rfl ?_
    refine R_aload rfl rfl rfl ?_
    refine T_geti rfl rfl rfl ?_
    refine R_ic rfl (fun h9 => ?_) (fun h9 => ?_)
    · try simp only [ne_eq, b2i_e, b2i_1, Classical.not_not] at h9
      refine R_iload rfl rfl ?_
      refine R_iret rfl ?_
      exact hE _ _ (by congr 1; rw [hn]; congr 1; omega) hF
    · try simp only [ne_eq, b2i_e, b2i_1, Classical.not_not] at h9
      refine R_iload rfl rfl ?_
      refine R_aload rfl rfl rfl ?_
      refine R_iload rfl rfl ?_
      obtain ⟨s2, hev, hF2⟩ := sp_X10_isOpen d (by omega) xs t dd rr s1 k P J (MB_fr hM0 e26 e43 c102 c103) (by rw [c104]; exact hT) ⟨by omega, by omega⟩
      rw [opM_fr c106 c102 c103 c104] at hev
      refine R_invv rfl rfl rfl rfl rfl rfl (hev) rfl ?_
      show pCm _ _ _ 18 _ [(0, _), (0, _)] _
      replace hF := hF.tr (r3 := [107, 108, 109, 110]) (s3 := []) hF2 rfl rfl
      refine R_if rfl (fun h18 => ?_) (fun h18 => ?_)
      · try simp only [ne_eq, b2i_e, b2i_1, Classical.not_not] at h18
        refine R_push rfl ?_
        refine R_add rfl (by omega) (by omega) ?_
        refine R_istore rfl rfl ?_
        refine R_inc rfl rfl (by omega) (by omega) ?_
        refine R_goto rfl ?_
        exact ih (_, _, _) ⟨by dsimp only; omega, hF, by dsimp only; rw [sumZ_s hk0]; first | omega | (rw [b2i_t (by omega)]; omega) | (rw [b2i_f (by omega)]; omega) | (rw [if_pos (by omega)]; omega) | (rw [if_neg (by omega)]; omega)⟩ (by dsimp only; omega)
      · try simp only [ne_eq, b2i_e, b2i_1, Classical.not_not] at h18
        refine R_push rfl ?_
        refine R_goto rfl ?_
        refine R_add rfl (by omega) (by omega) ?_
        refine R_istore rfl rfl ?_
        refine R_inc rfl rfl (by omega) (by omega) ?_
        refine R_goto rfl ?_
        exact ih (_, _, _) ⟨by dsimp only; omega, hF, by dsimp only; rw [sumZ_s hk0]; first | omega | (rw [b2i_t (by omega)]; omega) | (rw [b2i_f (by omega)]; omega) | (rw [if_pos (by omega)]; omega) | (rw [if_neg (by omega)]; omega)⟩ (by dsimp only; omega)
  · exact ⟨⟨Int.le_refl _, by dsimp only; exact (by omega)⟩, Fr.rf, sumZ_0.symm⟩
set_option maxRecDepth 20000 in
set_option maxHeartbeats 2000000 in
theorem sp_X10_openIn (d : Nat) (hd : 5 ≤ d) (xs : List (Nat × Nat)) (t dd rr : Nat) (σ : Sg) (c : Int) (P J : Int) (hM : MB σ P J) (hT : ∀ j, 0 ≤ j → j < J → 0 ≤ σ 104 j ∧ σ 104 j ≤ 7)  : ∃ σ', Ev d 109 [(87, 0), (0, c)] (Wd xs t dd rr σ) (0, sumZ (fun j => b2i (σ 106 j = -1 ∧ σ 111 (σ 102 j / 8) = c ∧ opM σ P J j = 1)) J) (Wd xs t dd rr σ') ∧ Fr [107, 108, 109, 110] [] σ σ' := by
  obtain ⟨d, rfl⟩ : ∃ e, d = e + 1 := ⟨d - 1, by omega⟩
  have hM0 := hM
  obtain ⟨h26, h43, hP0, hJ0, hAB⟩ := hM
  have hPJ : 0 ≤ P ∧ P ≤ 40 ∧ 0 ≤ J ∧ J ≤ 80 := ⟨hP0.1, hP0.2, hJ0.1, hJ0.2⟩
  clear hP0 hJ0
  refine evS (nL := 4) (code := k_X10_openIn) rfl dc_X10_openIn rfl (fun E hE => ?_)
  show pCm (Ev d) k_X10_openIn E 0 [(87, 0), (0, c), (9, 0), (9, 0)] [] _
  refine R_push rfl ?_
  refine R_istore rfl rfl ?_
  refine R_push rfl ?_
  refine R_istore rfl rfl ?_
  refine loop (pc := 4) (α := Int × Int × Sg) (fun a => (J - a.2.1).toNat) (fun a => ([(87, 0), (0, c), (0, a.1), (0, a.2.1)], Wd xs t dd rr a.2.2)) (fun a => (0 ≤ a.2.1 ∧ a.2.1 ≤ J) ∧ Fr [107, 108, 109, 110] [] σ a.2.2 ∧ a.1 = sumZ (fun j => b2i (σ 106 j = -1 ∧ σ 111 (σ 102 j / 8) = c ∧ opM σ P J j = 1)) a.2.1) ?_ (0, 0, σ) ?_
  · intro ⟨n, k, s1⟩ ⟨⟨hk0, hk1⟩, hF, hn⟩ ih
    dsimp only at hk0 hk1 hF hn ⊢
    have hs := sumZ_bd (f := fun j => b2i (σ 106 j = -1 ∧ σ 111 (σ 102 j / 8) = c ∧ opM σ P J j = 1)) (c := 1) hk0 (fun i hi0 hi1 => b2i_bd)
    have e43 := hF.row 71 rfl 43
    have e26 := hF.row 71 rfl 26
    have c102 := hF.fn 102 rfl
    have c103 := hF.fn 103 rfl
    have c104 := hF.fn 104 rfl
    have c106 := hF.fn 106 rfl
    have g102 := hF.row 102 rfl k
    have g106 := hF.row 106 rfl k
    have g111 := hF.row 111 rfl (σ 102 k / 8)
    have hob := opM_bd (σ := σ) (P := P) (J := J) (j := k)
    have hAk : k < J → _ := hAB k hk0
    refine R_iload rfl rfl ?_
    refine R_aload rfl rfl rfl ?_
    refine T_geti rfl rfl rfl ?_
    refine R_ic rfl (fun h9 => ?_) (fun h9 => ?_)
    · try simp only [ne_eq, b2i_e, b2i_1, Classical.not_not] at h9
      refine R_iload rfl rfl ?_
      refine R_iret rfl ?_
      exact hE _ _ (by congr 1; rw [hn]; congr 1; omega) hF
    · try simp only [ne_eq, b2i_e, b2i_1, Classical.not_not] at h9
      refine R_iload rfl rfl ?_
      refine R_aload rfl rfl rfl ?_
      refine R_iload rfl rfl ?_
      refine R_invv rfl rfl rfl rfl rfl rfl (sp_X10_isOn d (by omega) xs t dd rr s1 k ⟨by omega, by omega⟩) rfl ?_
      show pCm _ _ _ 18 _ [(0, _), (0, _)] _
      refine R_if rfl (fun h18 => ?_) (fun h18 => ?_)
      · try simp only [ne_eq, b2i_e, b2i_1, Classical.not_not] at h18
        refine R_push rfl ?_
        refine R_add rfl (by omega) (by omega) ?_
        refine R_istore rfl rfl ?_
        refine R_inc rfl rfl (by omega) (by omega) ?_
        refine R_goto rfl ?_
        exact ih (_, _, _) ⟨by dsimp only; omega, hF, by dsimp only; rw [sumZ_s hk0]; first | omega | (rw [b2i_t (by omega)]; omega) | (rw [b2i_f (by omega)]; omega) | (rw [if_pos (by omega)]; omega) | (rw [if_neg (by omega)]; omega)⟩ (by dsimp only; omega)
      · try simp only [ne_eq, b2i_e, b2i_1, Classical.not_not] at h18
        have hAk := hAk (by omega)
        
        refine R_aload rfl rfl rfl ?_
        refine T_getr (v := 127) rfl rfl rfl rfl ?_
        refine R_aload rfl rfl rfl ?_
        refine T_getr (v := 118) rfl rfl rfl rfl ?_
        refine R_iload rfl rfl ?_
        refine T_ald rfl rfl (by omega) (by omega) ?_
        rw [g102]
        refine R_push rfl ?_
        refine R_dv rfl (by omega) (by omega) (by omega) ?_
        refine T_ald rfl rfl (by omega) (by omega) ?_
        refine R_iload rfl rfl ?_
        refine R_ic rfl (fun h36 => ?_) (fun h36 => ?_)
        · try simp only [ne_eq, b2i_e, b2i_1, Classical.not_not] at h36
          refine R_push rfl ?_
          refine R_add rfl (by omega) (by omega) ?_
          refine R_istore rfl rfl ?_
          refine R_inc rfl rfl (by omega) (by omega) ?_
          refine R_goto rfl ?_
          exact ih (_, _, _) ⟨by dsimp only; omega, hF, by dsimp only; rw [sumZ_s hk0]; first | omega | (rw [b2i_t (by omega)]; omega) | (rw [b2i_f (by omega)]; omega) | (rw [if_pos (by omega)]; omega) | (rw [if_neg (by omega)]; omega)⟩ (by dsimp only; omega)
        · try simp only [ne_eq, b2i_e, b2i_1, Classical.not_not] at h36
          refine R_aload rfl rfl rfl ?_
          refine R_iload rfl rfl ?_
          obtain ⟨s2, hev, hF2⟩ := sp_X10_isOpen d (by omega) xs t dd rr s1 k P J (MB_fr hM0 e26 e43 c102 c103) (by rw [c104]; exact hT) ⟨by omega, by omega⟩
          rw [opM_fr c106 c102 c103 c104] at hev
          refine R_invv rfl rfl rfl rfl rfl rfl (hev) rfl ?_
          show pCm _ _ _ 44 _ [(0, _), (0, _)] _
          replace hF := hF.tr (r3 := [107, 108, 109, 110]) (s3 := []) hF2 rfl rfl
          refine R_if rfl (fun h44 => ?_) (fun h44 => ?_)
          · try simp only [ne_eq, b2i_e, b2i_1, Classical.not_not] at h44
            refine R_push rfl ?_
            refine R_add rfl (by omega) (by omega) ?_
            refine R_istore rfl rfl ?_
            refine R_inc rfl rfl (by omega) (by omega) ?_
            refine R_goto rfl ?_
            exact ih (_, _, _) ⟨by dsimp only; omega, hF, by dsimp only; rw [sumZ_s hk0]; first | omega | (rw [b2i_t (by omega)]; omega) | (rw [b2i_f (by omega)]; omega) | (rw [if_pos (by omega)]; omega) | (rw [if_neg (by omega)]; omega)⟩ (by dsimp only; omega)
          · try simp only [ne_eq, b2i_e, b2i_1, Classical.not_not] at h44
            refine R_push rfl ?_
            refine R_goto rfl ?_
            refine R_add rfl (by omega) (by omega) ?_
            refine R_istore rfl rfl ?_
            refine R_inc rfl rfl (by omega) (by omega) ?_
            refine R_goto rfl ?_
            exact ih (_, _, _) ⟨by dsimp only; omega, hF, by dsimp only; rw [sumZ_s hk0]; first | omega | (rw [b2i_t (by omega)]; omega) | (rw [b2i_f (by omega)]; omega) | (rw [if_pos (by omega)]; omega) | (rw [if_neg (by omega)]; omega)⟩ (by dsimp only; omega)
  · exact ⟨⟨Int.le_refl _, by dsimp only; exact (by omega)⟩, Fr.rf, sumZ_0.symm⟩
set_option maxRecDepth 20000 in
set_option maxHeartbeats 2000000 in
theorem sp_X10_cobblesOfTwo (d : Nat) (hd : 4 ≤ d) (xs : List (Nat × Nat)) (t dd rr : Nat) (σ : Sg) (P J : Int) (hM : MB σ P J)  : ∃ σ', Ev d 124 [(87, 0)] (Wd xs t dd rr σ) (0, sumZ (fun p => b2i (cobM σ P J p = p ∧ 1 < sumZ (fun q => b2i (cobM σ P J q = p)) P)) P) (Wd xs t dd rr σ') ∧ Fr [107, 111, 112] [] σ σ' := by
  obtain ⟨d, rfl⟩ : ∃ e, d = e + 1 := ⟨d - 1, by omega⟩
  have hM0 := hM
  obtain ⟨h26, h43, hP0, hJ0, hAB⟩ := hM
  have hPJ : 0 ≤ P ∧ P ≤ 40 ∧ 0 ≤ J ∧ J ≤ 80 := ⟨hP0.1, hP0.2, hJ0.1, hJ0.2⟩
  clear hP0 hJ0
  refine evS (nL := 3) (code := k_X10_cobblesOfTwo) rfl dc_X10_cobblesOfTwo rfl (fun E hE => ?_)
  show pCm (Ev d) k_X10_cobblesOfTwo E 0 [(87, 0), (9, 0), (9, 0)] [] _
  refine R_aload rfl rfl rfl ?_
  obtain ⟨s1, hev, hF, hc⟩ := sp_X10_findHeaps d (by omega) xs t dd rr σ P J hM0
  refine R_invv rfl rfl rfl rfl rfl rfl (hev) rfl ?_
  show pCm _ _ _ 4 _ [] _
  have e26 := hF.row 71 rfl 26
  refine R_push rfl ?_
  refine R_istore rfl rfl ?_
  refine R_push rfl ?_
  refine R_istore rfl rfl ?_
  refine loop (pc := 8) (α := Int × Int) (fun a => (P - a.2).toNat) (fun a => ([(87, 0), (0, a.1), (0, a.2)], Wd xs t dd rr s1)) (fun a => 0 ≤ a.2 ∧ a.2 ≤ P ∧ a.1 = sumZ (fun p => b2i (cobM σ P J p = p ∧ 1 < sumZ (fun q => b2i (cobM σ P J q = p)) P)) a.2) ?_ (0, 0) ?_
  · intro ⟨n, k⟩ ⟨hk0, hk1, hn⟩ ih
    dsimp only at hk0 hk1 hn ⊢
    have hs := sumZ_bd (f := fun p => b2i (cobM σ P J p = p ∧ 1 < sumZ (fun q => b2i (cobM σ P J q = p)) P)) (c := 1) hk0 (fun i hi0 hi1 => b2i_bd)
    have hck : k < P → _ := fun q => (hc k hk0 q).1
    refine R_iload rfl rfl ?_
    refine R_aload rfl rfl rfl ?_
    refine T_geti rfl rfl rfl ?_
    refine R_ic rfl (fun h13 => ?_) (fun h13 => ?_)
    · try simp only [ne_eq, b2i_e, b2i_1, Classical.not_not] at h13
      refine R_iload rfl rfl ?_
      refine R_iret rfl ?_
      exact hE _ _ (by congr 1; rw [hn]; congr 1; omega) hF
    · try simp only [ne_eq, b2i_e, b2i_1, Classical.not_not] at h13
      have hck := hck (by omega)
      refine R_iload rfl rfl ?_
      refine R_aload rfl rfl rfl ?_
      refine T_getr (v := 127) rfl rfl rfl rfl ?_
      refine R_iload rfl rfl ?_
      refine T_ald rfl rfl (by omega) (by omega) ?_
      refine R_iload rfl rfl ?_
      refine R_ic rfl (fun h24 => ?_) (fun h24 => ?_)
      · try simp only [ne_eq, b2i_e, b2i_1, Classical.not_not] at h24
        refine R_push rfl ?_
        refine R_add rfl (by omega) (by omega) ?_
        refine R_istore rfl rfl ?_
        refine R_inc rfl rfl (by omega) (by omega) ?_
        refine R_goto rfl ?_
        exact ih (_, _) ⟨by dsimp only; omega, by dsimp only; omega, by dsimp only; rw [sumZ_s hk0]; first | omega | (rw [b2i_t (by omega)]; omega) | (rw [b2i_f (by omega)]; omega) | (rw [if_pos (by omega)]; omega) | (rw [if_neg (by omega)]; omega)⟩ (by dsimp only; omega)
      · try simp only [ne_eq, b2i_e, b2i_1, Classical.not_not] at h24
        refine R_aload rfl rfl rfl ?_
        refine R_iload rfl rfl ?_
        refine R_invv rfl rfl rfl rfl rfl rfl (sp_X10_manyOf d (by omega) xs t dd rr s1 k P (by omega) (by omega) (by omega)) rfl ?_
        show pCm _ _ _ 32 _ [(0, _), (0, _)] _
        rw [sumZ_congr (g := fun q => b2i (cobM σ P J q = k)) (fun q q0 q1 => by rw [(hc q q0 q1).1])]
        refine R_push rfl ?_
        refine R_ic rfl (fun h33 => ?_) (fun h33 => ?_)
        · try simp only [ne_eq, b2i_e, b2i_1, Classical.not_not] at h33
          refine R_push rfl ?_
          refine R_add rfl (by omega) (by omega) ?_
          refine R_istore rfl rfl ?_
          refine R_inc rfl rfl (by omega) (by omega) ?_
          refine R_goto rfl ?_
          exact ih (_, _) ⟨by dsimp only; omega, by dsimp only; omega, by dsimp only; rw [sumZ_s hk0]; first | omega | (rw [b2i_t (by omega)]; omega) | (rw [b2i_f (by omega)]; omega) | (rw [if_pos (by omega)]; omega) | (rw [if_neg (by omega)]; omega)⟩ (by dsimp only; omega)
        · try simp only [ne_eq, b2i_e, b2i_1, Classical.not_not] at h33
          refine R_push rfl ?_
          refine R_goto rfl ?_
          refine R_add rfl (by omega) (by omega) ?_
          refine R_istore rfl rfl ?_
          refine R_inc rfl rfl (by omega) (by omega) ?_
          refine R_goto rfl ?_
          exact ih (_, _) ⟨by dsimp only; omega, by dsimp only; omega, by dsimp only; rw [sumZ_s hk0]; first | omega | (rw [b2i_t (by omega)]; omega) | (rw [b2i_f (by omega)]; omega) | (rw [if_pos (by omega)]; omega) | (rw [if_neg (by omega)]; omega)⟩ (by dsimp only; omega)
  · exact ⟨Int.le_refl _, (by omega), sumZ_0.symm⟩
set_option maxRecDepth 20000 in
set_option maxHeartbeats 2000000 in
theorem sp_X3_isOpen (d : Nat) (hd : 3 ≤ d) (xs : List (Nat × Nat)) (t dd rr : Nat) (σ : Sg) (j : Int) (P J : Int) (hC : CB σ P J) (hg : ∀ p, 0 ≤ p → p < P → σ 31 p = trnS σ P J p) (hT : ∀ j, 0 ≤ j → j < J → 0 ≤ σ 24 j ∧ σ 24 j ≤ 7)  : Ev d 180 [(44, 0), (0, j)] (Wd xs t dd rr σ) (0, b2i ((0 ≤ j ∧ j < J) ∧ opS σ P J j = 1)) (Wd xs t dd rr σ) := by
  obtain ⟨d, rfl⟩ : ∃ e, d = e + 1 := ⟨d - 1, by omega⟩
  have hC0 := hC
  obtain ⟨h1_, h21_, hP0, hJ0, hAB⟩ := hC
  have hPJ : 0 ≤ P ∧ P ≤ 40 ∧ 0 ≤ J ∧ J ≤ 80 := ⟨hP0.1, hP0.2, hJ0.1, hJ0.2⟩
  clear hP0 hJ0
  refine evP (nL := 3) (code := k_X3_isOpen) rfl pb0 rfl (fun E hE => ?_)
  show pCm (Ev d) k_X3_isOpen E 0 [(44, 0), (0, j), (9, 0)] [] _
  refine R_aload rfl rfl rfl ?_
  refine T_getr (v := 37) rfl rfl rfl rfl ?_
  refine R_iload rfl rfl ?_
  refine R_invv rfl rfl rfl rfl rfl rfl (sp_X4_stands d (by omega) xs t dd rr σ j J h21_ hPJ.2.2.2) rfl ?_
  show pCm _ _ _ 8 _ [(0, _)] _
  refine R_if rfl (fun h8 => ?_) (fun h8 => ?_)
  · try simp only [ne_eq, b2i_e, b2i_1, Classical.not_not] at h8
    have hAj := hAB j (by omega) (by omega)
    have hTj := hT j (by omega) (by omega)
    have g1 := hg (σ 22 j / 8) (by omega) (by omega)
    have g2 := hg (σ 23 j / 8) (by omega) (by omega)
    have b1 := trnS_bd hC0 (σ 22 j / 8) (by omega) (by omega)
    have b2 := trnS_bd hC0 (σ 23 j / 8) (by omega) (by omega)
    have ho : onS σ j = true := by unfold onS; rw [decide_eq_true_iff]; omega
    refine R_aload rfl rfl rfl ?_
    refine T_getr (v := 47) rfl rfl rfl rfl ?_
    refine R_aload rfl rfl rfl ?_
    refine T_getr (v := 37) rfl rfl rfl rfl ?_
    refine T_getr (v := 38) rfl rfl rfl rfl ?_
    refine R_iload rfl rfl ?_
    refine T_ald rfl rfl (by omega) (by omega) ?_
    refine R_push rfl ?_
    refine R_dv rfl (by omega) (by omega) (by omega) ?_
    refine T_ald rfl rfl (by omega) (by omega) ?_
    refine R_aload rfl rfl rfl ?_
    refine T_getr (v := 47) rfl rfl rfl rfl ?_
    refine R_aload rfl rfl rfl ?_
    refine T_getr (v := 37) rfl rfl rfl rfl ?_
    refine T_getr (v := 39) rfl rfl rfl rfl ?_
    refine R_iload rfl rfl ?_
    refine T_ald rfl rfl (by omega) (by omega) ?_
    refine R_push rfl ?_
    refine R_dv rfl (by omega) (by omega) (by omega) ?_
    refine T_ald rfl rfl (by omega) (by omega) ?_
    refine R_add rfl (by omega) (by omega) ?_
    refine R_istore rfl rfl ?_
    refine R_iload rfl rfl ?_
    refine R_aload rfl rfl rfl ?_
    refine T_getr (v := 37) rfl rfl rfl rfl ?_
    refine T_getr (v := 40) rfl rfl rfl rfl ?_
    refine R_iload rfl rfl ?_
    refine T_ald rfl rfl (by omega) (by omega) ?_
    refine R_sub rfl (by omega) (by omega) ?_
    refine R_inv rfl rfl rfl rfl rfl (sp_X9_modEight d (by omega) _ _) rfl ?_
    show pCm _ _ _ 63 _ [(0, _)] _
    rw [modE _ (by omega)]
    refine R_if rfl (fun h63 => ?_) (fun h63 => ?_)
    · try simp only [ne_eq, b2i_e, b2i_1, Classical.not_not] at h63
      refine R_push rfl ?_
      refine R_zret rfl (by first | exact Or.inl rfl | exact Or.inr rfl | omega | grind) ?_
      exact hE _ (by
        congr 1
        unfold opS
        first
        | rw [b2i_t (p := _ ∧ _) ⟨by omega, by rw [b2i_t (by omega)]⟩]
        | rw [b2i_f (p := _ ∧ _) (by rw [b2i_f (by omega)]; omega)])
    · try simp only [ne_eq, b2i_e, b2i_1, Classical.not_not] at h63
      refine R_push rfl ?_
      refine R_goto rfl ?_
      refine R_zret rfl (by first | exact Or.inl rfl | exact Or.inr rfl | omega | grind) ?_
      exact hE _ (by
        congr 1
        unfold opS
        first
        | rw [b2i_t (p := _ ∧ _) ⟨by omega, by rw [b2i_t (by omega)]⟩]
        | rw [b2i_f (p := _ ∧ _) (by rw [b2i_f (by omega)]; omega)])
  · try simp only [ne_eq, b2i_e, b2i_1, Classical.not_not] at h8
    refine R_push rfl ?_
    refine R_zret rfl (by first | exact Or.inl rfl | exact Or.inr rfl | omega | grind) ?_
    exact hE _ (by
      rw [b2i_f]
      intro ⟨z1, z2⟩
      unfold opS at z2
      rw [b2i_1] at z2
      omega)
set_option maxRecDepth 20000 in
set_option maxHeartbeats 2000000 in
theorem sp_X3_openJoins (d : Nat) (hd : 4 ≤ d) (xs : List (Nat × Nat)) (t dd rr : Nat) (σ : Sg) (P J : Int) (hC : CB σ P J) (hg : ∀ p, 0 ≤ p → p < P → σ 31 p = trnS σ P J p) (hT : ∀ j, 0 ≤ j → j < J → 0 ≤ σ 24 j ∧ σ 24 j ≤ 7)  : Ev d 181 [(44, 0)] (Wd xs t dd rr σ) (0, sumZ (opS σ P J) J) (Wd xs t dd rr σ) := by
  obtain ⟨d, rfl⟩ : ∃ e, d = e + 1 := ⟨d - 1, by omega⟩
  have hC0 := hC
  obtain ⟨h1_, h21_, hP0, hJ0, hAB⟩ := hC
  have hPJ : 0 ≤ P ∧ P ≤ 40 ∧ 0 ≤ J ∧ J ≤ 80 := ⟨hP0.1, hP0.2, hJ0.1, hJ0.2⟩
  clear hP0 hJ0
  refine evP (nL := 3) (code := k_X3_openJoins) rfl pb0 rfl (fun E hE => ?_)
  show pCm (Ev d) k_X3_openJoins E 0 [(44, 0), (9, 0), (9, 0)] [] _
  refine R_push rfl ?_
  refine R_istore rfl rfl ?_
  refine R_push rfl ?_
  refine R_istore rfl rfl ?_
  refine loop (pc := 4) (α := Int × Int) (fun a => (J - a.2).toNat) (fun a => ([(44, 0), (0, a.1), (0, a.2)], Wd xs t dd rr σ)) (fun a => 0 ≤ a.2 ∧ a.2 ≤ J ∧ a.1 = sumZ (opS σ P J) a.2) ?_ (0, 0) ?_
  · intro ⟨n, k⟩ ⟨hk0, hk1, hn⟩ ih
    dsimp only at hk0 hk1 hn ⊢
    have hs := sumZ_bd (f := opS σ P J) (c := 1) hk0 (fun i hi0 hi1 => opS_bd)
    have hob := opS_bd (σ := σ) (P := P) (J := J) (j := k)
    refine R_iload rfl rfl ?_
    refine R_aload rfl rfl rfl ?_
    refine T_getr (v := 37) rfl rfl rfl rfl ?_
    refine T_geti rfl rfl rfl ?_
    refine R_ic rfl (fun h12 => ?_) (fun h12 => ?_)
    · try simp only [ne_eq, b2i_e, b2i_1, Classical.not_not] at h12
      refine R_iload rfl rfl ?_
      refine R_iret rfl ?_
      exact hE _ (by congr 1; rw [hn]; congr 1; omega)
    · try simp only [ne_eq, b2i_e, b2i_1, Classical.not_not] at h12
      refine R_aload rfl rfl rfl ?_
      refine R_iload rfl rfl ?_
      refine R_invv rfl rfl rfl rfl rfl rfl (sp_X3_isOpen d (by omega) xs t dd rr σ k P J hC0 hg hT) rfl ?_
      show pCm _ _ _ 20 _ [(0, _)] _
      refine R_if rfl (fun h20 => ?_) (fun h20 => ?_)
      · try simp only [ne_eq, b2i_e, b2i_1, Classical.not_not] at h20
        refine R_inc rfl rfl (by omega) (by omega) ?_
        refine R_goto rfl ?_
        exact ih (_, _) ⟨by dsimp only; omega, by dsimp only; omega, by dsimp only; rw [sumZ_s hk0]; first | omega | (rw [b2i_t (by omega)]; omega) | (rw [b2i_f (by omega)]; omega) | (rw [if_pos (by omega)]; omega) | (rw [if_neg (by omega)]; omega)⟩ (by dsimp only; omega)
      · try simp only [ne_eq, b2i_e, b2i_1, Classical.not_not] at h20
        refine R_inc rfl rfl (by omega) (by omega) ?_
        refine R_inc rfl rfl (by omega) (by omega) ?_
        refine R_goto rfl ?_
        exact ih (_, _) ⟨by dsimp only; omega, by dsimp only; omega, by dsimp only; rw [sumZ_s hk0]; first | omega | (rw [b2i_t (by omega)]; omega) | (rw [b2i_f (by omega)]; omega) | (rw [if_pos (by omega)]; omega) | (rw [if_neg (by omega)]; omega)⟩ (by dsimp only; omega)
  · exact ⟨Int.le_refl _, (by omega), sumZ_0.symm⟩
set_option maxRecDepth 20000 in
set_option maxHeartbeats 2000000 in
theorem sp_X3_openIn (d : Nat) (hd : 4 ≤ d) (xs : List (Nat × Nat)) (t dd rr : Nat) (σ : Sg) (c : Int) (P J : Int) (hC : CB σ P J) (hg : ∀ p, 0 ≤ p → p < P → σ 31 p = trnS σ P J p) (hT : ∀ j, 0 ≤ j → j < J → 0 ≤ σ 24 j ∧ σ 24 j ≤ 7)  : Ev d 182 [(44, 0), (0, c)] (Wd xs t dd rr σ) (0, sumZ (fun j => b2i (opS σ P J j = 1 ∧ σ 29 (σ 22 j / 8) = c)) J) (Wd xs t dd rr σ) := by
  obtain ⟨d, rfl⟩ : ∃ e, d = e + 1 := ⟨d - 1, by omega⟩
  have hC0 := hC
  obtain ⟨h1_, h21_, hP0, hJ0, hAB⟩ := hC
  have hPJ : 0 ≤ P ∧ P ≤ 40 ∧ 0 ≤ J ∧ J ≤ 80 := ⟨hP0.1, hP0.2, hJ0.1, hJ0.2⟩
  clear hP0 hJ0
  refine evP (nL := 4) (code := k_X3_openIn) rfl pb0 rfl (fun E hE => ?_)
  show pCm (Ev d) k_X3_openIn E 0 [(44, 0), (0, c), (9, 0), (9, 0)] [] _
  refine R_push rfl ?_
  refine R_istore rfl rfl ?_
  refine R_push rfl ?_
  refine R_istore rfl rfl ?_
  refine loop (pc := 4) (α := Int × Int) (fun a => (J - a.2).toNat) (fun a => ([(44, 0), (0, c), (0, a.1), (0, a.2)], Wd xs t dd rr σ)) (fun a => 0 ≤ a.2 ∧ a.2 ≤ J ∧ a.1 = sumZ (fun j => b2i (opS σ P J j = 1 ∧ σ 29 (σ 22 j / 8) = c)) a.2) ?_ (0, 0) ?_
  · intro ⟨n, k⟩ ⟨hk0, hk1, hn⟩ ih
    dsimp only at hk0 hk1 hn ⊢
    have hs := sumZ_bd (f := fun j => b2i (opS σ P J j = 1 ∧ σ 29 (σ 22 j / 8) = c)) (c := 1) hk0 (fun i hi0 hi1 => b2i_bd)
    have hAk : k < J → _ := hAB k hk0
    refine R_iload rfl rfl ?_
    refine R_aload rfl rfl rfl ?_
    refine T_getr (v := 37) rfl rfl rfl rfl ?_
    refine T_geti rfl rfl rfl ?_
    refine R_ic rfl (fun h12 => ?_) (fun h12 => ?_)
    · try simp only [ne_eq, b2i_e, b2i_1, Classical.not_not] at h12
      refine R_iload rfl rfl ?_
      refine R_iret rfl ?_
      exact hE _ (by congr 1; rw [hn]; congr 1; omega)
    · try simp only [ne_eq, b2i_e, b2i_1, Classical.not_not] at h12
      refine R_aload rfl rfl rfl ?_
      refine R_iload rfl rfl ?_
      refine R_invv rfl rfl rfl rfl rfl rfl (sp_X3_isOpen d (by omega) xs t dd rr σ k P J hC0 hg hT) rfl ?_
      show pCm _ _ _ 20 _ [(0, _)] _
      refine R_if rfl (fun h20 => ?_) (fun h20 => ?_)
      · try simp only [ne_eq, b2i_e, b2i_1, Classical.not_not] at h20
        refine R_inc rfl rfl (by omega) (by omega) ?_
        refine R_goto rfl ?_
        exact ih (_, _) ⟨by dsimp only; omega, by dsimp only; omega, by dsimp only; rw [sumZ_s hk0]; first | omega | (rw [b2i_t (by omega)]; omega) | (rw [b2i_f (by omega)]; omega) | (rw [if_pos (by omega)]; omega) | (rw [if_neg (by omega)]; omega)⟩ (by dsimp only; omega)
      · try simp only [ne_eq, b2i_e, b2i_1, Classical.not_not] at h20
        have hAk := hAk (by omega)
        refine R_aload rfl rfl rfl ?_
        refine T_getr (v := 45) rfl rfl rfl rfl ?_
        refine R_aload rfl rfl rfl ?_
        refine T_getr (v := 37) rfl rfl rfl rfl ?_
        refine T_getr (v := 38) rfl rfl rfl rfl ?_
        refine R_iload rfl rfl ?_
        refine T_ald rfl rfl (by omega) (by omega) ?_
        refine R_push rfl ?_
        refine R_dv rfl (by omega) (by omega) (by omega) ?_
        refine T_ald rfl rfl (by omega) (by omega) ?_
        refine R_iload rfl rfl ?_
        refine R_ic rfl (fun h41 => ?_) (fun h41 => ?_)
        · try simp only [ne_eq, b2i_e, b2i_1, Classical.not_not] at h41
          refine R_inc rfl rfl (by omega) (by omega) ?_
          refine R_goto rfl ?_
          exact ih (_, _) ⟨by dsimp only; omega, by dsimp only; omega, by dsimp only; rw [sumZ_s hk0]; first | omega | (rw [b2i_t (by omega)]; omega) | (rw [b2i_f (by omega)]; omega) | (rw [if_pos (by omega)]; omega) | (rw [if_neg (by omega)]; omega)⟩ (by dsimp only; omega)
        · try simp only [ne_eq, b2i_e, b2i_1, Classical.not_not] at h41
          refine R_inc rfl rfl (by omega) (by omega) ?_
          refine R_inc rfl rfl (by omega) (by omega) ?_
          refine R_goto rfl ?_
          exact ih (_, _) ⟨by dsimp only; omega, by dsimp only; omega, by dsimp only; rw [sumZ_s hk0]; first | omega | (rw [b2i_t (by omega)]; omega) | (rw [b2i_f (by omega)]; omega) | (rw [if_pos (by omega)]; omega) | (rw [if_neg (by omega)]; omega)⟩ (by dsimp only; omega)
  · exact ⟨Int.le_refl _, (by omega), sumZ_0.symm⟩
set_option maxRecDepth 20000 in
set_option maxHeartbeats 2000000 in
theorem sp_X3_cobbleAsOf (d : Nat) (hd : 4 ≤ d) (xs : List (Nat × Nat)) (t dd rr : Nat) (σ : Sg) (p day : Int) (P J : Int) (hC : CB σ P J) (hp : 0 ≤ p ∧ p < P) : ∃ σ', Ev d 183 [(44, 0), (0, p), (0, day)] (Wd xs t dd rr σ) (0, lab P J (onC σ day 0) (σ 22) (σ 23) p) (Wd xs t dd rr σ') ∧ Fr [33] [] σ σ' := by
  obtain ⟨d, rfl⟩ : ∃ e, d = e + 1 := ⟨d - 1, by omega⟩
  have hC0 := hC
  obtain ⟨h1_, h21_, hP0, hJ0, hAB⟩ := hC
  have hPJ : 0 ≤ P ∧ P ≤ 40 ∧ 0 ≤ J ∧ J ≤ 80 := ⟨hP0.1, hP0.2, hJ0.1, hJ0.2⟩
  clear hP0 hJ0
  refine evS (nL := 3) (code := k_X3_cobbleAsOf) rfl dc_X3_cobbleAsOf rfl (fun E hE => ?_)
  show pCm (Ev d) k_X3_cobbleAsOf E 0 [(44, 0), (0, p), (0, day)] [] _
  refine R_aload rfl rfl rfl ?_
  refine R_aload rfl rfl rfl ?_
  refine T_getr (v := 49) rfl rfl rfl rfl ?_
  refine R_iload rfl rfl ?_
  refine R_push rfl ?_
  obtain ⟨s1, hev, hF, hv⟩ := sp_X3_hang_33 d (by omega) xs t dd rr σ day 0 P J hC0 (Or.inl rfl)
  refine R_invv rfl rfl rfl rfl rfl rfl (hev) rfl ?_
  show pCm _ _ _ 10 _ [] _
  refine R_aload rfl rfl rfl ?_
  refine T_getr (v := 49) rfl rfl rfl rfl ?_
  refine R_iload rfl rfl ?_
  refine T_ald rfl rfl (by omega) (by omega) ?_
  refine R_iret rfl ?_
  exact hE _ _ (by rw [hv p hp.1 hp.2]) hF
def mstep (on : Int → Bool) (A B : Int → Int) (f j m : Int) : Int := if on j = true then (if A j = f then B j else if B j = f then A j else m) else m
def mateZ (on : Int → Bool) (A B : Int → Int) (J f : Int) : Int := foldZ (mstep on A B f) J (-1)
theorem mateZ_s {on : Int → Bool} {A B : Int → Int} {J f : Int} (h : 0 ≤ J) : mateZ on A B (J + 1) f = mstep on A B f J (mateZ on A B J f) := foldZ_s h
set_option maxRecDepth 20000 in
set_option maxHeartbeats 2000000 in
theorem sp_X10_mate (d : Nat) (hd : 2 ≤ d) (xs : List (Nat × Nat)) (t dd rr : Nat) (σ : Sg) (f J : Int) (hJ : σ 71 43 = J) (h0 : 0 ≤ J ∧ J ≤ 80) : Ev d 81 [(87, 0), (0, f)] (Wd xs t dd rr σ) (0, mateZ (onM σ) (σ 102) (σ 103) J f) (Wd xs t dd rr σ) := by
  obtain ⟨d, rfl⟩ : ∃ e, d = e + 1 := ⟨d - 1, by omega⟩
  refine evP (nL := 4) (code := k_X10_mate) rfl pb0 rfl (fun E hE => ?_)
  show pCm (Ev d) k_X10_mate E 0 [(87, 0), (0, f), (9, 0), (9, 0)] [] _
  refine R_push rfl ?_
  refine R_istore rfl rfl ?_
  refine R_push rfl ?_
  refine R_istore rfl rfl ?_
  refine loop (pc := 4) (α := Int × Int) (fun a => (J - a.2).toNat) (fun a => ([(87, 0), (0, f), (0, a.1), (0, a.2)], Wd xs t dd rr σ)) (fun a => (0 ≤ a.2 ∧ a.2 ≤ J) ∧ a.1 = mateZ (onM σ) (σ 102) (σ 103) a.2 f) ?_ (-1, 0) ?_
  · intro ⟨n, k⟩ ⟨hk, hn⟩ ih
    dsimp only at hk hn ⊢
    refine R_iload rfl rfl ?_
    refine R_aload rfl rfl rfl ?_
    refine T_geti rfl rfl rfl ?_
    refine R_ic rfl (fun h9 => ?_) (fun h9 => ?_)
    · try simp only [ne_eq, b2i_e, b2i_1, Classical.not_not] at h9
      refine R_iload rfl rfl ?_
      refine R_iret rfl ?_
      exact hE _ (by congr 1; rw [hn]; congr 1; omega)
    · try simp only [ne_eq, b2i_e, b2i_1, Classical.not_not] at h9
      refine R_aload rfl rfl rfl ?_
      refine R_iload rfl rfl ?_
      refine R_invv rfl rfl rfl rfl rfl rfl (sp_X10_isOn d (by omega) xs t dd rr σ k ⟨by omega, by omega⟩) rfl ?_
      show pCm _ _ _ 17 _ [(0, _)] _
      refine R_if rfl (fun h17 => ?_) (fun h17 => ?_)
      · try simp only [ne_eq, b2i_e, b2i_1, Classical.not_not] at h17
        refine R_inc rfl rfl (by omega) (by omega) ?_
        refine R_goto rfl ?_
        exact ih (_, _) ⟨by dsimp only; omega, by
          dsimp only
          rw [mateZ_s hk.1, ← hn]
          unfold mstep onM
          first
          | rw [if_neg (by rw [decide_eq_true_iff]; omega)]
          | rw [if_pos (by rw [decide_eq_true_iff]; omega), if_pos (by omega)]
          | rw [if_pos (by rw [decide_eq_true_iff]; omega), if_neg (by omega), if_pos (by omega)]
          | rw [if_pos (by rw [decide_eq_true_iff]; omega), if_neg (by omega), if_neg (by omega)]⟩ (by dsimp only; omega)
      · try simp only [ne_eq, b2i_e, b2i_1, Classical.not_not] at h17
        refine R_aload rfl rfl rfl ?_
        refine T_getr (v := 118) rfl rfl rfl rfl ?_
        refine R_iload rfl rfl ?_
        refine T_ald rfl rfl (by omega) (by omega) ?_
        refine R_iload rfl rfl ?_
        refine R_ic rfl (fun h27 => ?_) (fun h27 => ?_)
        · try simp only [ne_eq, b2i_e, b2i_1, Classical.not_not] at h27
          refine R_aload rfl rfl rfl ?_
          refine T_getr (v := 119) rfl rfl rfl rfl ?_
          refine R_iload rfl rfl ?_
          refine T_ald rfl rfl (by omega) (by omega) ?_
          refine R_iload rfl rfl ?_
          refine R_ic rfl (fun h46 => ?_) (fun h46 => ?_)
          · try simp only [ne_eq, b2i_e, b2i_1, Classical.not_not] at h46
            refine R_iload rfl rfl ?_
            refine R_istore rfl rfl ?_
            refine R_inc rfl rfl (by omega) (by omega) ?_
            refine R_goto rfl ?_
            exact ih (_, _) ⟨by dsimp only; omega, by
              dsimp only
              rw [mateZ_s hk.1, ← hn]
              unfold mstep onM
              first
              | rw [if_neg (by rw [decide_eq_true_iff]; omega)]
              | rw [if_pos (by rw [decide_eq_true_iff]; omega), if_pos (by omega)]
              | rw [if_pos (by rw [decide_eq_true_iff]; omega), if_neg (by omega), if_pos (by omega)]
              | rw [if_pos (by rw [decide_eq_true_iff]; omega), if_neg (by omega), if_neg (by omega)]⟩ (by dsimp only; omega)
          · try simp only [ne_eq, b2i_e, b2i_1, Classical.not_not] at h46
            refine R_aload rfl rfl rfl ?_
            refine T_getr (v := 118) rfl rfl rfl rfl ?_
            refine R_iload rfl rfl ?_
            refine T_ald rfl rfl (by omega) (by omega) ?_
            refine R_goto rfl ?_
            refine R_istore rfl rfl ?_
            refine R_inc rfl rfl (by omega) (by omega) ?_
            refine R_goto rfl ?_
            exact ih (_, _) ⟨by dsimp only; omega, by
              dsimp only
              rw [mateZ_s hk.1, ← hn]
              unfold mstep onM
              first
              | rw [if_neg (by rw [decide_eq_true_iff]; omega)]
              | rw [if_pos (by rw [decide_eq_true_iff]; omega), if_pos (by omega)]
              | rw [if_pos (by rw [decide_eq_true_iff]; omega), if_neg (by omega), if_pos (by omega)]
              | rw [if_pos (by rw [decide_eq_true_iff]; omega), if_neg (by omega), if_neg (by omega)]⟩ (by dsimp only; omega)
        · try simp only [ne_eq, b2i_e, b2i_1, Classical.not_not] at h27
          refine R_aload rfl rfl rfl ?_
          refine T_getr (v := 119) rfl rfl rfl rfl ?_
          refine R_iload rfl rfl ?_
          refine T_ald rfl rfl (by omega) (by omega) ?_
          refine R_goto rfl ?_
          refine R_istore rfl rfl ?_
          refine R_inc rfl rfl (by omega) (by omega) ?_
          refine R_goto rfl ?_
          exact ih (_, _) ⟨by dsimp only; omega, by
            dsimp only
            rw [mateZ_s hk.1, ← hn]
            unfold mstep onM
            first
            | rw [if_neg (by rw [decide_eq_true_iff]; omega)]
            | rw [if_pos (by rw [decide_eq_true_iff]; omega), if_pos (by omega)]
            | rw [if_pos (by rw [decide_eq_true_iff]; omega), if_neg (by omega), if_pos (by omega)]
            | rw [if_pos (by rw [decide_eq_true_iff]; omega), if_neg (by omega), if_neg (by omega)]⟩ (by dsimp only; omega)
  · exact ⟨⟨Int.le_refl _, by dsimp only; omega⟩, rfl⟩

set_option maxRecDepth 20000 in
set_option maxHeartbeats 2000000 in
theorem sp_X10_join (d : Nat) (hd : 6 ≤ d) (xs : List (Nat × Nat)) (t dd rr : Nat) (σ : Sg) (a b J : Int) (hab : a < 2147483648 ∧ b < 2147483648) (P : Int) (h N : Int) (kd nu len : Int → Int) (K W : Int → Int → Int) (hJ : JM σ P h N kd nu len K W) (hJj : σ 71 43 = J) (hJ0 : 0 ≤ J ∧ J ≤ 80) : ∃ σ', Ev d 82 [(87, 0), (0, a), (0, b)] (Wd xs t dd rr σ) (0, if ((0 ≤ a ∧ a / 8 < P ∧ a % 8 < σ 98 (a / 8)) ∧ (0 ≤ b ∧ b / 8 < P ∧ b % 8 < σ 98 (b / 8))) ∧ J < 80 ∧ (mtM σ J a < 0 ∧ mtM σ J b < 0) ∧ mayM σ N kd nu len K W a b = 1 then J else -1) (Wd xs t dd rr σ') ∧ (¬ (((0 ≤ a ∧ a / 8 < P ∧ a % 8 < σ 98 (a / 8)) ∧ (0 ≤ b ∧ b / 8 < P ∧ b % 8 < σ 98 (b / 8))) ∧ J < 80 ∧ (mtM σ J a < 0 ∧ mtM σ J b < 0) ∧ mayM σ N kd nu len K W a b = 1) → Fk σ σ') ∧ (((0 ≤ a ∧ a / 8 < P ∧ a % 8 < σ 98 (a / 8)) ∧ (0 ≤ b ∧ b / 8 < P ∧ b % 8 < σ 98 (b / 8))) ∧ J < 80 ∧ (mtM σ J a < 0 ∧ mtM σ J b < 0) ∧ mayM σ N kd nu len K W a b = 1 → Fr [85, 86, 87] [(71, 0), (71, 41), (71, 42)] (up2 (up2 (up2 (up2 (up2 (up2 (σ) 102 (J) (a)) 103 (J) (b)) 104 (J) (fitM σ a b % 8)) 105 (J) (σ 71 24)) 106 (J) (-1)) 71 (43) (J + 1)) σ') ∧ σ' 71 0 = 0 := by
  obtain ⟨d, rfl⟩ : ∃ e, d = e + 1 := ⟨d - 1, by omega⟩
  obtain ⟨hP, h0, hJr⟩ := id hJ
  clear hJr
  have hm01 := mayM_or (σ := σ) (N := N) (kd := kd) (nu := nu) (len := len) (K := K) (W := W) (a := a) (b := b)
  refine evS (nL := 3) (code := k_X10_join) rfl dc_X10_join rfl (fun E hE => ?_)
  show pCm (Ev d) k_X10_join E 0 [(87, 0), (0, a), (0, b)] [] _
  refine R_aload rfl rfl rfl ?_
  refine R_push rfl ?_
  refine T_puti rfl rfl rfl ?_
  generalize hs1 : up2 σ 71 0 0 = s1
  have hF1 : Fk σ s1 := by rw [← hs1]; exact Fr.rf.up rfl
  have h71 : s1 71 0 = 0 := by rw [← hs1]; simp [up2]
  refine R_aload rfl rfl rfl ?_
  refine R_iload rfl rfl ?_
  have hfo := sp_X10_isFace d (by omega) xs t dd rr s1 a P (by rw [hF1.at 71 26 rfl]; exact hP) h0 (by omega)
  rw [hF1.row 98 rfl] at hfo
  refine R_invv rfl rfl rfl rfl rfl rfl (hfo) rfl ?_
  show pCm _ _ _ 10 _ [(0, _)] _
  refine R_if rfl (fun h10 => ?_) (fun h10 => ?_)
  · try simp only [ne_eq, b2i_e, b2i_1, Classical.not_not] at h10
    refine R_push rfl ?_
    refine R_iret rfl ?_
    first
    | exact hE _ _ (by rw [if_neg (by omega)]) ⟨fun _ => hFs2, fun w => absurd w (by omega), by rw [e7s2, h71]⟩
    | exact hE _ _ (by rw [if_neg (by omega)]) ⟨fun _ => hF1, fun w => absurd w (by omega), h71⟩
  · try simp only [ne_eq, b2i_e, b2i_1, Classical.not_not] at h10
    refine R_aload rfl rfl rfl ?_
    refine R_iload rfl rfl ?_
    have hfo := sp_X10_isFace d (by omega) xs t dd rr s1 b P (by rw [hF1.at 71 26 rfl]; exact hP) h0 (by omega)
    rw [hF1.row 98 rfl] at hfo
    refine R_invv rfl rfl rfl rfl rfl rfl (hfo) rfl ?_
    show pCm _ _ _ 18 _ [(0, _)] _
    refine R_if rfl (fun h18 => ?_) (fun h18 => ?_)
    · try simp only [ne_eq, b2i_e, b2i_1, Classical.not_not] at h18
      refine R_push rfl ?_
      refine R_iret rfl ?_
      first
      | exact hE _ _ (by rw [if_neg (by omega)]) ⟨fun _ => hFs2, fun w => absurd w (by omega), by rw [e7s2, h71]⟩
      | exact hE _ _ (by rw [if_neg (by omega)]) ⟨fun _ => hF1, fun w => absurd w (by omega), h71⟩
    · try simp only [ne_eq, b2i_e, b2i_1, Classical.not_not] at h18
      refine R_aload rfl rfl rfl ?_
      refine T_geti rfl rfl rfl ?_
      rw [hF1.at 71 43 rfl, hJj]
      refine R_push rfl ?_
      refine R_ic rfl (fun h27 => ?_) (fun h27 => ?_)
      · try simp only [ne_eq, b2i_e, b2i_1, Classical.not_not] at h27
        refine R_push rfl ?_
        refine R_iret rfl ?_
        first
        | exact hE _ _ (by rw [if_neg (by omega)]) ⟨fun _ => hFs2, fun w => absurd w (by omega), by rw [e7s2, h71]⟩
        | exact hE _ _ (by rw [if_neg (by omega)]) ⟨fun _ => hF1, fun w => absurd w (by omega), h71⟩
      · try simp only [ne_eq, b2i_e, b2i_1, Classical.not_not] at h27
        refine R_aload rfl rfl rfl ?_
        refine R_iload rfl rfl ?_
        have hmt := sp_X10_mate d (by omega) xs t dd rr s1 a J (by rw [hF1.at 71 43 rfl]; exact hJj) hJ0
        have hmt : Ev d 81 [(87, 0), (0, a)] (Wd xs t dd rr s1) (0, mtM s1 J a) (Wd xs t dd rr s1) := hmt
        rw [mtM_fr (hF1.fn 106 rfl) (hF1.fn 102 rfl) (hF1.fn 103 rfl)] at hmt
        refine R_invv rfl rfl rfl rfl rfl rfl (hmt) rfl ?_
        show pCm _ _ _ 35 _ [(0, _)] _
        refine R_if rfl (fun h35 => ?_) (fun h35 => ?_)
        · try simp only [ne_eq, b2i_e, b2i_1, Classical.not_not] at h35
          refine R_push rfl ?_
          refine R_iret rfl ?_
          first
          | exact hE _ _ (by rw [if_neg (by omega)]) ⟨fun _ => hFs2, fun w => absurd w (by omega), by rw [e7s2, h71]⟩
          | exact hE _ _ (by rw [if_neg (by omega)]) ⟨fun _ => hF1, fun w => absurd w (by omega), h71⟩
        · try simp only [ne_eq, b2i_e, b2i_1, Classical.not_not] at h35
          refine R_aload rfl rfl rfl ?_
          refine R_iload rfl rfl ?_
          have hmt := sp_X10_mate d (by omega) xs t dd rr s1 b J (by rw [hF1.at 71 43 rfl]; exact hJj) hJ0
          have hmt : Ev d 81 [(87, 0), (0, b)] (Wd xs t dd rr s1) (0, mtM s1 J b) (Wd xs t dd rr s1) := hmt
          rw [mtM_fr (hF1.fn 106 rfl) (hF1.fn 102 rfl) (hF1.fn 103 rfl)] at hmt
          refine R_invv rfl rfl rfl rfl rfl rfl (hmt) rfl ?_
          show pCm _ _ _ 43 _ [(0, _)] _
          refine R_if rfl (fun h43 => ?_) (fun h43 => ?_)
          · try simp only [ne_eq, b2i_e, b2i_1, Classical.not_not] at h43
            refine R_push rfl ?_
            refine R_iret rfl ?_
            first
            | exact hE _ _ (by rw [if_neg (by omega)]) ⟨fun _ => hFs2, fun w => absurd w (by omega), by rw [e7s2, h71]⟩
            | exact hE _ _ (by rw [if_neg (by omega)]) ⟨fun _ => hF1, fun w => absurd w (by omega), h71⟩
          · try simp only [ne_eq, b2i_e, b2i_1, Classical.not_not] at h43
            refine R_aload rfl rfl rfl ?_
            refine R_iload rfl rfl ?_
            refine R_iload rfl rfl ?_
            obtain ⟨s2, hevs2, hFs2, e7s2⟩ := sp_X10_mayMeetJ d (by omega) xs t dd rr s1 (a) (b) P h N kd nu len K W (JM_fr hJ hF1) ⟨by omega, by omega⟩ ⟨by omega, by omega⟩
            rw [mayM_fr hF1] at hevs2
            have hFs2 : Fk σ s2 := hF1.tr hFs2 rfl rfl
            refine R_invv rfl rfl rfl rfl rfl rfl (hevs2) rfl ?_
            show pCm _ _ _ 52 _ [(0, _)] _
            refine R_if rfl (fun h52 => ?_) (fun h52 => ?_)
            · try simp only [ne_eq, b2i_e, b2i_1, Classical.not_not] at h52
              refine R_aload rfl rfl rfl ?_
              refine R_iload rfl rfl ?_
              refine R_iload rfl rfl ?_
              obtain ⟨s3, hev3, hF3, e413, e42, e70⟩ := sp_X10_measuresJ d (by omega) xs t dd rr s2 a b P h N kd nu len K W (JM_fr hJ hFs2) ⟨by omega, by omega⟩ ⟨by omega, by omega⟩
              rw [fitM_fr (hFs2.fn 100 rfl) (hFs2.fn 101 rfl)] at e42
              have hFs3 : Fk σ s3 := hFs2.tr hF3 rfl rfl
              rw [e7s2, h71] at e70
              have e433 : s3 71 43 = J := by rw [hFs3.at 71 43 rfl]; exact hJj
              have e243 : s3 71 24 = σ 71 24 := hFs3.at 71 24 rfl
              have e423 : s3 71 42 = fitM σ a b % 8 := e42
              refine R_invv rfl rfl rfl rfl rfl rfl (hev3) rfl ?_
              show pCm _ _ _ 63 _ [] _
              refine R_aload rfl rfl rfl ?_
              refine T_getr (v := 118) rfl rfl rfl rfl ?_
              refine R_aload rfl rfl rfl ?_
              refine T_geti rfl rfl rfl ?_
              rw [e433]
              refine R_iload rfl rfl ?_
              refine T_iast rfl rfl (by omega) (by omega) ?_
              generalize hs4 : up2 s3 102 J a = s4
              have e434 : s4 71 43 = J := by rw [← hs4]; simp [up2]; exact e433
              have e244 : s4 71 24 = σ 71 24 := by rw [← hs4]; simp [up2]; exact e243
              have e424 : s4 71 42 = fitM σ a b % 8 := by rw [← hs4]; simp [up2]; exact e423
              refine R_aload rfl rfl rfl ?_
              refine T_getr (v := 119) rfl rfl rfl rfl ?_
              refine R_aload rfl rfl rfl ?_
              refine T_geti rfl rfl rfl ?_
              rw [e434]
              refine R_iload rfl rfl ?_
              refine T_iast rfl rfl (by omega) (by omega) ?_
              generalize hs5 : up2 s4 103 J b = s5
              have e435 : s5 71 43 = J := by rw [← hs5]; simp [up2]; exact e434
              have e245 : s5 71 24 = σ 71 24 := by rw [← hs5]; simp [up2]; exact e244
              have e425 : s5 71 42 = fitM σ a b % 8 := by rw [← hs5]; simp [up2]; exact e424
              refine R_aload rfl rfl rfl ?_
              refine T_getr (v := 120) rfl rfl rfl rfl ?_
              refine R_aload rfl rfl rfl ?_
              refine T_geti rfl rfl rfl ?_
              rw [e435]
              refine R_aload rfl rfl rfl ?_
              refine T_geti rfl rfl rfl ?_
              rw [e425]
              refine T_iast rfl rfl (by omega) (by omega) ?_
              generalize hs6 : up2 s5 104 J (fitM σ a b % 8) = s6
              have e436 : s6 71 43 = J := by rw [← hs6]; simp [up2]; exact e435
              have e246 : s6 71 24 = σ 71 24 := by rw [← hs6]; simp [up2]; exact e245
              have e426 : s6 71 42 = fitM σ a b % 8 := by rw [← hs6]; simp [up2]; exact e425
              refine R_aload rfl rfl rfl ?_
              refine T_getr (v := 121) rfl rfl rfl rfl ?_
              refine R_aload rfl rfl rfl ?_
              refine T_geti rfl rfl rfl ?_
              rw [e436]
              refine R_aload rfl rfl rfl ?_
              refine T_geti rfl rfl rfl ?_
              rw [e246]
              refine T_iast rfl rfl (by omega) (by omega) ?_
              generalize hs7 : up2 s6 105 J (σ 71 24) = s7
              have e437 : s7 71 43 = J := by rw [← hs7]; simp [up2]; exact e436
              have e247 : s7 71 24 = σ 71 24 := by rw [← hs7]; simp [up2]; exact e246
              have e427 : s7 71 42 = fitM σ a b % 8 := by rw [← hs7]; simp [up2]; exact e426
              refine R_aload rfl rfl rfl ?_
              refine T_getr (v := 122) rfl rfl rfl rfl ?_
              refine R_aload rfl rfl rfl ?_
              refine T_geti rfl rfl rfl ?_
              rw [e437]
              refine R_push rfl ?_
              refine T_iast rfl rfl (by omega) (by omega) ?_
              generalize hs8 : up2 s7 106 J (-1) = s8
              have e438 : s8 71 43 = J := by rw [← hs8]; simp [up2]; exact e437
              have e248 : s8 71 24 = σ 71 24 := by rw [← hs8]; simp [up2]; exact e247
              have e428 : s8 71 42 = fitM σ a b % 8 := by rw [← hs8]; simp [up2]; exact e427
              refine R_aload rfl rfl rfl ?_
              refine R_dup rfl rfl ?_
              refine T_geti rfl rfl rfl ?_
              rw [e438]
              refine R_push rfl ?_
              refine R_add rfl (by omega) (by omega) ?_
              refine T_puti rfl rfl rfl ?_
              generalize hs9 : up2 s8 71 43 (J + 1) = s9
              have e439 : s9 71 43 = J + 1 := by rw [← hs9]; simp [up2]
              have hU : s9 = up2 (up2 (up2 (up2 (up2 (up2 (s3) 102 (J) (a)) 103 (J) (b)) 104 (J) (fitM σ a b % 8)) 105 (J) (σ 71 24)) 106 (J) (-1)) 71 (43) (J + 1) := by rw [← hs9, ← hs8, ← hs7, ← hs6, ← hs5, ← hs4]
              have hFz : Fr [85, 86, 87] [(71, 0), (71, 41), (71, 42)] (up2 (up2 (up2 (up2 (up2 (up2 (σ) 102 (J) (a)) 103 (J) (b)) 104 (J) (fitM σ a b % 8)) 105 (J) (σ 71 24)) 106 (J) (-1)) 71 (43) (J + 1)) s9 := by rw [hU]; exact hFs3.upb.upb.upb.upb.upb.upb
              have e709 : s9 71 0 = 0 := by rw [hU]; simp [up2]; exact e70
              refine R_aload rfl rfl rfl ?_
              refine T_geti rfl rfl rfl ?_
              rw [e439]
              refine R_push rfl ?_
              refine R_sub rfl (by omega) (by omega) ?_
              refine R_iret rfl ?_
              exact hE _ _ (by rw [if_pos (by omega)]; congr 1; omega) ⟨fun w => absurd (by omega) w, fun _ => hFz, e709⟩
            · try simp only [ne_eq, b2i_e, b2i_1, Classical.not_not] at h52
              refine R_push rfl ?_
              refine R_iret rfl ?_
              first
              | exact hE _ _ (by rw [if_neg (by omega)]) ⟨fun _ => hFs2, fun w => absurd w (by omega), by rw [e7s2, h71]⟩
              | exact hE _ _ (by rw [if_neg (by omega)]) ⟨fun _ => hF1, fun w => absurd w (by omega), h71⟩
def jdV (a b tn dy pt op rv db w : Int) : Int := if w = 0 then a else if w = 1 then b else if w = 2 then tn else if w = 3 then dy else if w = 4 then pt else if w = 5 then op else if w = 6 then rv else db
set_option maxRecDepth 20000 in
set_option maxHeartbeats 2000000 in
theorem sp_X10_joined (d : Nat) (hd : 7 ≤ d) (xs : List (Nat × Nat)) (t dd rr : Nat) (σ : Sg) (j w J : Int) (P : Int) (h N : Int) (kd nu len : Int → Int) (K W : Int → Int → Int) (hJ : JM σ P h N kd nu len K W) (hM : MB σ P J) (hTn : ∀ j, 0 ≤ j → j < J → 0 ≤ σ 104 j ∧ σ 104 j ≤ 7) (hsm : ∀ j, 0 ≤ j → j < J → σ 99 (σ 102 j) = 0 ∧ σ 99 (σ 103 j) = 1 ∨ σ 99 (σ 102 j) = 1 ∧ σ 99 (σ 103 j) = 0 ∨ σ 99 (σ 102 j) = 3 ∧ σ 99 (σ 103 j) = 3) : ∃ σ', Ev d 90 [(87, 0), (0, j), (0, w)] (Wd xs t dd rr σ) (0, if (0 ≤ j ∧ j < J) ∧ 0 ≤ w ∧ w ≤ 7 then jdV (σ 102 j) (σ 103 j) (σ 104 j) (σ 105 j) (σ 106 j) (opM σ P J j) (if σ 106 j = -1 then sumZ (fun k => b2i ((k ≠ σ 102 j ∧ k ≠ σ 103 j) ∧ hsM σ k = 1 ∧ (mayM σ N kd nu len K W k (σ 102 j) = 1 ∨ mayM σ N kd nu len K W k (σ 103 j) = 1))) (8 * P) else 0) (dbM σ N kd nu len K W (σ 102 j) (σ 103 j)) w else 0) (Wd xs t dd rr σ') ∧ Fr [85, 86, 87, 107, 108, 109, 110] [(71, 0), (71, 41), (71, 42)] σ σ' ∧ σ' 71 0 = if (0 ≤ j ∧ j < J) ∧ 0 ≤ w ∧ w ≤ 7 then 0 else 1 := by
  obtain ⟨d, rfl⟩ : ∃ e, d = e + 1 := ⟨d - 1, by omega⟩
  obtain ⟨hP, h0, hJr⟩ := id hJ
  clear hJr
  obtain ⟨hMP, hMJ, hM0, hJ0, hJB⟩ := id hM
  refine evS (nL := 3) (code := k_X10_joined) rfl dc_X10_joined rfl (fun E hE => ?_)
  show pCm (Ev d) k_X10_joined E 0 [(87, 0), (0, j), (0, w)] [] _
  refine R_aload rfl rfl rfl ?_
  have J28 : ∀ v : Int, v = (if (0 ≤ j ∧ j < J) ∧ 0 ≤ w ∧ w ≤ 7 then 0 else 1) → pCm (Ev d) k_X10_joined E 28 [(87, 0), (0, j), (0, w)] [(0, v), (87, 0)] (Wd xs t dd rr σ) := by
    intro v hv
    have hv : v = 0 ∧ ((0 ≤ j ∧ j < J) ∧ 0 ≤ w ∧ w ≤ 7) ∨ v = 1 ∧ ¬ ((0 ≤ j ∧ j < J) ∧ 0 ≤ w ∧ w ≤ 7) := by
      rw [hv]; split <;> omega
    refine T_puti rfl rfl rfl ?_
    generalize hs1 : up2 σ 71 0 v = s1
    have hF1 : Fk σ s1 := by rw [← hs1]; exact Fr.rf.up rfl
    have h71 : s1 71 0 = v := by rw [← hs1]; simp [up2]
    have hF1q := hF1.tr (r2 := []) (s2 := []) (r3 := [85, 86, 87, 107, 108, 109, 110]) (s3 := [(71, 0), (71, 41), (71, 42)]) Fr.rf rfl rfl
    refine R_aload rfl rfl rfl ?_
    refine T_geti rfl rfl rfl ?_
    rw [h71]
    refine R_if rfl (fun h35 => ?_) (fun h35 => ?_)
    · try simp only [ne_eq, b2i_e, b2i_1, Classical.not_not] at h35
      refine R_iload rfl rfl ?_
      refine R_tswL rfl ⟨fun h41 => ?_, fun h41 => ?_, fun h41 => ?_, fun h41 => ?_, fun h41 => ?_, fun h41 => ?_, fun h41 => ?_, trivial⟩ (fun h41 => ?_)
      · try dsimp only at h41
        refine R_aload rfl rfl rfl ?_
        refine T_getr (v := 118) rfl rfl rfl rfl ?_
        refine R_iload rfl rfl ?_
        refine T_ald rfl rfl (by omega) (by omega) ?_
        rw [hF1.row 102 rfl]
        refine R_iret rfl ?_
        refine hE _ _ (Eq.symm (congrArg (Prod.mk 0) ((if_pos ⟨⟨by omega, by omega⟩, by omega, by omega⟩).trans ?_))) ⟨hF1q, by rw [h71, if_pos (by omega)]; omega⟩
        unfold jdV
        rw [if_pos (by omega)]
      · try dsimp only at h41
        refine R_aload rfl rfl rfl ?_
        refine T_getr (v := 119) rfl rfl rfl rfl ?_
        refine R_iload rfl rfl ?_
        refine T_ald rfl rfl (by omega) (by omega) ?_
        rw [hF1.row 103 rfl]
        refine R_iret rfl ?_
        refine hE _ _ (Eq.symm (congrArg (Prod.mk 0) ((if_pos ⟨⟨by omega, by omega⟩, by omega, by omega⟩).trans ?_))) ⟨hF1q, by rw [h71, if_pos (by omega)]; omega⟩
        unfold jdV
        rw [if_neg (by omega), if_pos (by omega)]
      · try dsimp only at h41
        refine R_aload rfl rfl rfl ?_
        refine T_getr (v := 120) rfl rfl rfl rfl ?_
        refine R_iload rfl rfl ?_
        refine T_ald rfl rfl (by omega) (by omega) ?_
        rw [hF1.row 104 rfl]
        refine R_iret rfl ?_
        refine hE _ _ (Eq.symm (congrArg (Prod.mk 0) ((if_pos ⟨⟨by omega, by omega⟩, by omega, by omega⟩).trans ?_))) ⟨hF1q, by rw [h71, if_pos (by omega)]; omega⟩
        unfold jdV
        rw [if_neg (by omega), if_neg (by omega), if_pos (by omega)]
      · try dsimp only at h41
        refine R_aload rfl rfl rfl ?_
        refine T_getr (v := 121) rfl rfl rfl rfl ?_
        refine R_iload rfl rfl ?_
        refine T_ald rfl rfl (by omega) (by omega) ?_
        rw [hF1.row 105 rfl]
        refine R_iret rfl ?_
        refine hE _ _ (Eq.symm (congrArg (Prod.mk 0) ((if_pos ⟨⟨by omega, by omega⟩, by omega, by omega⟩).trans ?_))) ⟨hF1q, by rw [h71, if_pos (by omega)]; omega⟩
        unfold jdV
        rw [if_neg (by omega), if_neg (by omega), if_neg (by omega), if_pos (by omega)]
      · try dsimp only at h41
        refine R_aload rfl rfl rfl ?_
        refine T_getr (v := 122) rfl rfl rfl rfl ?_
        refine R_iload rfl rfl ?_
        refine T_ald rfl rfl (by omega) (by omega) ?_
        rw [hF1.row 106 rfl]
        refine R_iret rfl ?_
        refine hE _ _ (Eq.symm (congrArg (Prod.mk 0) ((if_pos ⟨⟨by omega, by omega⟩, by omega, by omega⟩).trans ?_))) ⟨hF1q, by rw [h71, if_pos (by omega)]; omega⟩
        unfold jdV
        rw [if_neg (by omega), if_neg (by omega), if_neg (by omega), if_neg (by omega), if_pos (by omega)]
      · try dsimp only at h41
        refine R_aload rfl rfl rfl ?_
        refine R_iload rfl rfl ?_
        obtain ⟨s2, hev2, hF2⟩ := sp_X10_isOpen d (by omega) xs t dd rr s1 j P J (MB_fr hM (hF1.at 71 26 rfl) (hF1.at 71 43 rfl) (hF1.fn 102 rfl) (hF1.fn 103 rfl)) (by rw [hF1.fn 104 rfl]; exact hTn) ⟨by omega, by omega⟩
        rw [opM_fr (hF1.fn 106 rfl) (hF1.fn 102 rfl) (hF1.fn 103 rfl) (hF1.fn 104 rfl)] at hev2
        have hob := opM_bd (σ := σ) (P := P) (J := J) (j := j)
        refine R_invv rfl rfl rfl rfl rfl rfl (hev2) rfl ?_
        show pCm _ _ _ 124 _ [(0, _)] _
        refine R_if rfl (fun h124 => ?_) (fun h124 => ?_)
        · try simp only [ne_eq, b2i_e, b2i_1, Classical.not_not] at h124
          refine R_push rfl ?_
          refine R_iret rfl ?_
          refine hE _ _ (Eq.symm (congrArg (Prod.mk 0) ((if_pos ⟨⟨by omega, by omega⟩, by omega, by omega⟩).trans ?_))) ⟨(hF1q.tr hF2 rfl rfl), by rw [hF2.row 71 rfl, h71, if_pos (by omega)]; omega⟩
          unfold jdV
          rw [if_neg (by omega), if_neg (by omega), if_neg (by omega), if_neg (by omega), if_neg (by omega), if_pos (by omega)]
          omega
        · try simp only [ne_eq, b2i_e, b2i_1, Classical.not_not] at h124
          refine R_push rfl ?_
          refine R_goto rfl ?_
          refine R_iret rfl ?_
          refine hE _ _ (Eq.symm (congrArg (Prod.mk 0) ((if_pos ⟨⟨by omega, by omega⟩, by omega, by omega⟩).trans ?_))) ⟨(hF1q.tr hF2 rfl rfl), by rw [hF2.row 71 rfl, h71, if_pos (by omega)]; omega⟩
          unfold jdV
          rw [if_neg (by omega), if_neg (by omega), if_neg (by omega), if_neg (by omega), if_neg (by omega), if_pos (by omega)]
          omega
      · try dsimp only at h41
        refine R_aload rfl rfl rfl ?_
        refine R_iload rfl rfl ?_
        obtain ⟨s2, hev2, hF2, e72⟩ := sp_X10_rivals d (by omega) xs t dd rr s1 j P h N kd nu len K W (JM_fr hJ hF1) ⟨by omega, by omega⟩ (by rw [hF1.row 102 rfl]; exact (hJB j (by omega) (by omega)).1) (by rw [hF1.row 103 rfl]; exact (hJB j (by omega) (by omega)).2)
        rw [hF1.row 106 rfl, hF1.row 102 rfl, hF1.row 103 rfl, hsM_fr (hF1.fn 98 rfl)] at hev2
        have hmf : ∀ x y, mayM s1 N kd nu len K W x y = mayM σ N kd nu len K W x y := fun x y => mayM_fr hF1
        simp only [hmf] at hev2
        have hFs2 : Fk σ s2 := hF1.tr hF2 rfl rfl
        refine R_invv rfl rfl rfl rfl rfl rfl (hev2) rfl ?_
        show pCm _ _ _ 138 _ [(0, _)] _
        refine R_iret rfl ?_
        refine hE _ _ (Eq.symm (congrArg (Prod.mk 0) ((if_pos ⟨⟨by omega, by omega⟩, by omega, by omega⟩).trans ?_))) ⟨(hFs2.tr (r2 := []) (s2 := []) (r3 := [85, 86, 87, 107, 108, 109, 110]) (s3 := [(71, 0), (71, 41), (71, 42)]) Fr.rf rfl rfl), by rw [e72, h71, if_pos (by omega)]; omega⟩
        unfold jdV
        rw [if_neg (by omega), if_neg (by omega), if_neg (by omega), if_neg (by omega), if_neg (by omega), if_neg (by omega), if_pos (by omega)]
      · try dsimp only at h41
        refine R_aload rfl rfl rfl ?_
        refine R_aload rfl rfl rfl ?_
        refine T_getr (v := 118) rfl rfl rfl rfl ?_
        refine R_iload rfl rfl ?_
        refine T_ald rfl rfl (by omega) (by omega) ?_
        rw [hF1.row 102 rfl]
        refine R_aload rfl rfl rfl ?_
        refine T_getr (v := 119) rfl rfl rfl rfl ?_
        refine R_iload rfl rfl ?_
        refine T_ald rfl rfl (by omega) (by omega) ?_
        rw [hF1.row 103 rfl]
        obtain ⟨s2, hev2, hF2, e72⟩ := sp_X10_doubtsJ d (by omega) xs t dd rr s1 (σ 102 j) (σ 103 j) P h N kd nu len K W (JM_fr hJ hF1) (hJB j (by omega) (by omega)).1 (hJB j (by omega) (by omega)).2 (by rw [hF1.fn 99 rfl]; exact hsm j (by omega) (by omega))
        rw [dbM_fr hF1] at hev2
        have hFs2 : Fk σ s2 := hF1.tr hF2 rfl rfl
        refine R_invv rfl rfl rfl rfl rfl rfl (hev2) rfl ?_
        show pCm _ _ _ 155 _ [(0, _)] _
        refine R_iret rfl ?_
        have h41x : w < 0 ∨ 0 + 7 ≤ w := h41
        refine hE _ _ (Eq.symm (congrArg (Prod.mk 0) ((if_pos ⟨⟨by omega, by omega⟩, by omega, by omega⟩).trans ?_))) ⟨(hFs2.tr (r2 := []) (s2 := []) (r3 := [85, 86, 87, 107, 108, 109, 110]) (s3 := [(71, 0), (71, 41), (71, 42)]) Fr.rf rfl rfl), by rw [e72, h71, if_pos (by omega)]; omega⟩
        unfold jdV
        rw [if_neg (by omega), if_neg (by omega), if_neg (by omega), if_neg (by omega), if_neg (by omega), if_neg (by omega), if_neg (by omega)]
    · try simp only [ne_eq, b2i_e, b2i_1, Classical.not_not] at h35
      refine R_push rfl ?_
      refine R_iret rfl ?_
      exact hE _ _ (by rw [if_neg (by omega)]) ⟨hF1q, by rw [h71, if_neg (by omega)]; omega⟩
  refine R_iload rfl rfl ?_
  refine R_if rfl (fun h2 => ?_) (fun h2 => ?_)
  · try simp only [ne_eq, b2i_e, b2i_1, Classical.not_not] at h2
    refine R_push rfl ?_
    exact J28 _ (by first | rw [if_pos (by omega)] | rw [if_neg (by omega)])
  · try simp only [ne_eq, b2i_e, b2i_1, Classical.not_not] at h2
    refine R_iload rfl rfl ?_
    refine R_aload rfl rfl rfl ?_
    refine T_geti rfl rfl rfl ?_
    refine R_ic rfl (fun h10 => ?_) (fun h10 => ?_)
    · try simp only [ne_eq, b2i_e, b2i_1, Classical.not_not] at h10
      refine R_push rfl ?_
      exact J28 _ (by first | rw [if_pos (by omega)] | rw [if_neg (by omega)])
    · try simp only [ne_eq, b2i_e, b2i_1, Classical.not_not] at h10
      refine R_iload rfl rfl ?_
      refine R_push rfl ?_
      refine R_push rfl ?_
      refine R_inv rfl rfl rfl rfl rfl (sp_X10_within d (by omega) _ _ _ _) rfl ?_
      show pCm _ _ _ 20 _ [(0, _), (87, 0)] _
      refine R_if rfl (fun h20 => ?_) (fun h20 => ?_)
      · try simp only [ne_eq, b2i_e, b2i_1, Classical.not_not] at h20
        refine R_push rfl ?_
        exact J28 _ (by first | rw [if_pos (by omega)] | rw [if_neg (by omega)])
      · try simp only [ne_eq, b2i_e, b2i_1, Classical.not_not] at h20
        refine R_push rfl ?_
        refine R_goto rfl ?_
        exact J28 _ (by first | rw [if_pos (by omega)] | rw [if_neg (by omega)])

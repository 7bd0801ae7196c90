/-- what blows hold is true -/
def HB (σ : Sg) (P J : Int) : Prop := σ 57 4 = -1 ∨ (0 ≤ σ 57 4 ∧ σ 57 4 < P) ∧ BCx σ σ P J (σ 57 4)
theorem HB_h {σ : Sg} {P J c : Int} (h : HB σ P J) (hc : 0 ≤ c) : σ 57 4 = c → BCx σ σ P J c := fun e => by
  rcases h with w | w
  · omega
  · rw [← e]; exact w.2
theorem HB_a {σ s : Sg} {P J c : Int} (hF : Fb σ s) (h4 : s 57 4 = c) (hB : BCx s σ P J c) (hc : 0 ≤ c ∧ c < P) : HB s P J := Or.inr ⟨by omega, by rw [h4]; exact BCx_fr hF hB⟩
/-- what a face tells -/
def ofV (so mt b rs nr what : Int) : Int := if what = 0 then so else if what = 1 then mt else if what = 2 then b else if what = 3 then (if b < 100 then -1 else max 0 (rs - nr)) else (if b < 100 then -1 else rs + nr)
/-- what a cobble tells -/
def coV (mn wh ho op q ch fa what : Int) : Int := if what = 0 then mn else if what = 1 then wh else if what = 2 then ho else if what = 3 then op else if what = 4 then (if q < 0 then -1 else q) else if what = 5 then b2i (q = -1) else if what = 6 then (if q < 0 then -1 else ch) else fa
set_option maxRecDepth 20000 in
set_option maxHeartbeats 2000000 in
theorem sp_X9_blow (d : Nat) (hd : 7 ≤ d) (xs : List (Nat × Nat)) (t dd rr : Nat) (σ : Sg) (p i P J : Int) (hH : BH σ P J) (hB : HB σ P J) : ∃ σ', Ev d 18 [(16, 0), (0, p), (0, i)] (Wd xs t dd rr σ) (0, if (0 ≤ p ∧ p < P) ∧ 0 ≤ qS σ P J (σ 29 p) ∧ 0 ≤ i ∧ i < (gtS σ P J (σ 29 p) (8 * P)).1 then ordS σ P J (σ 29 p) i else -1) (Wd xs t dd rr σ') ∧ Fb σ σ' ∧ HB σ' P J := by
  obtain ⟨d, rfl⟩ : ∃ e, d = e + 1 := ⟨d - 1, by omega⟩
  obtain ⟨⟨hP, hJ, h0, hJ0, hJB⟩, hHH, h32, h17, hcut⟩ := id hH
  refine evS (nL := 3) (code := k_X9_blow) rfl dc_X9_blow rfl (fun E hE => ?_)
  show pCm (Ev d) k_X9_blow E 0 [(16, 0), (0, p), (0, i)] [] _
  refine R_aload rfl rfl rfl ?_
  refine T_getr (v := 17) rfl rfl rfl rfl ?_
  refine R_iload rfl rfl ?_
  refine R_invv rfl rfl rfl rfl rfl rfl (sp_X6_has d (by omega) xs t dd rr σ p P hP) rfl ?_
  show pCm _ _ _ 8 _ [(0, _)] _
  refine R_if rfl (fun h8 => ?_) (fun h8 => ?_)
  · try simp only [ne_eq, b2i_e, b2i_1, Classical.not_not] at h8
    refine R_aload rfl rfl rfl ?_
    refine T_getr (v := 73) rfl rfl rfl rfl ?_
    refine R_aload rfl rfl rfl ?_
    refine T_getr (v := 44) rfl rfl rfl rfl ?_
    refine T_getr (v := 45) rfl rfl rfl rfl ?_
    refine R_iload rfl rfl ?_
    refine T_ald rfl rfl (by omega) (by omega) ?_
    refine R_iload rfl rfl ?_
    have hco := (hHH.2.1 p (by omega) (by omega)).1
    obtain ⟨s1, hev, hF, h4, hBx⟩ := sp_X0_inOrder d (by omega) xs t dd rr σ (σ 29 p) i P J hH (HB_h hB hco.1)
    refine R_invv rfl rfl rfl rfl rfl rfl (hev) rfl ?_
    show pCm _ _ _ 30 _ [(0, _)] _
    refine R_iret rfl ?_
    refine hE _ _ ?_ ⟨hF, HB_a hF h4 hBx hco⟩
    congr 1
    by_cases z : 0 ≤ qS σ P J (σ 29 p) ∧ 0 ≤ i ∧ i < (gtS σ P J (σ 29 p) (8 * P)).1
    · rw [if_pos z, if_pos ⟨by omega, z⟩]
    · rw [if_neg z, if_neg (fun w => z w.2)]
  · try simp only [ne_eq, b2i_e, b2i_1, Classical.not_not] at h8
    refine R_push rfl ?_
    refine R_iret rfl ?_
    exact hE _ _ (by rw [if_neg (by omega)]) ⟨Fr.rf, hB⟩
set_option maxRecDepth 20000 in
set_option maxHeartbeats 2000000 in
theorem sp_X9_of (d : Nat) (hd : 3 ≤ d) (xs : List (Nat × Nat)) (t dd rr : Nat) (σ : Sg) (f w P J : Int) (hf : f < 2147483648) (hH : BH σ P J) (hfp : 0 ≤ f → f < 320 → f % 8 < σ 13 (f / 8) → f < 8 * P) (hnr : 0 ≤ σ 36 2 ∧ σ 36 2 ≤ 400) : Ev d 14 [(16, 0), (0, f), (0, w)] (Wd xs t dd rr σ) (if (0 ≤ f ∧ f < 320 ∧ f % 8 < σ 13 (f / 8)) ∧ 0 ≤ w ∧ w ≤ 4 then (0, ofV (σ 14 f) (mtS σ J f) (blS σ P J f) (sumZ (fun k => byt (σ 15 f) k) 8) (σ 36 2) w) else (7, 0)) (Wd xs t dd rr σ) := by
  obtain ⟨d, rfl⟩ : ∃ e, d = e + 1 := ⟨d - 1, by omega⟩
  obtain ⟨⟨hP, hJ, h0, hJ0, hJB⟩, hHH, h32, h17, hcut⟩ := id hH
  have hsum := sumZ_bd (f := fun k => byt (σ 15 f) k) (c := 255) (n := 8) (by omega) (fun k _ _ => by have := byt_bd (r := σ 15 f) (k := k); omega)
  refine evP (nL := 3) (code := k_X9_of) rfl pb0 rfl (fun E hE => ?_)
  show pCm (Ev d) k_X9_of E 0 [(16, 0), (0, f), (0, w)] [] _
  refine R_aload rfl rfl rfl ?_
  refine T_getr (v := 28) rfl rfl rfl rfl ?_
  refine R_iload rfl rfl ?_
  refine R_invv rfl rfl rfl rfl rfl rfl (sp_X1_has d (by omega) xs t dd rr σ f hf) rfl ?_
  show pCm _ _ _ 8 _ [(0, _)] _
  refine R_if rfl (fun h8 => ?_) (fun h8 => ?_)
  · try simp only [ne_eq, b2i_e, b2i_1, Classical.not_not] at h8
    have hfp := hfp (by omega) (by omega) (by omega)
    have hs1 : hsS σ f = 1 := b2i_t (by omega)
    have hbb : -1 ≤ blS σ P J f ∧ (blS σ P J f = 100 + f ∨ blS σ P J f < 100) := by
      have hb := (bl_bd (so := σ 14) hHH (f := f) (by omega) hfp hs1).1
      refine ⟨hb, ?_⟩
      have hble : blS σ P J f = _ := bl_e
      rw [hble]
      have hmt := mtS_iff hH (f := f) (by omega) hfp hs1
      split
      · split
        · have := (hHH.2.1 (mtS σ J f / 8) (by omega) (by omega)).2.1; omega
        · exact Or.inl rfl
      · omega
    refine R_iload rfl rfl ?_
    refine R_tswL rfl ⟨fun h23 => ?_, fun h23 => ?_, fun h23 => ?_, fun h23 => ?_, fun h23 => ?_, trivial⟩ (fun h23 => ?_)
    · try dsimp only at h23
      refine R_aload rfl rfl rfl ?_
      refine T_getr (v := 28) rfl rfl rfl rfl ?_
      refine T_getr (v := 30) rfl rfl rfl rfl ?_
      refine R_iload rfl rfl ?_
      refine T_ald rfl rfl (by omega) (by omega) ?_
      refine R_iret rfl ?_
      first
      | exact hE _ (by rw [if_pos (by omega)]; unfold ofV; simp only [h23]; first | rfl | (rw [if_pos (by omega)]; rfl) | (rw [if_neg (by omega)]; rfl))
      | exact hE _ (by
          rw [if_pos (by omega)]
          unfold ofV
          subst h23
          first
          | rfl
          | (congr 1; first | rw [if_neg (by omega), if_neg (by omega), if_neg (by omega), if_pos (by omega), if_neg (by omega)] | rw [if_neg (by omega), if_neg (by omega), if_neg (by omega), if_pos (by omega), if_pos (by omega)] | rw [if_neg (by omega), if_neg (by omega), if_neg (by omega), if_neg (by omega), if_neg (by omega)] | rw [if_neg (by omega), if_neg (by omega), if_neg (by omega), if_neg (by omega), if_pos (by omega)]))
    · try dsimp only at h23
      refine R_aload rfl rfl rfl ?_
      refine T_getr (v := 37) rfl rfl rfl rfl ?_
      refine R_aload rfl rfl rfl ?_
      refine T_getr (v := 28) rfl rfl rfl rfl ?_
      refine T_getr (v := 33) rfl rfl rfl rfl ?_
      refine R_iload rfl rfl ?_
      refine T_ald rfl rfl (by omega) (by omega) ?_
      refine R_iload rfl rfl ?_
      have hpt := sp_X4_partner d (by omega) xs t dd rr σ (σ 17 f) f J hJ hJ0.2
      have hpt : Ev d 196 [(37, 0), (0, σ 17 f), (0, f)] (Wd xs t dd rr σ) (0, mtS σ J f) (Wd xs t dd rr σ) := hpt
      refine R_invv rfl rfl rfl rfl rfl rfl (hpt) rfl ?_
      show pCm _ _ _ 83 _ [(0, _)] _
      refine R_iret rfl ?_
      first
      | exact hE _ (by rw [if_pos (by omega)]; unfold ofV; simp only [h23]; first | rfl | (rw [if_pos (by omega)]; rfl) | (rw [if_neg (by omega)]; rfl))
      | exact hE _ (by
          rw [if_pos (by omega)]
          unfold ofV
          subst h23
          first
          | rfl
          | (congr 1; first | rw [if_neg (by omega), if_neg (by omega), if_neg (by omega), if_pos (by omega), if_neg (by omega)] | rw [if_neg (by omega), if_neg (by omega), if_neg (by omega), if_pos (by omega), if_pos (by omega)] | rw [if_neg (by omega), if_neg (by omega), if_neg (by omega), if_neg (by omega), if_neg (by omega)] | rw [if_neg (by omega), if_neg (by omega), if_neg (by omega), if_neg (by omega), if_pos (by omega)]))
    · try dsimp only at h23
      refine R_aload rfl rfl rfl ?_
      refine T_getr (v := 73) rfl rfl rfl rfl ?_
      refine R_iload rfl rfl ?_
      refine R_invv rfl rfl rfl rfl rfl rfl (sp_X0_blowOf d (by omega) xs t dd rr σ P J hH f ⟨by omega, by omega⟩ hs1) rfl ?_
      show pCm _ _ _ 92 _ [(0, _)] _
      refine R_iret rfl ?_
      first
      | exact hE _ (by rw [if_pos (by omega)]; unfold ofV; simp only [h23]; first | rfl | (rw [if_pos (by omega)]; rfl) | (rw [if_neg (by omega)]; rfl))
      | exact hE _ (by
          rw [if_pos (by omega)]
          unfold ofV
          subst h23
          first
          | rfl
          | (congr 1; first | rw [if_neg (by omega), if_neg (by omega), if_neg (by omega), if_pos (by omega), if_neg (by omega)] | rw [if_neg (by omega), if_neg (by omega), if_neg (by omega), if_pos (by omega), if_pos (by omega)] | rw [if_neg (by omega), if_neg (by omega), if_neg (by omega), if_neg (by omega), if_neg (by omega)] | rw [if_neg (by omega), if_neg (by omega), if_neg (by omega), if_neg (by omega), if_pos (by omega)]))
    · try dsimp only at h23
      refine R_aload rfl rfl rfl ?_
      refine T_getr (v := 73) rfl rfl rfl rfl ?_
      refine R_iload rfl rfl ?_
      refine R_invv rfl rfl rfl rfl rfl rfl (sp_X0_isHole d (by omega) xs t dd rr σ P J hH f ⟨by omega, by omega⟩ hs1) rfl ?_
      show pCm _ _ _ 101 _ [(0, _)] _
      refine R_if rfl (fun h101 => ?_) (fun h101 => ?_)
      · try simp only [ne_eq, b2i_e, b2i_1, Classical.not_not] at h101
        refine R_push rfl ?_
        refine R_iret rfl ?_
        first
        | exact hE _ (by rw [if_pos (by omega)]; unfold ofV; simp only [h23]; first | rfl | (rw [if_pos (by omega)]; rfl) | (rw [if_neg (by omega)]; rfl))
        | exact hE _ (by
            rw [if_pos (by omega)]
            unfold ofV
            subst h23
            first
            | rfl
            | (congr 1; first | rw [if_neg (by omega), if_neg (by omega), if_neg (by omega), if_pos (by omega), if_neg (by omega)] | rw [if_neg (by omega), if_neg (by omega), if_neg (by omega), if_pos (by omega), if_pos (by omega)] | rw [if_neg (by omega), if_neg (by omega), if_neg (by omega), if_neg (by omega), if_neg (by omega)] | rw [if_neg (by omega), if_neg (by omega), if_neg (by omega), if_neg (by omega), if_pos (by omega)]))
      · try simp only [ne_eq, b2i_e, b2i_1, Classical.not_not] at h101
        refine R_push rfl ?_
        refine R_aload rfl rfl rfl ?_
        refine T_getr (v := 28) rfl rfl rfl rfl ?_
        refine R_iload rfl rfl ?_
        refine R_invv rfl rfl rfl rfl rfl rfl (sp_X1_rimSum d (by omega) xs t dd rr σ f ⟨by omega, by omega⟩) rfl ?_
        show pCm _ _ _ 113 _ [(0, _), (0, _)] _
        refine R_aload rfl rfl rfl ?_
        refine T_getr (v := 52) rfl rfl rfl rfl ?_
        refine T_geti rfl rfl rfl ?_
        refine R_sub rfl (by omega) (by omega) ?_
        refine R_inv rfl rfl rfl rfl rfl (sp_J9_max_7cf53 d (by omega) _ _ _) rfl ?_
        show pCm _ _ _ 124 _ [(0, _)] _
        refine R_goto rfl ?_
        refine R_iret rfl ?_
        first
        | exact hE _ (by rw [if_pos (by omega)]; unfold ofV; simp only [h23]; first | rfl | (rw [if_pos (by omega)]; rfl) | (rw [if_neg (by omega)]; rfl))
        | exact hE _ (by
            rw [if_pos (by omega)]
            unfold ofV
            subst h23
            first
            | rfl
            | (congr 1; first | rw [if_neg (by omega), if_neg (by omega), if_neg (by omega), if_pos (by omega), if_neg (by omega)] | rw [if_neg (by omega), if_neg (by omega), if_neg (by omega), if_pos (by omega), if_pos (by omega)] | rw [if_neg (by omega), if_neg (by omega), if_neg (by omega), if_neg (by omega), if_neg (by omega)] | rw [if_neg (by omega), if_neg (by omega), if_neg (by omega), if_neg (by omega), if_pos (by omega)]))
    · try dsimp only at h23
      refine R_aload rfl rfl rfl ?_
      refine T_getr (v := 73) rfl rfl rfl rfl ?_
      refine R_iload rfl rfl ?_
      refine R_invv rfl rfl rfl rfl rfl rfl (sp_X0_isHole d (by omega) xs t dd rr σ P J hH f ⟨by omega, by omega⟩ hs1) rfl ?_
      show pCm _ _ _ 137 _ [(0, _)] _
      refine R_if rfl (fun h137 => ?_) (fun h137 => ?_)
      · try simp only [ne_eq, b2i_e, b2i_1, Classical.not_not] at h137
        refine R_push rfl ?_
        refine R_iret rfl ?_
        first
        | exact hE _ (by rw [if_pos (by omega)]; unfold ofV; simp only [h23]; first | rfl | (rw [if_pos (by omega)]; rfl) | (rw [if_neg (by omega)]; rfl))
        | exact hE _ (by
            rw [if_pos (by omega)]
            unfold ofV
            subst h23
            first
            | rfl
            | (congr 1; first | rw [if_neg (by omega), if_neg (by omega), if_neg (by omega), if_pos (by omega), if_neg (by omega)] | rw [if_neg (by omega), if_neg (by omega), if_neg (by omega), if_pos (by omega), if_pos (by omega)] | rw [if_neg (by omega), if_neg (by omega), if_neg (by omega), if_neg (by omega), if_neg (by omega)] | rw [if_neg (by omega), if_neg (by omega), if_neg (by omega), if_neg (by omega), if_pos (by omega)]))
      · try simp only [ne_eq, b2i_e, b2i_1, Classical.not_not] at h137
        refine R_aload rfl rfl rfl ?_
        refine T_getr (v := 28) rfl rfl rfl rfl ?_
        refine R_iload rfl rfl ?_
        refine R_invv rfl rfl rfl rfl rfl rfl (sp_X1_rimSum d (by omega) xs t dd rr σ f ⟨by omega, by omega⟩) rfl ?_
        show pCm _ _ _ 148 _ [(0, _)] _
        refine R_aload rfl rfl rfl ?_
        refine T_getr (v := 52) rfl rfl rfl rfl ?_
        refine T_geti rfl rfl rfl ?_
        refine R_add rfl (by omega) (by omega) ?_
        refine R_goto rfl ?_
        refine R_iret rfl ?_
        first
        | exact hE _ (by rw [if_pos (by omega)]; unfold ofV; simp only [h23]; first | rfl | (rw [if_pos (by omega)]; rfl) | (rw [if_neg (by omega)]; rfl))
        | exact hE _ (by
            rw [if_pos (by omega)]
            unfold ofV
            subst h23
            first
            | rfl
            | (congr 1; first | rw [if_neg (by omega), if_neg (by omega), if_neg (by omega), if_pos (by omega), if_neg (by omega)] | rw [if_neg (by omega), if_neg (by omega), if_neg (by omega), if_pos (by omega), if_pos (by omega)] | rw [if_neg (by omega), if_neg (by omega), if_neg (by omega), if_neg (by omega), if_neg (by omega)] | rw [if_neg (by omega), if_neg (by omega), if_neg (by omega), if_neg (by omega), if_pos (by omega)]))
    · try dsimp only at h23
      refine R_thr rfl ?_
      have h23x : w < 0 ∨ 0 + 5 ≤ w := h23
      exact hE _ (by rw [if_neg (by omega)])
  · try simp only [ne_eq, b2i_e, b2i_1, Classical.not_not] at h8
    refine R_thr rfl ?_
    exact hE _ (by rw [if_neg (by omega)])
theorem chS_n {σ : Sg} {P J c : Int} (h : qS σ P J c < 0) : chS σ P J c = -1 := by
  unfold chS
  rw [if_neg (by omega)]
  unfold chR
  split <;> rfl
set_option maxRecDepth 20000 in
set_option maxHeartbeats 2000000 in
theorem sp_X9_cobble (d : Nat) (hd : 7 ≤ d) (xs : List (Nat × Nat)) (t dd rr : Nat) (σ : Sg) (p w P J : Int) (hH : BH σ P J) (hB : HB σ P J) (hfl : ∀ p, 0 ≤ p → p < P → 0 ≤ σ 11 p ∧ σ 11 p ≤ 9) (hg : ∀ p, 0 ≤ p → p < P → σ 31 p = trnS σ P J p) (hT : ∀ j, 0 ≤ j → j < J → 0 ≤ σ 24 j ∧ σ 24 j ≤ 7) : ∃ σ', Ev d 17 [(16, 0), (0, p), (0, w)] (Wd xs t dd rr σ) (if (0 ≤ p ∧ p < P) ∧ 0 ≤ w ∧ w ≤ 7 then (0, coV (mny (σ 29) P (σ 29 p)) (whS σ P (σ 29 p)) (sumZ (gg2 P (σ 29 p) (hsS σ) (σ 14) (σ 29) (σ 30) (mtS σ J)) (8 * P)) (sumZ (fun j => b2i (opS σ P J j = 1 ∧ σ 29 (σ 22 j / 8) = σ 29 p)) J) (qS σ P J (σ 29 p)) (chS σ P J (σ 29 p)) (faS σ P (σ 29 p)) w) else (7, 0)) (Wd xs t dd rr σ') ∧ Fb σ σ' ∧ HB σ' P J := by
  obtain ⟨d, rfl⟩ : ∃ e, d = e + 1 := ⟨d - 1, by omega⟩
  obtain ⟨⟨hP, hJ, h0, hJ0, hJB⟩, hHH, h32, h17, hcut⟩ := id hH
  refine evS (nL := 4) (code := k_X9_cobble) rfl dc_X9_cobble rfl (fun E hE => ?_)
  show pCm (Ev d) k_X9_cobble E 0 [(16, 0), (0, p), (0, w), (9, 0)] [] _
  refine R_aload rfl rfl rfl ?_
  refine T_getr (v := 17) rfl rfl rfl rfl ?_
  refine R_iload rfl rfl ?_
  refine R_invv rfl rfl rfl rfl rfl rfl (sp_X6_has d (by omega) xs t dd rr σ p P hP) rfl ?_
  show pCm _ _ _ 8 _ [(0, _)] _
  refine R_if rfl (fun h8 => ?_) (fun h8 => ?_)
  · try simp only [ne_eq, b2i_e, b2i_1, Classical.not_not] at h8
    have hco := (hHH.2.1 p (by omega) (by omega)).1
    have h32p := h32 (σ 29 p) hco.1 hco.2
    refine R_aload rfl rfl rfl ?_
    refine T_getr (v := 44) rfl rfl rfl rfl ?_
    refine T_getr (v := 45) rfl rfl rfl rfl ?_
    refine R_iload rfl rfl ?_
    refine T_ald rfl rfl (by omega) (by omega) ?_
    refine R_istore rfl rfl ?_
    refine R_iload rfl rfl ?_
    refine R_tswL rfl ⟨fun h32 => ?_, fun h32 => ?_, fun h32 => ?_, fun h32 => ?_, fun h32 => ?_, fun h32 => ?_, fun h32 => ?_, fun h32 => ?_, trivial⟩ (fun h32 => ?_)
    · try dsimp only at h32
      refine R_aload rfl rfl rfl ?_
      refine T_getr (v := 44) rfl rfl rfl rfl ?_
      refine T_getr (v := 48) rfl rfl rfl rfl ?_
      refine R_iload rfl rfl ?_
      refine T_ald rfl rfl (by omega) (by omega) ?_
      refine R_iret rfl ?_
      exact hE _ _ (by rw [if_pos (by omega)]; unfold coV; rw [if_pos (by omega), h32p]) ⟨Fr.rf, hB⟩
    · try dsimp only at h32
      refine R_aload rfl rfl rfl ?_
      refine T_getr (v := 44) rfl rfl rfl rfl ?_
      refine R_iload rfl rfl ?_
      refine R_invv rfl rfl rfl rfl rfl rfl (sp_X3_wholesIn d (by omega) xs t dd rr σ (σ 29 p) P hP h0) rfl ?_
      show pCm _ _ _ 98 _ [(0, _)] _
      refine R_iret rfl ?_
      exact hE _ _ (by rw [if_pos (by omega)]; unfold coV; rw [if_neg (by omega), if_pos (by omega)]; rfl) ⟨Fr.rf, hB⟩
    · try dsimp only at h32
      refine R_aload rfl rfl rfl ?_
      refine T_getr (v := 73) rfl rfl rfl rfl ?_
      refine R_iload rfl rfl ?_
      refine R_invv rfl rfl rfl rfl rfl rfl (sp_X0_holesIn d (by omega) xs t dd rr σ (σ 29 p) P J hH) rfl ?_
      show pCm _ _ _ 107 _ [(0, _)] _
      refine R_iret rfl ?_
      exact hE _ _ (by rw [if_pos (by omega)]; unfold coV; rw [if_neg (by omega), if_neg (by omega), if_pos (by omega)]) ⟨Fr.rf, hB⟩
    · try dsimp only at h32
      refine R_aload rfl rfl rfl ?_
      refine T_getr (v := 44) rfl rfl rfl rfl ?_
      refine R_iload rfl rfl ?_
      refine R_invv rfl rfl rfl rfl rfl rfl (sp_X3_openIn d (by omega) xs t dd rr σ (σ 29 p) P J hH.1 hg hT) rfl ?_
      show pCm _ _ _ 116 _ [(0, _)] _
      refine R_iret rfl ?_
      exact hE _ _ (by rw [if_pos (by omega)]; unfold coV; rw [if_neg (by omega), if_neg (by omega), if_neg (by omega), if_pos (by omega)]) ⟨Fr.rf, hB⟩
    · try dsimp only at h32
      refine R_aload rfl rfl rfl ?_
      refine T_getr (v := 73) rfl rfl rfl rfl ?_
      refine R_iload rfl rfl ?_
      obtain ⟨s1, hev, hF, h4, hBx⟩ := sp_X0_leastQuarrel d (by omega) xs t dd rr σ (σ 29 p) P J hH (HB_h hB hco.1)
      refine R_invv rfl rfl rfl rfl rfl rfl (hev) rfl ?_
      show pCm _ _ _ 125 _ [(0, _)] _
      refine R_iret rfl ?_
      refine hE _ _ (Eq.symm ((if_pos ⟨⟨by omega, by omega⟩, by omega, by omega⟩).trans ?_)) ⟨hF, HB_a hF h4 hBx hco⟩
      unfold coV
      rw [if_neg (by omega), if_neg (by omega), if_neg (by omega), if_neg (by omega), if_pos (by omega)]
    · try dsimp only at h32
      refine R_aload rfl rfl rfl ?_
      refine T_getr (v := 73) rfl rfl rfl rfl ?_
      refine R_iload rfl rfl ?_
      obtain ⟨s1, hev, hF, h4, hBx⟩ := sp_X0_isRing d (by omega) xs t dd rr σ (σ 29 p) P J hH (HB_h hB hco.1)
      refine R_invv rfl rfl rfl rfl rfl rfl (hev) rfl ?_
      show pCm _ _ _ 134 _ [(0, _)] _
      refine R_if rfl (fun h134 => ?_) (fun h134 => ?_)
      · try simp only [ne_eq, b2i_e, b2i_1, Classical.not_not] at h134
        refine R_push rfl ?_
        refine R_iret rfl ?_
        exact hE _ _ (by rw [if_pos (by omega)]; unfold coV; rw [if_neg (by omega), if_neg (by omega), if_neg (by omega), if_neg (by omega), if_neg (by omega), if_pos (by omega)]; first | rw [b2i_t (by omega)] | rw [b2i_f (by omega)]) ⟨hF, HB_a hF h4 hBx hco⟩
      · try simp only [ne_eq, b2i_e, b2i_1, Classical.not_not] at h134
        refine R_push rfl ?_
        refine R_goto rfl ?_
        refine R_iret rfl ?_
        exact hE _ _ (by rw [if_pos (by omega)]; unfold coV; rw [if_neg (by omega), if_neg (by omega), if_neg (by omega), if_neg (by omega), if_neg (by omega), if_pos (by omega)]; first | rw [b2i_t (by omega)] | rw [b2i_f (by omega)]) ⟨hF, HB_a hF h4 hBx hco⟩
    · try dsimp only at h32
      refine R_aload rfl rfl rfl ?_
      refine T_getr (v := 73) rfl rfl rfl rfl ?_
      refine R_iload rfl rfl ?_
      obtain ⟨s1, hev, hF, h4, hBx⟩ := sp_X0_changeOf d (by omega) xs t dd rr σ (σ 29 p) P J hH (HB_h hB hco.1) hfl
      refine R_invv rfl rfl rfl rfl rfl rfl (hev) rfl ?_
      show pCm _ _ _ 151 _ [(0, _)] _
      refine R_iret rfl ?_
      exact hE _ _ (by
        rw [if_pos (by omega)]; unfold coV; rw [if_neg (by omega), if_neg (by omega), if_neg (by omega), if_neg (by omega), if_neg (by omega), if_neg (by omega), if_pos (by omega)]
        by_cases z : qS σ P J (σ 29 p) < 0
        · rw [if_pos z, chS_n z]
        · rw [if_neg z]) ⟨hF, HB_a hF h4 hBx hco⟩
    · try dsimp only at h32
      refine R_aload rfl rfl rfl ?_
      refine T_getr (v := 44) rfl rfl rfl rfl ?_
      refine R_iload rfl rfl ?_
      refine R_invv rfl rfl rfl rfl rfl rfl (sp_X3_faultsIn d (by omega) xs t dd rr σ (σ 29 p) P hP h0 hfl) rfl ?_
      show pCm _ _ _ 160 _ [(0, _)] _
      refine R_iret rfl ?_
      exact hE _ _ (by rw [if_pos (by omega)]; unfold coV; rw [if_neg (by omega), if_neg (by omega), if_neg (by omega), if_neg (by omega), if_neg (by omega), if_neg (by omega), if_neg (by omega)]; rfl) ⟨Fr.rf, hB⟩
    · try dsimp only at h32
      refine R_thr rfl ?_
      have h32x : w < 0 ∨ 0 + 8 ≤ w := h32
      exact hE _ _ (by rw [if_neg (by omega)]) ⟨Fr.rf, hB⟩
  · try simp only [ne_eq, b2i_e, b2i_1, Classical.not_not] at h8
    refine R_thr rfl ?_
    exact hE _ _ (by rw [if_neg (by omega)]) ⟨Fr.rf, hB⟩

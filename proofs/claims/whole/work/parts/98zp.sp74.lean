set_option maxRecDepth 20000 in
set_option maxHeartbeats 2000000 in
theorem ln_B (d : Nat) (xs : List (Nat × Nat)) (t dd rr : Nat) (σ s : Sg) (E : pE) (k i2 tl m c0 N M : Int) (S : PSt) (hT : TR σ m) (h : RP s σ m c0 S) (hroom : s 71 18 + 1 ≤ s 71 7) (hN : σ 77 (σ 71 11) = N) (hN0 : 0 ≤ N ∧ N < 24) (hM : σ 81 (σ 71 11) = M) (hM7 : k = 0 → (tsg (tkM σ) (σ 74) 59 (ch0 (tkM σ) (prt (tkM σ) (twM σ) (σ 74) 5) S)).2.1 = 0 → M < 8) (hi2 : i2 = 24 * σ 71 11 + N) (hd2 : 38 ≤ d) (hE : ∀ r1 σ', r1 = (8, 0) → (∃ s10, LNE s10 (up2 σ 80 i2 (1100 * σ 71 11 + s 71 18)) m c0 (tsg (tkM σ) (σ 74) 59 (ch0 (tkM σ) (prt (tkM σ) (twM σ) (σ 74) 5) S)) ∧ σ' = (if (tsg (tkM σ) (σ 74) 59 (ch0 (tkM σ) (prt (tkM σ) (twM σ) (σ 74) 5) S)).2.1 = 0 then up2 (if k = 0 then up2 (up2 (up2 s10 79 i2 M) 82 (8 * σ 71 11 + M) tl) 81 (σ 71 11) (M + 1) else s10) 77 (σ 71 11) (N + 1) else up2 s10 77 (σ 71 11) (N + 0))) → E r1 (Wd xs t dd rr σ')) : pCm (Ev d) k_X10_line E 150 [(87, 0), (0, k), (0, i2), (1, tl), (9, 0)] [] (Wd xs t dd rr s) := by
  have hm := hT.1
  have hnx := hT.2.2.2.2.1
  have hM0 := hT.2.2.2.2.2
  rw [hM] at hM0
  have e11 : s 71 11 = σ 71 11 := h.1.at 71 11 rfl
  have h5 := h.2.2.2.2.1
  have h4 := h.2.2.2.1
  refine R_aload rfl rfl rfl ?_
  refine T_getr (v := 96) rfl rfl rfl rfl ?_
  refine R_iload rfl rfl ?_
  refine R_push rfl ?_
  refine R_aload rfl rfl rfl ?_
  refine T_geti rfl rfl rfl ?_
  rw [e11]
  refine R_mul rfl (by omega) (by omega) ?_
  refine R_aload rfl rfl rfl ?_
  refine T_geti rfl rfl rfl ?_
  refine R_add rfl (by omega) (by omega) ?_
  refine T_iast rfl rfl (by omega) (by omega) ?_
  generalize hs7 : up2 s 80 i2 (1100 * σ 71 11 + s 71 18) = s7
  have hR7 : RP s7 (up2 σ 80 i2 (1100 * σ 71 11 + s 71 18)) m c0 S := by rw [← hs7]; exact RP_up (Or.inr (Or.inr (Or.inr rfl))) h
  have e7a : s7 71 7 = s 71 7 := by rw [← hs7]; simp [up2]
  have e7b : s7 71 18 = s 71 18 := by rw [← hs7]; simp [up2]
  refine R_aload rfl rfl rfl ?_
  refine R_push rfl ?_
  have hT7 : TR (up2 σ 80 i2 (1100 * σ 71 11 + s 71 18)) m := TR_t (ET_up (Or.inr (Or.inr (Or.inr rfl)))) hT
  have hA : MSp 55 38 (ch0 (tkM (up2 σ 80 i2 (1100 * σ 71 11 + s 71 18))) (prt (tkM (up2 σ 80 i2 (1100 * σ 71 11 + s 71 18))) (twM (up2 σ 80 i2 (1100 * σ 71 11 + s 71 18))) ((up2 σ 80 i2 (1100 * σ 71 11 + s 71 18)) 74) 5)) 0 (up2 σ 80 i2 (1100 * σ 71 11 + s 71 18)) m c0 := (MS_all hT7 5 (by omega)).2
  obtain ⟨s8, hev8, hR8, hG8⟩ := hA d hd2 xs t dd rr s7 S hR7
  have hR8 : RP s8 (up2 σ 80 i2 (1100 * σ 71 11 + s 71 18)) m c0 (ch0 (tkM σ) (prt (tkM σ) (twM σ) (σ 74) 5) S) := by
    have e1 := tkM_t (ET_up (σ := σ) (i := i2) (v := 1100 * σ 71 11 + s 71 18) (k := 80) (Or.inr (Or.inr (Or.inr rfl))))
    have e2 := twM_t (ET_up (σ := σ) (i := i2) (v := 1100 * σ 71 11 + s 71 18) (k := 80) (Or.inr (Or.inr (Or.inr rfl))))
    rw [e1, e2] at hR8
    exact hR8
  have hroom8 : s8 71 18 + 1 ≤ s8 71 7 := by have := hG8.2.2; omega
  have h58 := hR8.2.2.2.2.1
  have h48 := hR8.2.2.2.1
  have e118 : s8 71 11 = σ 71 11 := hR8.1.at 71 11 rfl
  refine R_invv rfl rfl rfl rfl rfl rfl (hev8) rfl ?_
  show pCm _ _ _ 174 _ [] _
  refine R_aload rfl rfl rfl ?_
  refine R_push rfl ?_
  refine R_push rfl ?_
  obtain ⟨s9, hev9, hF9, h918, h983, h984⟩ := sp_X10_emit d (by omega) xs t dd rr s8 0 0 (by rw [e118]; exact hnx) ⟨by omega, by omega⟩
  refine R_invv rfl rfl rfl rfl rfl rfl (hev9) rfl ?_
  show pCm _ _ _ 180 _ [] _
  refine R_aload rfl rfl rfl ?_
  refine R_push rfl ?_
  have h97 := hF9.at 71 7 rfl
  obtain ⟨s10, hev10, hF10, h107, h108⟩ := sp_X10_takeSign d (by omega) xs t dd rr s9 59 (by omega) (by rw [h97, hF9.row 74 rfl, hR8.1.row 74 rfl]; exact (hT7.2.2.1 (s8 71 7) h48.1 h48.2).2.1)
  have hL := LE_of hT7 hR8 hroom8 hF9 h918 h983 h984 hF10 h107 h108
  have hL : LNE s10 (up2 σ 80 i2 (1100 * σ 71 11 + s 71 18)) m c0 (tsg (tkM σ) (σ 74) 59 (ch0 (tkM σ) (prt (tkM σ) (twM σ) (σ 74) 5) S)) := by
    have e1 := tkM_t (ET_up (σ := σ) (i := i2) (v := 1100 * σ 71 11 + s 71 18) (k := 80) (Or.inr (Or.inr (Or.inr rfl))))
    rw [e1] at hL
    exact hL
  have hL8 := hL.2.1
  have hLF := hL.1
  have e1011 : s10 71 11 = σ 71 11 := hLF.at 71 11 rfl
  have e1081 : s10 81 (σ 71 11) = M := by rw [hLF.row 81 rfl]; exact hM
  have e1077 : s10 77 (σ 71 11) = N := by rw [hLF.row 77 rfl]; exact hN
  refine R_invv rfl rfl rfl rfl rfl rfl (hev10) rfl ?_
  show pCm _ _ _ 186 _ [] _
  refine R_aload rfl rfl rfl ?_
  refine T_geti rfl rfl rfl ?_
  refine R_if rfl (fun h190 => ?_) (fun h190 => ?_)
  · try simp only [ne_eq, b2i_e, b2i_1, Classical.not_not] at h190
    refine R_aload rfl rfl rfl ?_
    refine T_getr (v := 93) rfl rfl rfl rfl ?_
    refine R_aload rfl rfl rfl ?_
    refine T_geti rfl rfl rfl ?_
    first | rw [f13] | rw [e1011]
    refine R_dup2 rfl rfl rfl ?_
    refine T_ald rfl rfl (by omega) (by omega) ?_
    first | rw [g13] | rw [e1077]
    refine R_aload rfl rfl rfl ?_
    refine T_geti rfl rfl rfl ?_
    refine R_if rfl (fun h262 => ?_) (fun h262 => ?_)
    · try simp only [ne_eq, b2i_e, b2i_1, Classical.not_not] at h262
      refine R_push rfl ?_
      refine R_add rfl (by omega) (by omega) ?_
      refine T_iast rfl rfl (by omega) (by omega) ?_
      refine R_vret rfl ?_
      first
      | (exfalso; omega)
      | exact hE _ _ rfl ⟨s10, hL, by rw [if_pos (by omega), if_pos (by omega), hs11, hs12, hs13]⟩
      | exact hE _ _ rfl ⟨s10, hL, by rw [if_pos (by omega), if_neg (by omega)]⟩
      | exact hE _ _ rfl ⟨s10, hL, by rw [if_neg (by omega)]⟩
    · try simp only [ne_eq, b2i_e, b2i_1, Classical.not_not] at h262
      refine R_push rfl ?_
      refine R_goto rfl ?_
      refine R_add rfl (by omega) (by omega) ?_
      refine T_iast rfl rfl (by omega) (by omega) ?_
      refine R_vret rfl ?_
      first
      | (exfalso; omega)
      | exact hE _ _ rfl ⟨s10, hL, by rw [if_pos (by omega), if_pos (by omega), hs11, hs12, hs13]⟩
      | exact hE _ _ rfl ⟨s10, hL, by rw [if_pos (by omega), if_neg (by omega)]⟩
      | exact hE _ _ rfl ⟨s10, hL, by rw [if_neg (by omega)]⟩
  · try simp only [ne_eq, b2i_e, b2i_1, Classical.not_not] at h190
    have hf0 : (tsg (tkM σ) (σ 74) 59 (ch0 (tkM σ) (prt (tkM σ) (twM σ) (σ 74) 5) S)).2.1 = 0 := by omega
    refine R_iload rfl rfl ?_
    refine R_if rfl (fun h194 => ?_) (fun h194 => ?_)
    · try simp only [ne_eq, b2i_e, b2i_1, Classical.not_not] at h194
      refine R_aload rfl rfl rfl ?_
      refine T_getr (v := 93) rfl rfl rfl rfl ?_
      refine R_aload rfl rfl rfl ?_
      refine T_geti rfl rfl rfl ?_
      first | rw [f13] | rw [e1011]
      refine R_dup2 rfl rfl rfl ?_
      refine T_ald rfl rfl (by omega) (by omega) ?_
      first | rw [g13] | rw [e1077]
      refine R_aload rfl rfl rfl ?_
      refine T_geti rfl rfl rfl ?_
      refine R_if rfl (fun h262 => ?_) (fun h262 => ?_)
      · try simp only [ne_eq, b2i_e, b2i_1, Classical.not_not] at h262
        refine R_push rfl ?_
        refine R_add rfl (by omega) (by omega) ?_
        refine T_iast rfl rfl (by omega) (by omega) ?_
        refine R_vret rfl ?_
        first
        | (exfalso; omega)
        | exact hE _ _ rfl ⟨s10, hL, by rw [if_pos (by omega), if_pos (by omega), hs11, hs12, hs13]⟩
        | exact hE _ _ rfl ⟨s10, hL, by rw [if_pos (by omega), if_neg (by omega)]⟩
        | exact hE _ _ rfl ⟨s10, hL, by rw [if_neg (by omega)]⟩
      · try simp only [ne_eq, b2i_e, b2i_1, Classical.not_not] at h262
        refine R_push rfl ?_
        refine R_goto rfl ?_
        refine R_add rfl (by omega) (by omega) ?_
        refine T_iast rfl rfl (by omega) (by omega) ?_
        refine R_vret rfl ?_
        first
        | (exfalso; omega)
        | exact hE _ _ rfl ⟨s10, hL, by rw [if_pos (by omega), if_pos (by omega), hs11, hs12, hs13]⟩
        | exact hE _ _ rfl ⟨s10, hL, by rw [if_pos (by omega), if_neg (by omega)]⟩
        | exact hE _ _ rfl ⟨s10, hL, by rw [if_neg (by omega)]⟩
    · try simp only [ne_eq, b2i_e, b2i_1, Classical.not_not] at h194
      have hM8 := hM7 (by omega) hf0
      refine R_aload rfl rfl rfl ?_
      refine T_getr (v := 95) rfl rfl rfl rfl ?_
      refine R_iload rfl rfl ?_
      refine R_aload rfl rfl rfl ?_
      refine T_getr (v := 97) rfl rfl rfl rfl ?_
      refine R_aload rfl rfl rfl ?_
      refine T_geti rfl rfl rfl ?_
      rw [e1011]
      refine T_ald rfl rfl (by omega) (by omega) ?_
      rw [e1081]
      refine T_iast rfl rfl (by omega) (by omega) ?_
      generalize hs11 : up2 s10 79 i2 M = s11
      have f11 : s11 71 11 = σ 71 11 := by rw [← hs11]; simp [up2]; exact e1011
      have g11 : s11 81 (σ 71 11) = M := by rw [← hs11]; simp [up2]; exact e1081
      refine R_aload rfl rfl rfl ?_
      refine T_getr (v := 98) rfl rfl rfl rfl ?_
      refine R_push rfl ?_
      refine R_aload rfl rfl rfl ?_
      refine T_geti rfl rfl rfl ?_
      rw [f11]
      refine R_mul rfl (by omega) (by omega) ?_
      refine R_aload rfl rfl rfl ?_
      refine T_getr (v := 97) rfl rfl rfl rfl ?_
      refine R_aload rfl rfl rfl ?_
      refine T_geti rfl rfl rfl ?_
      rw [f11]
      refine T_ald rfl rfl (by omega) (by omega) ?_
      rw [g11]
      refine R_add rfl (by omega) (by omega) ?_
      refine R_lload rfl rfl ?_
      refine T_last rfl rfl (by omega) (by omega) ?_
      generalize hs12 : up2 s11 82 (8 * σ 71 11 + M) tl = s12
      have f12 : s12 71 11 = σ 71 11 := by rw [← hs12]; simp [up2]; exact f11
      have g12 : s12 81 (σ 71 11) = M := by rw [← hs12]; simp [up2]; exact g11
      refine R_aload rfl rfl rfl ?_
      refine T_getr (v := 97) rfl rfl rfl rfl ?_
      refine R_aload rfl rfl rfl ?_
      refine T_geti rfl rfl rfl ?_
      rw [f12]
      refine R_dup2 rfl rfl rfl ?_
      refine T_ald rfl rfl (by omega) (by omega) ?_
      rw [g12]
      refine R_push rfl ?_
      refine R_add rfl (by omega) (by omega) ?_
      refine T_iast rfl rfl (by omega) (by omega) ?_
      generalize hs13 : up2 s12 81 (σ 71 11) (M + 1) = s13
      have f13 : s13 71 11 = σ 71 11 := by rw [← hs13]; simp [up2]; exact f12
      have g13 : s13 77 (σ 71 11) = N := by rw [← hs13, ← hs12, ← hs11]; simp [up2]; exact e1077
      have k13 : s13 71 8 = s10 71 8 := by rw [← hs13, ← hs12, ← hs11]; simp [up2]
      refine R_aload rfl rfl rfl ?_
      refine T_getr (v := 93) rfl rfl rfl rfl ?_
      refine R_aload rfl rfl rfl ?_
      refine T_geti rfl rfl rfl ?_
      first | rw [f13] | rw [e1011]
      refine R_dup2 rfl rfl rfl ?_
      refine T_ald rfl rfl (by omega) (by omega) ?_
      first | rw [g13] | rw [e1077]
      refine R_aload rfl rfl rfl ?_
      refine T_geti rfl rfl rfl ?_
      refine R_if rfl (fun h262 => ?_) (fun h262 => ?_)
      · try simp only [ne_eq, b2i_e, b2i_1, Classical.not_not] at h262
        refine R_push rfl ?_
        refine R_add rfl (by omega) (by omega) ?_
        refine T_iast rfl rfl (by omega) (by omega) ?_
        refine R_vret rfl ?_
        first
        | (exfalso; omega)
        | exact hE _ _ rfl ⟨s10, hL, by rw [if_pos (by omega), if_pos (by omega), hs11, hs12, hs13]⟩
        | exact hE _ _ rfl ⟨s10, hL, by rw [if_pos (by omega), if_neg (by omega)]⟩
        | exact hE _ _ rfl ⟨s10, hL, by rw [if_neg (by omega)]⟩
      · try simp only [ne_eq, b2i_e, b2i_1, Classical.not_not] at h262
        refine R_push rfl ?_
        refine R_goto rfl ?_
        refine R_add rfl (by omega) (by omega) ?_
        refine T_iast rfl rfl (by omega) (by omega) ?_
        refine R_vret rfl ?_
        first
        | (exfalso; omega)
        | exact hE _ _ rfl ⟨s10, hL, by rw [if_pos (by omega), if_pos (by omega), hs11, hs12, hs13]⟩
        | exact hE _ _ rfl ⟨s10, hL, by rw [if_pos (by omega), if_neg (by omega)]⟩
        | exact hE _ _ rfl ⟨s10, hL, by rw [if_neg (by omega)]⟩

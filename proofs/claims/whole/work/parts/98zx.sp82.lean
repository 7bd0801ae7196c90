set_option maxRecDepth 20000 in
set_option maxHeartbeats 2000000 in
theorem ln_C (d : Nat) (xs : List (Nat × Nat)) (t dd rr : Nat) (s : Sg) (E : pE) (k : Int) (m : Int) (hT : TR s m) (h8 : s 71 8 = 0) (h7 : 0 ≤ s 71 7 ∧ s 71 7 ≤ m) (h18 : 0 ≤ s 71 18 ∧ s 71 18 ≤ s 71 7) (hN : 0 ≤ s 77 (s 71 11) ∧ s 77 (s 71 11) ≤ 24) (hN0 : 0 ≤ s 77 (s 71 11) ∧ s 77 (s 71 11) < 24) (hk : tkM s (s 71 7) = 128 + k) (hk3 : 0 ≤ k ∧ k ≤ 3) (hd2 : 38 ≤ d) (hE : ∀ r1 σ', r1 = (8, 0) → LnP s σ' m → E r1 (Wd xs t dd rr σ')) : pCm (Ev d) k_X10_line E 44 [(87, 0), (0, k), (9, 0), (9, 0), (9, 0)] [] (Wd xs t dd rr s) := by
  have hm := hT.1
  have hnx := hT.2.2.2.2.1
  have hM0 := hT.2.2.2.2.2
  have hat : 0 ≤ s 71 7 ∧ s 71 7 ≤ 1001 := by omega
  have hpl : 0 ≤ s 74 (s 71 7) ∧ s 74 (s 71 7) ≤ 1000 := (hT.2.2.1 (s 71 7) h7.1 h7.2).2.1
  have hR0 : RP s s m (s 71 18) ((s 71 7, 0, 0, fun _ => 0, fun _ => 0) : PSt) := ⟨Fr.rf, h8, Int.le_refl _, h7, ⟨h18.1, Int.le_refl _, h18.2⟩, fun _ _ => ⟨rfl, rfl⟩, fun _ => ⟨rfl, by show s 71 18 = s 71 18 + 0; omega, fun q q0 q1 => absurd q1 (by show ¬ q < 0; omega)⟩⟩
  refine R_aload rfl rfl rfl ?_
  refine R_dup rfl rfl ?_
  refine T_geti rfl rfl rfl ?_
  refine R_push rfl ?_
  refine R_add rfl (by omega) (by omega) ?_
  refine T_puti rfl rfl rfl ?_
  generalize hs1 : up2 s 71 7 (s 71 7 + 1) = s1
  have hF1 : Fr [] [(71, 7)] s s1 := by rw [← hs1]; exact Fr.rf.up rfl
  have h71 : s1 71 7 = s 71 7 + 1 := by rw [← hs1]; simp [up2]
  obtain ⟨hR1, hG1⟩ := RP_ad hT hR0 rfl (show tkM s (s 71 7) ≠ 0 by omega) hF1 h71
  have hR1 : RP s1 s m (s 71 18) ((s 71 7 + 1, 0, 0, fun _ => 0, fun _ => 0) : PSt) := hR1
  have f1 : s1 71 11 = s 71 11 := hF1.at 71 11 rfl
  have g1 : s1 77 (s 71 11) = s 77 (s 71 11) := hF1.row 77 rfl _
  have c1 : s1 71 18 = s 71 18 := hF1.at 71 18 rfl
  refine R_push rfl ?_
  refine R_aload rfl rfl rfl ?_
  refine T_geti rfl rfl rfl ?_
  rw [f1]
  refine R_mul rfl (by omega) (by omega) ?_
  refine R_aload rfl rfl rfl ?_
  refine T_getr (v := 93) rfl rfl rfl rfl ?_
  refine R_aload rfl rfl rfl ?_
  refine T_geti rfl rfl rfl ?_
  rw [f1]
  refine T_ald rfl rfl (by omega) (by omega) ?_
  rw [g1]
  refine R_add rfl (by omega) (by omega) ?_
  refine R_istore rfl rfl ?_
  refine R_aload rfl rfl rfl ?_
  refine T_getr (v := 94) rfl rfl rfl rfl ?_
  refine R_iload rfl rfl ?_
  refine R_iload rfl rfl ?_
  refine T_iast rfl rfl (by omega) (by omega) ?_
  refine R_aload rfl rfl rfl ?_
  refine T_getr (v := 95) rfl rfl rfl rfl ?_
  refine R_iload rfl rfl ?_
  refine R_push rfl ?_
  refine T_iast rfl rfl (by omega) (by omega) ?_
  generalize hs3 : up2 (up2 s1 78 (24 * s 71 11 + s 77 (s 71 11)) k) 79 (24 * s 71 11 + s 77 (s 71 11)) 0 = s3
  have hR3 : RP s3 (up2 (up2 s 78 (24 * s 71 11 + s 77 (s 71 11)) k) 79 (24 * s 71 11 + s 77 (s 71 11)) 0) m (s 71 18) ((s 71 7 + 1, 0, 0, fun _ => 0, fun _ => 0) : PSt) := by rw [← hs3]; exact RP_up (Or.inr (Or.inr (Or.inl rfl))) (RP_up (Or.inr (Or.inl rfl)) hR1)
  have q7 : s3 71 7 = s 71 7 + 1 := by rw [← hs3]; simp [up2]; exact h71
  have q18 : s3 71 18 = s 71 18 := by rw [← hs3]; simp [up2]; exact c1
  rcases (show k = 0 ∨ k = 1 ∨ k = 2 ∨ k = 3 by omega) with z | z | z | z <;> subst z
  · exact ln_0 d xs t dd rr s s3 E m hT hR3 q7 q18 h7.1 h18 hN0 (by omega) hd2 hE
  · exact ln_1 d xs t dd rr s s3 E m hT hR3 q7 q18 h7.1 h18 hN0 (by omega) hd2 hE
  · exact ln_2 d xs t dd rr s s3 E m hT hR3 q7 q18 h7.1 h18 hN0 (by omega) hd2 hE
  · exact ln_3 d xs t dd rr s s3 E m hT hR3 q7 q18 h7.1 h18 hN0 (by omega) hd2 hE
set_option maxRecDepth 20000 in
set_option maxHeartbeats 2000000 in
theorem sp_X10_line (d : Nat) (hd : 39 ≤ d) (xs : List (Nat × Nat)) (t dd rr : Nat) (s : Sg) (m : Int) (hT : TR s m) (h8 : s 71 8 = 0) (h7 : 0 ≤ s 71 7 ∧ s 71 7 ≤ m) (h18 : 0 ≤ s 71 18 ∧ s 71 18 ≤ s 71 7) (hN : 0 ≤ s 77 (s 71 11) ∧ s 77 (s 71 11) ≤ 24)  : ∃ σ', Ev d 50 [(87, 0)] (Wd xs t dd rr s) (8, 0) (Wd xs t dd rr σ') ∧ ((128 ≤ tkM s (s 71 7) ∧ tkM s (s 71 7) ≤ 131 ∧ s 77 (s 71 11) ≠ 24 → LnP s σ' m) ∧ (¬ (128 ≤ tkM s (s 71 7) ∧ tkM s (s 71 7) ≤ 131 ∧ s 77 (s 71 11) ≠ 24) → Fr [] [(71, 8)] s σ' ∧ σ' 71 8 = (lnP (tkM s) (twM s) (s 74) (s 77 (s 71 11)) (s 81 (s 71 11)) ((s 71 7, 0, 0, fun _ => 0, fun _ => 0) : PSt)).2.1)) := by
  obtain ⟨d, rfl⟩ : ∃ e, d = e + 1 := ⟨d - 1, by omega⟩
  have hm := hT.1
  have hnx := hT.2.2.2.2.1
  have hM0 := hT.2.2.2.2.2
  have hat : 0 ≤ s 71 7 ∧ s 71 7 ≤ 1001 := by omega
  have hpl : 0 ≤ s 74 (s 71 7) ∧ s 74 (s 71 7) ≤ 1000 := (hT.2.2.1 (s 71 7) h7.1 h7.2).2.1
  have hR0 : RP s s m (s 71 18) ((s 71 7, 0, 0, fun _ => 0, fun _ => 0) : PSt) := ⟨Fr.rf, h8, Int.le_refl _, h7, ⟨h18.1, Int.le_refl _, h18.2⟩, fun _ _ => ⟨rfl, rfl⟩, fun _ => ⟨rfl, by show s 71 18 = s 71 18 + 0; omega, fun q q0 q1 => absurd q1 (by show ¬ q < 0; omega)⟩⟩
  refine evS (nL := 5) (code := k_X10_line) rfl dc_X10_line rfl (fun E hE => ?_)
  show pCm (Ev d) k_X10_line E 0 [(87, 0), (9, 0), (9, 0), (9, 0), (9, 0)] [] _
  refine R_aload rfl rfl rfl ?_
  have hlw := sp_X10_lineWord d (by omega) xs t dd rr s s m (s 71 18) ((s 71 7, 0, 0, fun _ => 0, fun _ => 0) : PSt) hT hR0
  have hlw : Ev d 49 [(87, 0)] (Wd xs t dd rr s) (0, if (0 : Int) = 0 ∧ 128 ≤ tkM s (s 71 7) ∧ tkM s (s 71 7) ≤ 131 then tkM s (s 71 7) - 128 else -1) (Wd xs t dd rr s) := hlw
  have hkk : (if (0 : Int) = 0 ∧ 128 ≤ tkM s (s 71 7) ∧ tkM s (s 71 7) ≤ 131 then tkM s (s 71 7) - 128 else -1) = tkM s (s 71 7) - 128 ∧ (128 ≤ tkM s (s 71 7) ∧ tkM s (s 71 7) ≤ 131) ∨ (if (0 : Int) = 0 ∧ 128 ≤ tkM s (s 71 7) ∧ tkM s (s 71 7) ≤ 131 then tkM s (s 71 7) - 128 else -1) = -1 ∧ ¬ (128 ≤ tkM s (s 71 7) ∧ tkM s (s 71 7) ≤ 131) := by split <;> omega
  generalize (if (0 : Int) = 0 ∧ 128 ≤ tkM s (s 71 7) ∧ tkM s (s 71 7) ≤ 131 then tkM s (s 71 7) - 128 else -1) = k at hlw hkk ⊢
  refine R_invv rfl rfl rfl rfl rfl rfl (hlw) rfl ?_
  show pCm _ _ _ 4 _ [(0, _)] _
  refine R_istore rfl rfl ?_
  refine R_iload rfl rfl ?_
  refine R_if rfl (fun h6 => ?_) (fun h6 => ?_)
  · try simp only [ne_eq, b2i_e, b2i_1, Classical.not_not] at h6
    refine R_aload rfl rfl rfl ?_
    refine T_getr (v := 93) rfl rfl rfl rfl ?_
    refine R_aload rfl rfl rfl ?_
    refine T_geti rfl rfl rfl ?_
    refine T_ald rfl rfl (by omega) (by omega) ?_
    refine R_push rfl ?_
    refine R_ic rfl (fun h28 => ?_) (fun h28 => ?_)
    · try simp only [ne_eq, b2i_e, b2i_1, Classical.not_not] at h28
      refine R_aload rfl rfl rfl ?_
      refine T_geti rfl rfl rfl ?_
      refine R_if rfl (fun h40 => ?_) (fun h40 => ?_)
      · try simp only [ne_eq, b2i_e, b2i_1, Classical.not_not] at h40
        first
        | (exfalso; omega)
        | exact ln_C d xs t dd rr s E k m hT h8 h7 h18 hN (by omega) (by omega) (by omega) (by omega) (fun r1 σ' hr hL => hE r1 σ' hr ⟨fun _ => hL, fun z => absurd (show 128 ≤ tkM s (s 71 7) ∧ tkM s (s 71 7) ≤ 131 ∧ s 77 (s 71 11) ≠ 24 by omega) z⟩)
      · try simp only [ne_eq, b2i_e, b2i_1, Classical.not_not] at h40
        refine R_vret rfl ?_
        first
        | (exfalso; omega)
        | (refine hE _ _ rfl ⟨fun z => absurd z (by omega), fun _ => ⟨hF2, ?_⟩⟩; rw [h82]; unfold lnP; rw [if_pos (show ¬ (128 ≤ tkM s (s 71 7) ∧ tkM s (s 71 7) ≤ 131) by omega)]; rfl)
        | (refine hE _ _ rfl ⟨fun z => absurd z (by omega), fun _ => ⟨hF2, ?_⟩⟩; rw [h82]; unfold lnP; rw [if_neg (show ¬ ¬ (128 ≤ tkM s (s 71 7) ∧ tkM s (s 71 7) ≤ 131) by omega), if_pos (show s 77 (s 71 11) = 24 by omega)]; rfl)
    · try simp only [ne_eq, b2i_e, b2i_1, Classical.not_not] at h28
      refine R_aload rfl rfl rfl ?_
      refine R_push rfl ?_
      obtain ⟨s2, hev2, hF2, h82⟩ := sp_X10_wrong d (by omega) xs t dd rr s 5 ⟨by omega, by omega⟩ hat hpl
      rw [if_pos h8] at h82
      have h82' : 1 ≤ s2 71 8 := by omega
      refine R_invv rfl rfl rfl rfl rfl rfl (hev2) rfl ?_
      show pCm _ _ _ 36 _ [] _
      refine R_aload rfl rfl rfl ?_
      refine T_geti rfl rfl rfl ?_
      refine R_if rfl (fun h40 => ?_) (fun h40 => ?_)
      · try simp only [ne_eq, b2i_e, b2i_1, Classical.not_not] at h40
        first
        | (exfalso; omega)
        | exact ln_C d xs t dd rr s E k m hT h8 h7 h18 hN (by omega) (by omega) (by omega) (by omega) (fun r1 σ' hr hL => hE r1 σ' hr ⟨fun _ => hL, fun z => absurd (show 128 ≤ tkM s (s 71 7) ∧ tkM s (s 71 7) ≤ 131 ∧ s 77 (s 71 11) ≠ 24 by omega) z⟩)
      · try simp only [ne_eq, b2i_e, b2i_1, Classical.not_not] at h40
        refine R_vret rfl ?_
        first
        | (exfalso; omega)
        | (refine hE _ _ rfl ⟨fun z => absurd z (by omega), fun _ => ⟨hF2, ?_⟩⟩; rw [h82]; unfold lnP; rw [if_pos (show ¬ (128 ≤ tkM s (s 71 7) ∧ tkM s (s 71 7) ≤ 131) by omega)]; rfl)
        | (refine hE _ _ rfl ⟨fun z => absurd z (by omega), fun _ => ⟨hF2, ?_⟩⟩; rw [h82]; unfold lnP; rw [if_neg (show ¬ ¬ (128 ≤ tkM s (s 71 7) ∧ tkM s (s 71 7) ≤ 131) by omega), if_pos (show s 77 (s 71 11) = 24 by omega)]; rfl)
  · try simp only [ne_eq, b2i_e, b2i_1, Classical.not_not] at h6
    refine R_aload rfl rfl rfl ?_
    refine R_push rfl ?_
    obtain ⟨s2, hev2, hF2, h82⟩ := sp_X10_wrong d (by omega) xs t dd rr s 1 ⟨by omega, by omega⟩ hat hpl
    rw [if_pos h8] at h82
    have h82' : 1 ≤ s2 71 8 := by omega
    refine R_invv rfl rfl rfl rfl rfl rfl (hev2) rfl ?_
    show pCm _ _ _ 14 _ [] _
    refine R_goto rfl ?_
    refine R_aload rfl rfl rfl ?_
    refine T_geti rfl rfl rfl ?_
    refine R_if rfl (fun h40 => ?_) (fun h40 => ?_)
    · try simp only [ne_eq, b2i_e, b2i_1, Classical.not_not] at h40
      first
      | (exfalso; omega)
      | exact ln_C d xs t dd rr s E k m hT h8 h7 h18 hN (by omega) (by omega) (by omega) (by omega) (fun r1 σ' hr hL => hE r1 σ' hr ⟨fun _ => hL, fun z => absurd (show 128 ≤ tkM s (s 71 7) ∧ tkM s (s 71 7) ≤ 131 ∧ s 77 (s 71 11) ≠ 24 by omega) z⟩)
    · try simp only [ne_eq, b2i_e, b2i_1, Classical.not_not] at h40
      refine R_vret rfl ?_
      first
      | (exfalso; omega)
      | (refine hE _ _ rfl ⟨fun z => absurd z (by omega), fun _ => ⟨hF2, ?_⟩⟩; rw [h82]; unfold lnP; rw [if_pos (show ¬ (128 ≤ tkM s (s 71 7) ∧ tkM s (s 71 7) ≤ 131) by omega)]; rfl)
      | (refine hE _ _ rfl ⟨fun z => absurd z (by omega), fun _ => ⟨hF2, ?_⟩⟩; rw [h82]; unfold lnP; rw [if_neg (show ¬ ¬ (128 ≤ tkM s (s 71 7) ∧ tkM s (s 71 7) ≤ 131) by omega), if_pos (show s 77 (s 71 11) = 24 by omega)]; rfl)

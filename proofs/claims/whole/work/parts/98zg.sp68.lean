theorem lps_st {tk : Int → Int} {nx : PSt → PSt} {lv : Int} {n : Nat} {s : PSt} (hc : s.2.1 = 0 ∧ lvo (tk s.1) = lv) : lps tk nx lv (n + 1) s = lps tk nx lv n (if (nx (pAd s)).2.1 = 0 then pEm (tk s.1) 0 (nx (pAd s)) else nx (pAd s)) := by
  show (if s.2.1 = 0 ∧ lvo (tk s.1) = lv then _ else _) = _
  rw [if_pos hc]
  by_cases q : (nx (pAd s)).2.1 = 0
  · rw [if_pos q, if_pos q]
  · rw [if_neg q, if_neg q, lps_f q]
/-- what a loop that reads signs of a level keeps -/
def LI (s0 s σ : Sg) (m c0 : Int) (nx : PSt → PSt) (lv : Int) (n : Nat) (S T : PSt) : Prop := RP s σ m c0 S ∧ GR s0 s ∧ lps (tkM σ) nx lv n S = T ∧ (S.2.1 = 0 → m - S.1 ≤ n)
theorem LI_in {s0 s σ : Sg} {m c0 lv : Int} {nx : PSt → PSt} {S : PSt} (hT : TR σ m) (h : RP s σ m c0 S) (g : GR s0 s) : LI s0 s σ m c0 nx lv 1000 S (lps (tkM σ) nx lv 1000 S) := ⟨h, g, rfl, fun q => by
  have := (h.2.2.2.2.2.2 q).1
  have := h.2.2.2.1
  have := hT.1
  omega⟩
/-- the loop goes on -/
theorem LI_go {s0 s2 s4 s5 σ : Sg} {m c0 lv : Int} {nx : PSt → PSt} {n : Nat} {S T : PSt} (hT : TR σ m) (hK : PK nx m) (h : LI s0 s2 σ m c0 nx lv n S T) (hf : S.2.1 = 0) (hl : lvo (tkM σ S.1) = lv) (hlv : 0 ≤ lv) (h5 : RP s5 σ m c0 (if (nx (pAd S)).2.1 = 0 then pEm (tkM σ S.1) 0 (nx (pAd S)) else nx (pAd S))) (g : GR s2 s5) : ∃ n', n = n' + 1 ∧ LI s0 s5 σ m c0 nx lv n' (if (nx (pAd S)).2.1 = 0 then pEm (tkM σ S.1) 0 (nx (pAd S)) else nx (pAd S)) T := by
  obtain ⟨a1, a2, a3, a4⟩ := h
  have h7 := a1.2.2.2.1
  have hi := (a1.2.2.2.2.2.2 hf).1
  have hne : S.1 ≠ m := fun z => by
    rw [z] at hl
    have e : tkM σ m = 0 := by unfold tkM; rw [if_pos hT.2.1]
    rw [e] at hl
    have : lvo 0 = -1 := rfl
    omega
  have hn := a4 hf
  obtain ⟨n', rfl⟩ : ∃ n', n = n' + 1 := ⟨n - 1, by omega⟩
  refine ⟨n', rfl, h5, a2.tr g, by rw [← a3, lps_st ⟨hf, hl⟩], fun q => ?_⟩
  have hk := (hK (pAd S)).2 hf (show 0 ≤ S.1 + 1 by omega) (show S.1 + 1 ≤ m by omega)
  by_cases z : (nx (pAd S)).2.1 = 0
  · rw [if_pos z]
    have := hk.2.2.2.2 z
    have e : (pAd S).1 = S.1 + 1 := rfl
    show m - (nx (pAd S)).1 ≤ n'
    omega
  · rw [if_neg z] at q; exact absurd q z
theorem LI_end {s0 s2 s3 σ : Sg} {m c0 lv : Int} {nx : PSt → PSt} {n : Nat} {S T : PSt} (h : LI s0 s2 σ m c0 nx lv n S T) (hl : ¬ (S.2.1 = 0 ∧ lvo (tkM σ S.1) = lv)) (h3 : RP s3 σ m c0 S) (g : GR s2 s3) : RP s3 σ m c0 T ∧ GR s0 s3 := by
  obtain ⟨a1, a2, a3, a4⟩ := h
  rw [lps_n hl] at a3
  rw [← a3]
  exact ⟨h3, a2.tr g⟩
theorem lv_42 {k : Int} : lvo k = 3 ↔ k = 42 := by unfold lvo; split <;> (try split) <;> (try split) <;> (try split) <;> omega
theorem lv_2 {k : Int} : lvo k = 2 ↔ k = 43 ∨ k = 45 := by unfold lvo; split <;> (try split) <;> (try split) <;> (try split) <;> omega
theorem lv_1 {k : Int} : lvo k = 1 ↔ k = 60 ∨ k = 61 := by unfold lvo; split <;> (try split) <;> (try split) <;> (try split) <;> omega
theorem lv_0 {k : Int} : lvo k = 0 ↔ k = 133 ∨ k = 134 := by unfold lvo; split <;> (try split) <;> (try split) <;> (try split) <;> omega
set_option maxRecDepth 20000 in
set_option maxHeartbeats 2000000 in
theorem sp_X10_term (d : Nat) (hd : 1 ≤ d) (xs : List (Nat × Nat)) (t dd rr : Nat) (σ s : Sg) (D : Nat) (hD : D + 1 ≤ d) (P : PSt → PSt) (dep m c0 : Int) (S : PSt) (hT : TR σ m) (hP : MSp 59 D (P) dep σ m c0) (hK : PK (P) m) (h : RP s σ m c0 S) (hd2 : 3 ≤ d) : ∃ σ', Ev d 58 [(87, 0), (0, dep)] (Wd xs t dd rr s) (8, 0) (Wd xs t dd rr σ') ∧ RP σ' σ m c0 (ch3 (tkM σ) P S) ∧ GR s σ' := by
  obtain ⟨d, rfl⟩ : ∃ e, d = e + 1 := ⟨d - 1, by omega⟩
  have hm := hT.1
  refine evS (nL := 2) (code := k_X10_term) rfl dc_X10_term rfl (fun E hE => ?_)
  show pCm (Ev d) k_X10_term E 0 [(87, 0), (0, dep)] [] _
  refine R_aload rfl rfl rfl ?_
  refine R_iload rfl rfl ?_
  obtain ⟨s1, hev1, hRs1, hGs1⟩ := hP d (by omega) xs t dd rr s S h
  refine R_invv rfl rfl rfl rfl rfl rfl (hev1) rfl ?_
  show pCm _ _ _ 5 _ [] _
  refine loop (pc := 5) (α := Nat × Sg × PSt) (fun x => x.1) (fun x => ([(87, 0), (0, dep)], Wd xs t dd rr x.2.1)) (fun x => LI s x.2.1 σ m c0 (P) 3 x.1 x.2.2 (lps (tkM σ) (P) 3 1000 (P S))) ?_ (1000, s1, P S) ?_
  · intro ⟨n, s2, S2⟩ hL ih
    dsimp only at hL ih ⊢
    have hR2 := hL.1
    have hat : 0 ≤ s2 71 7 ∧ s2 71 7 ≤ 1001 := by have := hR2.2.2.2.1; omega
    have hsg := sg_tk (ch := 42) hT hR2 rfl
    have hlv := lv_42 (k := tkM σ S2.1)
    refine R_aload rfl rfl rfl ?_
    refine R_push rfl ?_
    obtain ⟨s3, hev3, hF3, h73⟩ := sp_X10_hasSign d (by omega) xs t dd rr s2 42 hat
    refine R_invv rfl rfl rfl rfl rfl rfl (hev3) rfl ?_
    show pCm _ _ _ 11 _ [(0, _)] _
    refine R_if rfl (fun h11 => ?_) (fun h11 => ?_)
    · try simp only [ne_eq, b2i_e, b2i_1, Classical.not_not] at h11
      refine R_vret rfl ?_
      obtain ⟨hR3, hG3⟩ := RP_no hR2 hF3 (by omega)
      exact hE _ _ rfl (LI_end hL (fun w => by have := hlv.mp w.2; omega) hR3 hG3)
    · try simp only [ne_eq, b2i_e, b2i_1, Classical.not_not] at h11
      refine R_aload rfl rfl rfl ?_
      refine R_iload rfl rfl ?_
      have hf2 : S2.2.1 = 0 := by omega
      have htk : tkM σ S2.1 = 42 := by omega
      obtain ⟨hR3, hG3⟩ := RP_ad hT hR2 hf2 (by omega) hF3 (by omega)
      obtain ⟨s4, hev4, hRs4, hGs4⟩ := hP d (by omega) xs t dd rr s3 (pAd S2) hR3
      have hroom : s4 71 18 + 1 ≤ s4 71 7 := by
        have a := hR2.2.2.2.2.1
        have b := hGs4.2.2
        have c := hF3.at 71 18 rfl
        omega
      refine R_invv rfl rfl rfl rfl rfl rfl (hev4) rfl ?_
      show pCm _ _ _ 19 _ [] _
      refine R_aload rfl rfl rfl ?_
      refine R_push rfl ?_
      refine R_push rfl ?_
      obtain ⟨s5, hev5, hF5, h518, h583, h584⟩ := sp_X10_emit d (by omega) xs t dd rr s4 5 0 (by rw [hRs4.1.at 71 11 rfl]; exact hT.2.2.2.2.1) ⟨by have := hRs4.2.2.2.2.1; omega, by have := hRs4.2.2.2.2.1; have := hRs4.2.2.2.1; omega⟩
      have hR5' := RP_em (k := tkM σ S2.1) (w := 0) hT hRs4 hroom hF5 h518 h583 h584 (fun _ => ⟨by rw [htk]; rfl, rfl⟩)
      have hG5 : GR s2 s5 := by
        have q1 := hGs4.1
        have q2 := hGs4.2.1
        have q3 := hGs4.2.2
        have q4 := hF3.at 71 18 rfl
        have q5 := hF5.at 71 7 rfl
        exact ⟨by omega, by omega, by omega⟩
      refine R_invv rfl rfl rfl rfl rfl rfl (hev5) rfl ?_
      show pCm _ _ _ 25 _ [] _
      refine R_goto rfl ?_
      obtain ⟨n', rfl, hL'⟩ := LI_go (s4 := s4) hT hK hL hf2 (hlv.mpr htk) (by omega) hR5' hG5
      exact ih (n', s5, _) hL' (by omega)
  · exact LI_in hT hRs1 hGs1
set_option maxRecDepth 20000 in
set_option maxHeartbeats 2000000 in
theorem sp_X10_sum (d : Nat) (hd : 1 ≤ d) (xs : List (Nat × Nat)) (t dd rr : Nat) (σ s : Sg) (D : Nat) (hD : D + 1 ≤ d) (P : PSt → PSt) (dep m c0 : Int) (S : PSt) (hT : TR σ m) (hP : MSp 58 D (ch3 (tkM σ) P) dep σ m c0) (hK : PK (ch3 (tkM σ) P) m) (h : RP s σ m c0 S) (hd2 : 3 ≤ d) : ∃ σ', Ev d 57 [(87, 0), (0, dep)] (Wd xs t dd rr s) (8, 0) (Wd xs t dd rr σ') ∧ RP σ' σ m c0 (ch2 (tkM σ) P S) ∧ GR s σ' := by
  obtain ⟨d, rfl⟩ : ∃ e, d = e + 1 := ⟨d - 1, by omega⟩
  have hm := hT.1
  refine evS (nL := 3) (code := k_X10_sum) rfl dc_X10_sum rfl (fun E hE => ?_)
  show pCm (Ev d) k_X10_sum E 0 [(87, 0), (0, dep), (9, 0)] [] _
  refine R_aload rfl rfl rfl ?_
  refine R_iload rfl rfl ?_
  obtain ⟨s1, hev1, hRs1, hGs1⟩ := hP d (by omega) xs t dd rr s S h
  refine R_invv rfl rfl rfl rfl rfl rfl (hev1) rfl ?_
  show pCm _ _ _ 5 _ [] _
  refine fgt wc_X10_sum [1, 1, 0] ?_
  refine loop (pc := 5) (α := Nat × Sg × PSt) (fun x => x.1) (fun x => ([(87, 0), (0, dep), (9, 0)], Wd xs t dd rr x.2.1)) (fun x => LI s x.2.1 σ m c0 (ch3 (tkM σ) P) 2 x.1 x.2.2 (lps (tkM σ) (ch3 (tkM σ) P) 2 1000 (ch3 (tkM σ) P S))) ?_ (1000, s1, ch3 (tkM σ) P S) ?_
  · intro ⟨n, s2, S2⟩ hL ih
    dsimp only at hL ih ⊢
    have hR2 := hL.1
    have hat : 0 ≤ s2 71 7 ∧ s2 71 7 ≤ 1001 := by have := hR2.2.2.2.1; omega
    have hsg1 := sg_tk (ch := 43) hT hR2 rfl
    have hsg2 := sg_tk (ch := 45) hT hR2 rfl
    have hlv := lv_2 (k := tkM σ S2.1)
    refine R_aload rfl rfl rfl ?_
    refine R_push rfl ?_
    refine R_invv rfl rfl rfl rfl rfl rfl (sp_X10_isSign d (by omega) xs t dd rr s2 43 hat) rfl ?_
    show pCm _ _ _ 11 _ [(0, _)] _
    refine R_if rfl (fun h11 => ?_) (fun h11 => ?_)
    · try simp only [ne_eq, b2i_e, b2i_1, Classical.not_not] at h11
      refine R_aload rfl rfl rfl ?_
      refine R_push rfl ?_
      refine R_invv rfl rfl rfl rfl rfl rfl (sp_X10_isSign d (by omega) xs t dd rr s2 43 hat) rfl ?_
      show pCm _ _ _ 29 _ [(0, _)] _
      refine R_istore rfl rfl ?_
      refine R_aload rfl rfl rfl ?_
      refine R_dup rfl rfl ?_
      refine T_geti rfl rfl rfl ?_
      refine R_push rfl ?_
      refine R_add rfl (by omega) (by omega) ?_
      refine T_puti rfl rfl rfl ?_
      generalize hs3 : up2 s2 71 7 (s2 71 7 + 1) = s3
      have hF3 : Fr [] [(71, 7)] s2 s3 := by rw [← hs3]; exact Fr.rf.up rfl
      have h73 : s3 71 7 = s2 71 7 + 1 := by rw [← hs3]; simp [up2]
      have hf2 : S2.2.1 = 0 := by omega
      obtain ⟨hR3, hG3⟩ := RP_ad hT hR2 hf2 (by omega) hF3 h73
      refine R_aload rfl rfl rfl ?_
      refine R_iload rfl rfl ?_
      obtain ⟨s4, hev4, hRs4, hGs4⟩ := hP d (by omega) xs t dd rr s3 (pAd S2) hR3
      have hroom : s4 71 18 + 1 ≤ s4 71 7 := by
        have a := hR2.2.2.2.2.1
        have b := hGs4.2.2
        have c := hF3.at 71 18 rfl
        omega
      refine R_invv rfl rfl rfl rfl rfl rfl (hev4) rfl ?_
      show pCm _ _ _ 45 _ [] _
      have J57 : ∀ v : Int, (tkM σ S2.1 = 43 → v = 6) → (tkM σ S2.1 = 45 → v = 7) → pCm (Ev d) k_X10_sum E 57 [(87, 0), (0, dep), (0, sgM s2 43)] [(0, v), (87, 0)] (Wd xs t dd rr s4) := by
        intro v hv1 hv2
        refine R_push rfl ?_
        obtain ⟨s5, hev5, hF5, h518, h583, h584⟩ := sp_X10_emit d (by omega) xs t dd rr s4 v 0 (by rw [hRs4.1.at 71 11 rfl]; exact hT.2.2.2.2.1) ⟨by have := hRs4.2.2.2.2.1; omega, by have := hRs4.2.2.2.2.1; have := hRs4.2.2.2.1; omega⟩
        have hR5' := RP_em (k := tkM σ S2.1) (w := 0) hT hRs4 hroom hF5 h518 h583 h584 (fun _ => ⟨by
          have hkk : tkM σ S2.1 = 43 ∨ tkM σ S2.1 = 45 := by omega
          rcases hkk with z | z
          · rw [z, hv1 z]; rfl
          · rw [z, hv2 z]; rfl, rfl⟩)
        have hG5 : GR s2 s5 := by
          have q1 := hGs4.1
          have q2 := hGs4.2.1
          have q3 := hGs4.2.2
          have q4 := hF3.at 71 18 rfl
          have q5 := hF5.at 71 7 rfl
          exact ⟨by omega, by omega, by omega⟩
        refine R_invv rfl rfl rfl rfl rfl rfl (hev5) rfl ?_
        show pCm _ _ _ 61 _ [] _
        refine R_goto rfl ?_
        refine fgt wc_X10_sum [1, 1, 0] ?_
        obtain ⟨n', rfl, hL'⟩ := LI_go (s4 := s4) hT hK hL hf2 (hlv.mpr (by omega)) (by omega) hR5' hG5
        exact ih (n', s5, _) hL' (by omega)
      refine R_aload rfl rfl rfl ?_
      refine R_iload rfl rfl ?_
      refine R_if rfl (fun h47 => ?_) (fun h47 => ?_)
      · try simp only [ne_eq, b2i_e, b2i_1, Classical.not_not] at h47
        refine R_push rfl ?_
        exact J57 _ (by omega) (by omega)
      · try simp only [ne_eq, b2i_e, b2i_1, Classical.not_not] at h47
        refine R_push rfl ?_
        refine R_goto rfl ?_
        exact J57 _ (by omega) (by omega)
    · try simp only [ne_eq, b2i_e, b2i_1, Classical.not_not] at h11
      refine R_aload rfl rfl rfl ?_
      refine R_push rfl ?_
      refine R_invv rfl rfl rfl rfl rfl rfl (sp_X10_isSign d (by omega) xs t dd rr s2 45 hat) rfl ?_
      show pCm _ _ _ 20 _ [(0, _)] _
      refine R_if rfl (fun h20 => ?_) (fun h20 => ?_)
      · try simp only [ne_eq, b2i_e, b2i_1, Classical.not_not] at h20
        refine R_vret rfl ?_
        exact hE _ _ rfl (LI_end hL (fun w => by have := hlv.mp w.2; omega) hR2 GR.rf)
      · try simp only [ne_eq, b2i_e, b2i_1, Classical.not_not] at h20
        refine R_aload rfl rfl rfl ?_
        refine R_push rfl ?_
        refine R_invv rfl rfl rfl rfl rfl rfl (sp_X10_isSign d (by omega) xs t dd rr s2 43 hat) rfl ?_
        show pCm _ _ _ 29 _ [(0, _)] _
        refine R_istore rfl rfl ?_
        refine R_aload rfl rfl rfl ?_
        refine R_dup rfl rfl ?_
        refine T_geti rfl rfl rfl ?_
        refine R_push rfl ?_
        refine R_add rfl (by omega) (by omega) ?_
        refine T_puti rfl rfl rfl ?_
        generalize hs3 : up2 s2 71 7 (s2 71 7 + 1) = s3
        have hF3 : Fr [] [(71, 7)] s2 s3 := by rw [← hs3]; exact Fr.rf.up rfl
        have h73 : s3 71 7 = s2 71 7 + 1 := by rw [← hs3]; simp [up2]
        have hf2 : S2.2.1 = 0 := by omega
        obtain ⟨hR3, hG3⟩ := RP_ad hT hR2 hf2 (by omega) hF3 h73
        refine R_aload rfl rfl rfl ?_
        refine R_iload rfl rfl ?_
        obtain ⟨s4, hev4, hRs4, hGs4⟩ := hP d (by omega) xs t dd rr s3 (pAd S2) hR3
        have hroom : s4 71 18 + 1 ≤ s4 71 7 := by
          have a := hR2.2.2.2.2.1
          have b := hGs4.2.2
          have c := hF3.at 71 18 rfl
          omega
        refine R_invv rfl rfl rfl rfl rfl rfl (hev4) rfl ?_
        show pCm _ _ _ 45 _ [] _
        have J57 : ∀ v : Int, (tkM σ S2.1 = 43 → v = 6) → (tkM σ S2.1 = 45 → v = 7) → pCm (Ev d) k_X10_sum E 57 [(87, 0), (0, dep), (0, sgM s2 43)] [(0, v), (87, 0)] (Wd xs t dd rr s4) := by
          intro v hv1 hv2
          refine R_push rfl ?_
          obtain ⟨s5, hev5, hF5, h518, h583, h584⟩ := sp_X10_emit d (by omega) xs t dd rr s4 v 0 (by rw [hRs4.1.at 71 11 rfl]; exact hT.2.2.2.2.1) ⟨by have := hRs4.2.2.2.2.1; omega, by have := hRs4.2.2.2.2.1; have := hRs4.2.2.2.1; omega⟩
          have hR5' := RP_em (k := tkM σ S2.1) (w := 0) hT hRs4 hroom hF5 h518 h583 h584 (fun _ => ⟨by
            have hkk : tkM σ S2.1 = 43 ∨ tkM σ S2.1 = 45 := by omega
            rcases hkk with z | z
            · rw [z, hv1 z]; rfl
            · rw [z, hv2 z]; rfl, rfl⟩)
          have hG5 : GR s2 s5 := by
            have q1 := hGs4.1
            have q2 := hGs4.2.1
            have q3 := hGs4.2.2
            have q4 := hF3.at 71 18 rfl
            have q5 := hF5.at 71 7 rfl
            exact ⟨by omega, by omega, by omega⟩
          refine R_invv rfl rfl rfl rfl rfl rfl (hev5) rfl ?_
          show pCm _ _ _ 61 _ [] _
          refine R_goto rfl ?_
          refine fgt wc_X10_sum [1, 1, 0] ?_
          obtain ⟨n', rfl, hL'⟩ := LI_go (s4 := s4) hT hK hL hf2 (hlv.mpr (by omega)) (by omega) hR5' hG5
          exact ih (n', s5, _) hL' (by omega)
        refine R_aload rfl rfl rfl ?_
        refine R_iload rfl rfl ?_
        refine R_if rfl (fun h47 => ?_) (fun h47 => ?_)
        · try simp only [ne_eq, b2i_e, b2i_1, Classical.not_not] at h47
          refine R_push rfl ?_
          exact J57 _ (by omega) (by omega)
        · try simp only [ne_eq, b2i_e, b2i_1, Classical.not_not] at h47
          refine R_push rfl ?_
          refine R_goto rfl ?_
          exact J57 _ (by omega) (by omega)
  · exact LI_in hT hRs1 hGs1
set_option maxRecDepth 20000 in
set_option maxHeartbeats 2000000 in
theorem sp_X10_all (d : Nat) (hd : 1 ≤ d) (xs : List (Nat × Nat)) (t dd rr : Nat) (σ s : Sg) (D : Nat) (hD : D + 1 ≤ d) (P : PSt → PSt) (dep m c0 : Int) (S : PSt) (hT : TR σ m) (hP : MSp 56 D (ch1 (tkM σ) P) dep σ m c0) (hK : PK (ch1 (tkM σ) P) m) (h : RP s σ m c0 S) (hd2 : 3 ≤ d) : ∃ σ', Ev d 55 [(87, 0), (0, dep)] (Wd xs t dd rr s) (8, 0) (Wd xs t dd rr σ') ∧ RP σ' σ m c0 (ch0 (tkM σ) P S) ∧ GR s σ' := by
  obtain ⟨d, rfl⟩ : ∃ e, d = e + 1 := ⟨d - 1, by omega⟩
  have hm := hT.1
  refine evS (nL := 3) (code := k_X10_all) rfl dc_X10_all rfl (fun E hE => ?_)
  show pCm (Ev d) k_X10_all E 0 [(87, 0), (0, dep), (9, 0)] [] _
  refine R_aload rfl rfl rfl ?_
  refine R_iload rfl rfl ?_
  obtain ⟨s1, hev1, hRs1, hGs1⟩ := hP d (by omega) xs t dd rr s S h
  refine R_invv rfl rfl rfl rfl rfl rfl (hev1) rfl ?_
  show pCm _ _ _ 5 _ [] _
  refine fgt wc_X10_all [1, 1, 0] ?_
  refine loop (pc := 5) (α := Nat × Sg × PSt) (fun x => x.1) (fun x => ([(87, 0), (0, dep), (9, 0)], Wd xs t dd rr x.2.1)) (fun x => LI s x.2.1 σ m c0 (ch1 (tkM σ) P) 0 x.1 x.2.2 (lps (tkM σ) (ch1 (tkM σ) P) 0 1000 (ch1 (tkM σ) P S))) ?_ (1000, s1, ch1 (tkM σ) P S) ?_
  · intro ⟨n, s2, S2⟩ hL ih
    dsimp only at hL ih ⊢
    have hR2 := hL.1
    have hat : 0 ≤ s2 71 7 ∧ s2 71 7 ≤ 1001 := by have := hR2.2.2.2.1; omega
    have hsg1 := wo_tk (w := 5) hT hR2 ⟨by omega, by omega⟩
    have hsg2 := wo_tk (w := 6) hT hR2 ⟨by omega, by omega⟩
    have hlv := lv_0 (k := tkM σ S2.1)
    refine R_aload rfl rfl rfl ?_
    refine R_push rfl ?_
    refine R_invv rfl rfl rfl rfl rfl rfl (sp_X10_isWord d (by omega) xs t dd rr s2 5 ⟨by omega, by omega⟩ hat) rfl ?_
    show pCm _ _ _ 10 _ [(0, _)] _
    refine R_if rfl (fun h10 => ?_) (fun h10 => ?_)
    · try simp only [ne_eq, b2i_e, b2i_1, Classical.not_not] at h10
      refine R_aload rfl rfl rfl ?_
      refine R_push rfl ?_
      refine R_invv rfl rfl rfl rfl rfl rfl (sp_X10_isWord d (by omega) xs t dd rr s2 5 ⟨by omega, by omega⟩ hat) rfl ?_
      show pCm _ _ _ 27 _ [(0, _)] _
      refine R_istore rfl rfl ?_
      refine R_aload rfl rfl rfl ?_
      refine R_dup rfl rfl ?_
      refine T_geti rfl rfl rfl ?_
      refine R_push rfl ?_
      refine R_add rfl (by omega) (by omega) ?_
      refine T_puti rfl rfl rfl ?_
      generalize hs3 : up2 s2 71 7 (s2 71 7 + 1) = s3
      have hF3 : Fr [] [(71, 7)] s2 s3 := by rw [← hs3]; exact Fr.rf.up rfl
      have h73 : s3 71 7 = s2 71 7 + 1 := by rw [← hs3]; simp [up2]
      have hf2 : S2.2.1 = 0 := by omega
      obtain ⟨hR3, hG3⟩ := RP_ad hT hR2 hf2 (by omega) hF3 h73
      refine R_aload rfl rfl rfl ?_
      refine R_iload rfl rfl ?_
      obtain ⟨s4, hev4, hRs4, hGs4⟩ := hP d (by omega) xs t dd rr s3 (pAd S2) hR3
      have hroom : s4 71 18 + 1 ≤ s4 71 7 := by
        have a := hR2.2.2.2.2.1
        have b := hGs4.2.2
        have c := hF3.at 71 18 rfl
        omega
      refine R_invv rfl rfl rfl rfl rfl rfl (hev4) rfl ?_
      show pCm _ _ _ 43 _ [] _
      have J55 : ∀ v : Int, (tkM σ S2.1 = 133 → v = 10) → (tkM σ S2.1 = 134 → v = 11) → pCm (Ev d) k_X10_all E 55 [(87, 0), (0, dep), (0, woM s2 5)] [(0, v), (87, 0)] (Wd xs t dd rr s4) := by
        intro v hv1 hv2
        refine R_push rfl ?_
        obtain ⟨s5, hev5, hF5, h518, h583, h584⟩ := sp_X10_emit d (by omega) xs t dd rr s4 v 0 (by rw [hRs4.1.at 71 11 rfl]; exact hT.2.2.2.2.1) ⟨by have := hRs4.2.2.2.2.1; omega, by have := hRs4.2.2.2.2.1; have := hRs4.2.2.2.1; omega⟩
        have hR5' := RP_em (k := tkM σ S2.1) (w := 0) hT hRs4 hroom hF5 h518 h583 h584 (fun _ => ⟨by
          have hkk : tkM σ S2.1 = 133 ∨ tkM σ S2.1 = 134 := by omega
          rcases hkk with z | z
          · rw [z, hv1 z]; rfl
          · rw [z, hv2 z]; rfl, rfl⟩)
        have hG5 : GR s2 s5 := by
          have q1 := hGs4.1
          have q2 := hGs4.2.1
          have q3 := hGs4.2.2
          have q4 := hF3.at 71 18 rfl
          have q5 := hF5.at 71 7 rfl
          exact ⟨by omega, by omega, by omega⟩
        refine R_invv rfl rfl rfl rfl rfl rfl (hev5) rfl ?_
        show pCm _ _ _ 59 _ [] _
        refine R_goto rfl ?_
        refine fgt wc_X10_all [1, 1, 0] ?_
        obtain ⟨n', rfl, hL'⟩ := LI_go (s4 := s4) hT hK hL hf2 (hlv.mpr (by omega)) (by omega) hR5' hG5
        exact ih (n', s5, _) hL' (by omega)
      refine R_aload rfl rfl rfl ?_
      refine R_iload rfl rfl ?_
      refine R_if rfl (fun h45 => ?_) (fun h45 => ?_)
      · try simp only [ne_eq, b2i_e, b2i_1, Classical.not_not] at h45
        refine R_push rfl ?_
        exact J55 _ (by omega) (by omega)
      · try simp only [ne_eq, b2i_e, b2i_1, Classical.not_not] at h45
        refine R_push rfl ?_
        refine R_goto rfl ?_
        exact J55 _ (by omega) (by omega)
    · try simp only [ne_eq, b2i_e, b2i_1, Classical.not_not] at h10
      refine R_aload rfl rfl rfl ?_
      refine R_push rfl ?_
      refine R_invv rfl rfl rfl rfl rfl rfl (sp_X10_isWord d (by omega) xs t dd rr s2 6 ⟨by omega, by omega⟩ hat) rfl ?_
      show pCm _ _ _ 19 _ [(0, _)] _
      refine R_if rfl (fun h19 => ?_) (fun h19 => ?_)
      · try simp only [ne_eq, b2i_e, b2i_1, Classical.not_not] at h19
        refine R_vret rfl ?_
        exact hE _ _ rfl (LI_end hL (fun w => by have := hlv.mp w.2; omega) hR2 GR.rf)
      · try simp only [ne_eq, b2i_e, b2i_1, Classical.not_not] at h19
        refine R_aload rfl rfl rfl ?_
        refine R_push rfl ?_
        refine R_invv rfl rfl rfl rfl rfl rfl (sp_X10_isWord d (by omega) xs t dd rr s2 5 ⟨by omega, by omega⟩ hat) rfl ?_
        show pCm _ _ _ 27 _ [(0, _)] _
        refine R_istore rfl rfl ?_
        refine R_aload rfl rfl rfl ?_
        refine R_dup rfl rfl ?_
        refine T_geti rfl rfl rfl ?_
        refine R_push rfl ?_
        refine R_add rfl (by omega) (by omega) ?_
        refine T_puti rfl rfl rfl ?_
        generalize hs3 : up2 s2 71 7 (s2 71 7 + 1) = s3
        have hF3 : Fr [] [(71, 7)] s2 s3 := by rw [← hs3]; exact Fr.rf.up rfl
        have h73 : s3 71 7 = s2 71 7 + 1 := by rw [← hs3]; simp [up2]
        have hf2 : S2.2.1 = 0 := by omega
        obtain ⟨hR3, hG3⟩ := RP_ad hT hR2 hf2 (by omega) hF3 h73
        refine R_aload rfl rfl rfl ?_
        refine R_iload rfl rfl ?_
        obtain ⟨s4, hev4, hRs4, hGs4⟩ := hP d (by omega) xs t dd rr s3 (pAd S2) hR3
        have hroom : s4 71 18 + 1 ≤ s4 71 7 := by
          have a := hR2.2.2.2.2.1
          have b := hGs4.2.2
          have c := hF3.at 71 18 rfl
          omega
        refine R_invv rfl rfl rfl rfl rfl rfl (hev4) rfl ?_
        show pCm _ _ _ 43 _ [] _
        have J55 : ∀ v : Int, (tkM σ S2.1 = 133 → v = 10) → (tkM σ S2.1 = 134 → v = 11) → pCm (Ev d) k_X10_all E 55 [(87, 0), (0, dep), (0, woM s2 5)] [(0, v), (87, 0)] (Wd xs t dd rr s4) := by
          intro v hv1 hv2
          refine R_push rfl ?_
          obtain ⟨s5, hev5, hF5, h518, h583, h584⟩ := sp_X10_emit d (by omega) xs t dd rr s4 v 0 (by rw [hRs4.1.at 71 11 rfl]; exact hT.2.2.2.2.1) ⟨by have := hRs4.2.2.2.2.1; omega, by have := hRs4.2.2.2.2.1; have := hRs4.2.2.2.1; omega⟩
          have hR5' := RP_em (k := tkM σ S2.1) (w := 0) hT hRs4 hroom hF5 h518 h583 h584 (fun _ => ⟨by
            have hkk : tkM σ S2.1 = 133 ∨ tkM σ S2.1 = 134 := by omega
            rcases hkk with z | z
            · rw [z, hv1 z]; rfl
            · rw [z, hv2 z]; rfl, rfl⟩)
          have hG5 : GR s2 s5 := by
            have q1 := hGs4.1
            have q2 := hGs4.2.1
            have q3 := hGs4.2.2
            have q4 := hF3.at 71 18 rfl
            have q5 := hF5.at 71 7 rfl
            exact ⟨by omega, by omega, by omega⟩
          refine R_invv rfl rfl rfl rfl rfl rfl (hev5) rfl ?_
          show pCm _ _ _ 59 _ [] _
          refine R_goto rfl ?_
          refine fgt wc_X10_all [1, 1, 0] ?_
          obtain ⟨n', rfl, hL'⟩ := LI_go (s4 := s4) hT hK hL hf2 (hlv.mpr (by omega)) (by omega) hR5' hG5
          exact ih (n', s5, _) hL' (by omega)
        refine R_aload rfl rfl rfl ?_
        refine R_iload rfl rfl ?_
        refine R_if rfl (fun h45 => ?_) (fun h45 => ?_)
        · try simp only [ne_eq, b2i_e, b2i_1, Classical.not_not] at h45
          refine R_push rfl ?_
          exact J55 _ (by omega) (by omega)
        · try simp only [ne_eq, b2i_e, b2i_1, Classical.not_not] at h45
          refine R_push rfl ?_
          refine R_goto rfl ?_
          exact J55 _ (by omega) (by omega)
  · exact LI_in hT hRs1 hGs1

theorem lps_1 {tk : Int → Int} {nx : PSt → PSt} {lv : Int} {s : PSt} : lps tk nx lv 1 s = if s.2.1 = 0 ∧ lvo (tk s.1) = lv then (if (nx (pAd s)).2.1 = 0 then pEm (tk s.1) 0 (nx (pAd s)) else nx (pAd s)) else s := rfl
/-- a sign was asked for -/
theorem RP_ts {s s' σ : Sg} {m c0 ch : Int} {S : PSt} (hT : TR σ m) (h : RP s σ m c0 S) (hc : isG ch = 1) (hF : Fr [] [(71, 7), (71, 8)] s s') (h7 : s' 71 7 = s 71 7 + sgM s ch) (h8 : s' 71 8 = if sgM s ch = 1 then s 71 8 else if s 71 8 = 0 then 1 + 16 * s 74 (s 71 7) else s 71 8) : RP s' σ m c0 (if S.2.1 ≠ 0 then S else if tkM σ S.1 = ch then pAd S else pEr (σ 74) 1 S) ∧ GR s s' := by
  have hsg := sg_tk hT h hc
  have hcb : 40 ≤ ch ∧ ch ≤ 61 := by unfold isG b2i at hc; split at hc <;> omega
  obtain ⟨a1, a2, a3, a4, a5, a6, a7⟩ := h
  have hp := (hT.2.2.1 (s 71 7) a4.1 a4.2).2.1
  have h18 := hF.at 71 18 rfl
  have hfr : Fp σ s' := a1.tr hF rfl rfl
  have hout : ∀ x, x < 1100 * σ 71 11 + c0 ∨ 1100 * (σ 71 11 + 1) ≤ x → s' 83 x = σ 83 x ∧ s' 84 x = σ 84 x := fun x hx => by rw [hF.row 83 rfl, hF.row 84 rfl]; exact a6 x hx
  rw [a1.row 74 rfl] at h8
  by_cases q : S.2.1 = 0
  · rw [if_neg (by omega)]
    obtain ⟨b1, b2, b3⟩ := a7 q
    by_cases z : tkM σ S.1 = ch
    · rw [if_pos z]
      have hs1 : sgM s ch = 1 := by omega
      have hne : S.1 ≠ m := fun y => by
        have e : tkM σ m = 0 := by unfold tkM; rw [if_pos hT.2.1]
        rw [y, e] at z; omega
      rw [if_pos hs1] at h8
      refine ⟨⟨hfr, by rw [h8]; exact a2, a3, by omega, by omega, hout, fun _ => ⟨by rw [h7, hs1, b1]; rfl, by rw [h18]; exact b2, fun y y0 y1 => by rw [hF.row 83 rfl, hF.row 84 rfl]; exact b3 y y0 y1⟩⟩, by omega, by omega, by omega⟩
    · rw [if_neg z]
      have hs0 : sgM s ch = 0 := by omega
      rw [if_neg (by omega), if_pos (by omega)] at h8
      refine ⟨⟨hfr, by rw [h8, b1]; rfl, by show 0 ≤ 1 + 16 * σ 74 S.1; rw [← b1]; omega, by omega, by omega, hout, fun y => ?_⟩, by omega, by omega, by omega⟩
      have y : 1 + 16 * σ 74 S.1 = 0 := y
      rw [← b1] at y
      omega
  · rw [if_pos q]
    have hs0 : sgM s ch = 0 := by omega
    rw [if_neg (by omega), if_neg (by omega)] at h8
    exact ⟨⟨hfr, by rw [h8]; exact a2, a3, by omega, by omega, hout, fun z => absurd z q⟩, by omega, by omega, by omega⟩
/-- a plain part was written, and its token taken -/
theorem RP_pl {s s1 s2 σ : Sg} {m c0 a b k w : Int} {S : PSt} (hT : TR σ m) (h : RP s σ m c0 S) (hf : S.2.1 = 0) (hk : tkM σ S.1 ≠ 0) (hF : Fr [83, 84] [(71, 18)] s s1) (h18 : s1 71 18 = s 71 18 + 1) (h83 : ∀ x, s1 83 x = if x = 1100 * s 71 11 + s 71 18 then a else s 83 x) (h84 : ∀ x, s1 84 x = if x = 1100 * s 71 11 + s 71 18 then b else s 84 x) (ha : a = opOf k) (hb : b = w) (hF2 : Fr [] [(71, 7)] s1 s2) (h7 : s2 71 7 = s1 71 7 + 1) : RP s2 σ m c0 (pEm k w (pAd S)) ∧ GR s s2 := by
  obtain ⟨a1, a2, a3, a4, a5, a6, a7⟩ := h
  have e11 : s 71 11 = σ 71 11 := a1.at 71 11 rfl
  rw [e11] at h83 h84
  have hm := hT.1
  have hnx := hT.2.2.2.2.1
  obtain ⟨b1, b2, b3⟩ := a7 hf
  have hne : S.1 ≠ m := fun z => hk (by rw [z]; unfold tkM; rw [if_pos hT.2.1])
  have e7 := hF.at 71 7 rfl
  have e18 := hF2.at 71 18 rfl
  have hfr : Fp σ s2 := (a1.tr (r3 := [83, 84]) (s3 := [(71, 7), (71, 8), (71, 18)]) hF rfl rfl).tr hF2 rfl rfl
  refine ⟨⟨hfr, by rw [hF2.at 71 8 rfl, hF.at 71 8 rfl]; exact a2, a3, by omega, by omega, fun x hx => ?_, fun _ => ⟨by rw [h7, e7, b1]; rfl, by rw [e18, h18, b2]; show c0 + S.2.2.1 + 1 = c0 + (S.2.2.1 + 1); omega, fun y y0 y1 => ?_⟩⟩, by omega, by omega, by omega⟩
  · rw [hF2.row 83 rfl, hF2.row 84 rfl, h83, h84, if_neg (by omega), if_neg (by omega)]; exact a6 x hx
  · have y1 : y < S.2.2.1 + 1 := y1
    show s2 83 (1100 * σ 71 11 + c0 + y) = opOf (fup S.2.2.2.1 S.2.2.1 k y) ∧ s2 84 (1100 * σ 71 11 + c0 + y) = fup S.2.2.2.2 S.2.2.1 w y
    rw [hF2.row 83 rfl, hF2.row 84 rfl]
    by_cases z : y = S.2.2.1
    · rw [h83, h84, if_pos (by omega), if_pos (by omega), z, fup_s, fup_s]; exact ⟨ha, hb⟩
    · rw [h83, h84, if_neg (by omega), if_neg (by omega), fup_o z, fup_o z]; exact b3 y y0 (by omega)
set_option maxRecDepth 20000 in
set_option maxHeartbeats 2000000 in
theorem sp_X10_test (d : Nat) (hd : 1 ≤ d) (xs : List (Nat × Nat)) (t dd rr : Nat) (σ s : Sg) (D : Nat) (hD : D + 1 ≤ d) (P : PSt → PSt) (dep m c0 : Int) (S : PSt) (hT : TR σ m) (hP : MSp 57 D (ch2 (tkM σ) P) dep σ m c0) (hK : PK (ch2 (tkM σ) P) m) (h : RP s σ m c0 S) (hd2 : 3 ≤ d) : ∃ σ', Ev d 56 [(87, 0), (0, dep)] (Wd xs t dd rr s) (8, 0) (Wd xs t dd rr σ') ∧ RP σ' σ m c0 (ch1 (tkM σ) P S) ∧ GR s σ' := by
  obtain ⟨d, rfl⟩ : ∃ e, d = e + 1 := ⟨d - 1, by omega⟩
  have hm := hT.1
  have hc1 : ch1 (tkM σ) P S = _ := lps_1
  refine evS (nL := 3) (code := k_X10_test) rfl dc_X10_test rfl (fun E hE => ?_)
  show pCm (Ev d) k_X10_test E 0 [(87, 0), (0, dep), (9, 0)] [] _
  refine R_aload rfl rfl rfl ?_
  refine R_iload rfl rfl ?_
  obtain ⟨s1, hev1, hRs1, hGs1⟩ := hP d (by omega) xs t dd rr s S h
  have hat : 0 ≤ s1 71 7 ∧ s1 71 7 ≤ 1001 := by have := hRs1.2.2.2.1; omega
  have hsg1 := sg_tk (ch := 60) hT hRs1 rfl
  have hlv := lv_1 (k := tkM σ (ch2 (tkM σ) P S).1)
  refine R_invv rfl rfl rfl rfl rfl rfl (hev1) rfl ?_
  show pCm _ _ _ 5 _ [] _
  refine R_aload rfl rfl rfl ?_
  refine R_push rfl ?_
  refine R_invv rfl rfl rfl rfl rfl rfl (sp_X10_isSign d (by omega) xs t dd rr s1 60 hat) rfl ?_
  show pCm _ _ _ 11 _ [(0, _)] _
  refine R_istore rfl rfl ?_
  have J30 : ∀ s3 : Sg, Fr [] [(71, 7)] s1 s3 → s3 71 7 = s1 71 7 + 1 → (ch2 (tkM σ) P S).2.1 = 0 → (tkM σ (ch2 (tkM σ) P S).1 = 60 ∨ tkM σ (ch2 (tkM σ) P S).1 = 61) → pCm (Ev d) k_X10_test E 30 [(87, 0), (0, dep), (0, sgM s1 60)] [] (Wd xs t dd rr s3) := by
    intro s3 hF3 h73 hf2 htk
    obtain ⟨hR3, hG3⟩ := RP_ad hT hRs1 hf2 (by omega) hF3 h73
    refine R_aload rfl rfl rfl ?_
    refine R_iload rfl rfl ?_
    obtain ⟨s4, hev4, hRs4, hGs4⟩ := hP d (by omega) xs t dd rr s3 (pAd (ch2 (tkM σ) P S)) hR3
    have hroom : s4 71 18 + 1 ≤ s4 71 7 := by
      have a := hRs1.2.2.2.2.1
      have b := hGs4.2.2
      have c := hF3.at 71 18 rfl
      omega
    refine R_invv rfl rfl rfl rfl rfl rfl (hev4) rfl ?_
    show pCm _ _ _ 35 _ [] _
    have J47 : ∀ v : Int, (tkM σ (ch2 (tkM σ) P S).1 = 60 → v = 8) → (tkM σ (ch2 (tkM σ) P S).1 = 61 → v = 9) → pCm (Ev d) k_X10_test E 47 [(87, 0), (0, dep), (0, sgM s1 60)] [(0, v), (87, 0)] (Wd xs t dd rr s4) := by
      intro v hv1 hv2
      refine R_push rfl ?_
      obtain ⟨s5, hev5, hF5, h518, h583, h584⟩ := sp_X10_emit d (by omega) xs t dd rr s4 v 0 (by rw [hRs4.1.at 71 11 rfl]; exact hT.2.2.2.2.1) ⟨by have := hRs4.2.2.2.2.1; omega, by have := hRs4.2.2.2.2.1; have := hRs4.2.2.2.1; omega⟩
      have hR5' := RP_em (k := tkM σ (ch2 (tkM σ) P S).1) (w := 0) hT hRs4 hroom hF5 h518 h583 h584 (fun _ => ⟨by
        rcases htk with z | z
        · rw [z, hv1 z]; rfl
        · rw [z, hv2 z]; rfl, rfl⟩)
      have hG5 : GR s1 s5 := by
        have q1 := hGs4.1
        have q2 := hGs4.2.1
        have q3 := hGs4.2.2
        have q4 := hF3.at 71 18 rfl
        have q5 := hF5.at 71 7 rfl
        exact ⟨by omega, by omega, by omega⟩
      refine R_invv rfl rfl rfl rfl rfl rfl (hev5) rfl ?_
      show pCm _ _ _ 51 _ [] _
      refine R_vret rfl ?_
      first
      | exact hE _ _ rfl ⟨by rw [hc1, if_pos ⟨hf2, hlv.mpr htk⟩]; exact hR5', hGs1.tr hG5⟩
      | (obtain ⟨hR2b, hG2b⟩ := RP_no hR2 hF2b (by omega)
         exact hE _ _ rfl ⟨by rw [hc1, if_neg (fun w => by have := hlv.mp w.2; omega)]; exact hR2b, (hGs1.tr hG2).tr hG2b⟩)
    refine R_aload rfl rfl rfl ?_
    refine R_iload rfl rfl ?_
    refine R_if rfl (fun h37 => ?_) (fun h37 => ?_)
    · try simp only [ne_eq, b2i_e, b2i_1, Classical.not_not] at h37
      refine R_push rfl ?_
      exact J47 _ (by omega) (by omega)
    · try simp only [ne_eq, b2i_e, b2i_1, Classical.not_not] at h37
      refine R_push rfl ?_
      refine R_goto rfl ?_
      exact J47 _ (by omega) (by omega)
  refine R_aload rfl rfl rfl ?_
  refine R_push rfl ?_
  obtain ⟨s2, hev2, hF2, h72⟩ := sp_X10_hasSign d (by omega) xs t dd rr s1 60 hat
  refine R_invv rfl rfl rfl rfl rfl rfl (hev2) rfl ?_
  show pCm _ _ _ 18 _ [(0, _)] _
  refine R_if rfl (fun h18 => ?_) (fun h18 => ?_)
  · try simp only [ne_eq, b2i_e, b2i_1, Classical.not_not] at h18
    first
    | (exfalso; omega)
    | exact J30 _ hF2 (by omega) (by omega) (by omega)
    | exact J30 _ (hF2.tr (r3 := []) (s3 := [(71, 7)]) hF2b rfl rfl) (by omega) (by omega) (by omega)
  · try simp only [ne_eq, b2i_e, b2i_1, Classical.not_not] at h18
    refine R_aload rfl rfl rfl ?_
    refine R_push rfl ?_
    obtain ⟨hR2, hG2⟩ := RP_no hRs1 hF2 (by omega)
    have hsg2 := sg_tk (ch := 61) hT hR2 rfl
    obtain ⟨s2b, hev2b, hF2b, h72b⟩ := sp_X10_hasSign d (by omega) xs t dd rr s2 61 (by omega)
    refine R_invv rfl rfl rfl rfl rfl rfl (hev2b) rfl ?_
    show pCm _ _ _ 27 _ [(0, _)] _
    refine R_if rfl (fun h27 => ?_) (fun h27 => ?_)
    · try simp only [ne_eq, b2i_e, b2i_1, Classical.not_not] at h27
      refine R_vret rfl ?_
      first
      | exact hE _ _ rfl ⟨by rw [hc1, if_pos ⟨hf2, hlv.mpr htk⟩]; exact hR5', hGs1.tr hG5⟩
      | (obtain ⟨hR2b, hG2b⟩ := RP_no hR2 hF2b (by omega)
         exact hE _ _ rfl ⟨by rw [hc1, if_neg (fun w => by have := hlv.mp w.2; omega)]; exact hR2b, (hGs1.tr hG2).tr hG2b⟩)
    · try simp only [ne_eq, b2i_e, b2i_1, Classical.not_not] at h27
      first
      | (exfalso; omega)
      | exact J30 _ hF2 (by omega) (by omega) (by omega)
      | exact J30 _ (hF2.tr (r3 := []) (s3 := [(71, 7)]) hF2b rfl rfl) (by omega) (by omega) (by omega)

/-- one part, with what reads the parts within it -/
def prG (tk tw pl : Int → Int) (Q : PSt → PSt) (dep : Int) (s : PSt) : PSt := if s.2.1 ≠ 0 then s else if pBd tk tw s.1 ≠ 0 then pEr pl (pBd tk tw s.1) s else if dep = 5 then pEr pl 5 s else
      if tk s.1 = 135 then (if (Q (pAd s)).2.1 = 0 then pEm 135 0 (Q (pAd s)) else Q (pAd s))
      else if tk s.1 = 40 then (if (ch0 tk Q (pAd s)).2.1 ≠ 0 then ch0 tk Q (pAd s) else if tk (ch0 tk Q (pAd s)).1 = 41 then pAd (ch0 tk Q (pAd s)) else pEr pl 1 (ch0 tk Q (pAd s)))
      else pEm (tk s.1) (tw s.1) (pAd s)
theorem prG_n {tk tw pl : Int → Int} {Q : PSt → PSt} {dep : Int} {s : PSt} (hf : s.2.1 = 0) (hb : pBd tk tw s.1 = 0) (hd : dep ≠ 5) : prG tk tw pl Q dep s = if tk s.1 = 135 then (if (Q (pAd s)).2.1 = 0 then pEm 135 0 (Q (pAd s)) else Q (pAd s))
      else if tk s.1 = 40 then (if (ch0 tk Q (pAd s)).2.1 ≠ 0 then ch0 tk Q (pAd s) else if tk (ch0 tk Q (pAd s)).1 = 41 then pAd (ch0 tk Q (pAd s)) else pEr pl 1 (ch0 tk Q (pAd s)))
      else pEm (tk s.1) (tw s.1) (pAd s) := by
  unfold prG
  rw [if_neg (by omega), if_neg (by omega), if_neg hd]
theorem prt_0 {tk tw pl : Int → Int} {Q : PSt → PSt} : prt tk tw pl 0 = prG tk tw pl Q 5 := by
  funext s
  unfold prG
  rw [if_pos (c := (5 : Int) = 5) rfl]
  rfl
theorem prt_s {tk tw pl : Int → Int} {e : Nat} {dep : Int} (h : dep ≠ 5) : prt tk tw pl (e + 1) = prG tk tw pl (prt tk tw pl e) dep := by
  funext s
  unfold prG
  rw [if_neg h]
  rfl
/-- kinds by sorts -/
theorem tk_cs {σ : Sg} {m j : Int} (hT : TR σ m) (j0 : 0 ≤ j) (j1 : j ≤ m) : (σ 73 j = 0 ∧ tkM σ j = 0) ∨ (σ 73 j = 4 ∧ tkM σ j = 1) ∨ (σ 73 j = 2 ∧ tkM σ j = 2 ∧ twM σ j = σ 75 j ∧ 0 ≤ σ 75 j ∧ σ 75 j ≤ 9999) ∨ (σ 73 j = 3 ∧ tkM σ j = σ 75 j ∧ 40 ≤ σ 75 j ∧ σ 75 j ≤ 61) ∨ (σ 73 j = 1 ∧ (fnd (σ 76) (σ 75 j) 20 = -1 ∧ tkM σ j = 3 ∧ twM σ j = idx (nmF σ) (σ 81 (σ 71 11)) (σ 75 j) ∨ (0 ≤ fnd (σ 76) (σ 75 j) 20 ∧ fnd (σ 76) (σ 75 j) 20 < 8) ∧ tkM σ j = 128 + fnd (σ 76) (σ 75 j) 20 ∨ (8 ≤ fnd (σ 76) (σ 75 j) 20 ∧ fnd (σ 76) (σ 75 j) 20 < 20) ∧ tkM σ j = 4 ∧ twM σ j = fnd (σ 76) (σ 75 j) 20 - 8)) := by
  have ht := hT.2.2.1 j j0 j1
  have hf := fnd_bd (r := σ 76) (v := σ 75 j) (n := 20) (by omega)
  have hs : σ 73 j = 0 ∨ σ 73 j = 1 ∨ σ 73 j = 2 ∨ σ 73 j = 3 ∨ σ 73 j = 4 := by omega
  rcases hs with e | e | e | e | e
  · exact Or.inl ⟨e, by unfold tkM; rw [if_pos e]⟩
  · refine Or.inr (Or.inr (Or.inr (Or.inr ⟨e, ?_⟩)))
    by_cases q : fnd (σ 76) (σ 75 j) 20 = -1
    · exact Or.inl ⟨q, by unfold tkM; rw [if_neg (by omega), if_neg (by omega), if_neg (by omega), if_pos e, if_pos q], by unfold twM; rw [if_neg (by omega), if_pos e, if_pos q]⟩
    · by_cases z : fnd (σ 76) (σ 75 j) 20 < 8
      · exact Or.inr (Or.inl ⟨by omega, by unfold tkM; rw [if_neg (by omega), if_neg (by omega), if_neg (by omega), if_pos e, if_neg q, if_pos z]⟩)
      · exact Or.inr (Or.inr ⟨by omega, by unfold tkM; rw [if_neg (by omega), if_neg (by omega), if_neg (by omega), if_pos e, if_neg q, if_neg z], by unfold twM; rw [if_neg (by omega), if_pos e, if_neg q, if_neg z]⟩)
  · exact Or.inr (Or.inr (Or.inl ⟨e, by unfold tkM; rw [if_neg (by omega), if_pos e], by unfold twM; rw [if_pos e], ht.2.2.2 e⟩))
  · have hg := ht.2.2.1 e
    refine Or.inr (Or.inr (Or.inr (Or.inl ⟨e, by unfold tkM; rw [if_neg (by omega), if_neg (by omega), if_pos e], ?_⟩)))
    unfold isG b2i at hg
    split at hg <;> omega
  · exact Or.inr (Or.inl ⟨e, by unfold tkM; rw [if_neg (by omega), if_neg (by omega), if_neg (by omega), if_neg (by omega)]⟩)
theorem pBd_1 {tk tw : Int → Int} {i : Int} (h : ¬ (tk i = 2 ∨ tk i = 3 ∨ tk i = 4) ∧ tk i ≠ 135 ∧ tk i ≠ 40) : pBd tk tw i = 1 := if_pos h
theorem pBd_2 {tk tw : Int → Int} {i : Int} (h : tk i = 3 ∧ tw i = -1) : pBd tk tw i = 2 := by unfold pBd; rw [if_neg (by omega), if_pos h]
theorem pBd_0 {tk tw : Int → Int} {i : Int} (h1 : tk i = 2 ∨ tk i = 3 ∨ tk i = 4 ∨ tk i = 135 ∨ tk i = 40) (h2 : ¬ (tk i = 3 ∧ tw i = -1)) : pBd tk tw i = 0 := by unfold pBd; rw [if_neg (by omega), if_neg h2]
theorem l2i_s {a : Int} (h : 0 ≤ a ∧ a ≤ 9999) : pL2i a = a := by
  have h1 : ∀ x y : Fin 100, pL2i ((100 * x.val + y.val : Nat) : Int) = ((100 * x.val + y.val : Nat) : Int) := by decide +kernel
  have := h1 ⟨a.toNat / 100, by omega⟩ ⟨a.toNat % 100, by omega⟩
  dsimp only at this
  rw [show 100 * (a.toNat / 100) + a.toNat % 100 = a.toNat by omega, Int.toNat_of_nonneg h.1] at this
  exact this
set_option maxRecDepth 20000 in
set_option maxHeartbeats 2000000 in
theorem tp_2 (d : Nat) (xs : List (Nat × Nat)) (t dd rr : Nat) (σ s : Sg) (E : pE) (D : Nat) (hD : D ≤ d) (Q : PSt → PSt) (dep m c0 : Int) (S : PSt) (hT : TR σ m) (hdep : 0 ≤ dep ∧ dep ≤ 5) (hsub : dep ≠ 5 → MSp 59 D Q (dep + 1) σ m c0 ∧ MSp 55 D (ch0 (tkM σ) Q) (dep + 1) σ m c0) (h : RP s σ m c0 S) (hd2 : 3 ≤ d) (hf0 : S.2.1 = 0) (hE : ∀ r1 σ', r1 = (8, 0) → (RP σ' σ m c0 (prG (tkM σ) (twM σ) (σ 74) Q dep S) ∧ GR s σ') → E r1 (Wd xs t dd rr σ')) (hk : tkM σ S.1 = 2) (hv9 : 0 ≤ σ 75 S.1 ∧ σ 75 S.1 ≤ 9999) (hw : twM σ S.1 = σ 75 S.1) : pCm (Ev d) k_X10_takePart E 128 [(87, 0), (0, dep), (0, -1), (0, 1), (0, 0), (0, 0), (0, -1)] [] (Wd xs t dd rr s) := by
  have hm := hT.1
  obtain ⟨a1, a2, a3, a4, a5, a6, a7⟩ := id h
  have hat : 0 ≤ s 71 7 ∧ s 71 7 ≤ 1001 := by omega
  have hpl : 0 ≤ s 74 (s 71 7) ∧ s 74 (s 71 7) ≤ 1000 := by rw [a1.row 74 rfl]; exact (hT.2.2.1 (s 71 7) a4.1 a4.2).2.1
  obtain ⟨hi, hc18, -⟩ := a7 hf0
  have hwo := wo_tk (w := 7) hT h ⟨by omega, by omega⟩
  clear a6 a7
  have J190 : dep ≠ 5 → pCm (Ev d) k_X10_takePart E 190 [(87, 0), (0, dep), (0, -1), (0, 1), (0, 0), (0, 0), (0, -1)] [] (Wd xs t dd rr s) := by
    intro hd5
    obtain ⟨hQ, hA⟩ := hsub hd5
    have hpr := prG_n (tk := tkM σ) (tw := twM σ) (pl := σ 74) (Q := Q) hf0 (pBd_0 (by omega) (by omega)) hd5
    refine R_aload rfl rfl rfl ?_
    refine R_push rfl ?_
    obtain ⟨s2, hev2, hF2, h72⟩ := sp_X10_hasWord d (by omega) xs t dd rr s 7 ⟨by omega, by omega⟩ hat
    refine R_invv rfl rfl rfl rfl rfl rfl (hev2) rfl ?_
    show pCm _ _ _ 196 _ [(0, _)] _
    refine R_if rfl (fun _ => ?_) (fun h196 => absurd (by omega) h196)
    refine R_aload rfl rfl rfl ?_
    refine R_push rfl ?_
    obtain ⟨hR2, hG2⟩ := RP_no h hF2 (by omega)
    have hsg := sg_tk (ch := 40) hT hR2 rfl
    obtain ⟨s3, hev3, hF3, h73⟩ := sp_X10_hasSign d (by omega) xs t dd rr s2 40 (by omega)
    refine R_invv rfl rfl rfl rfl rfl rfl (hev3) rfl ?_
    show pCm _ _ _ 221 _ [(0, _)] _
    refine R_if rfl (fun _ => ?_) (fun h221 => absurd (by omega) h221)
    obtain ⟨hR3, hG3⟩ := RP_no hR2 hF3 (by omega)
    have h737 : s3 71 7 = S.1 := by omega
    have e753 : s3 75 S.1 = σ 75 S.1 := hR3.1.row 75 rfl _
    refine R_aload rfl rfl rfl ?_
    refine R_iload rfl rfl ?_
    refine R_if rfl (fun h242 => absurd h242 (by omega)) (fun _ => ?_)
    refine R_push rfl ?_
    refine R_goto rfl ?_
    refine R_iload rfl rfl ?_
    refine R_if rfl (fun h259 => absurd h259 (by omega)) (fun _ => ?_)
    refine R_aload rfl rfl rfl ?_
    refine T_getr (v := 91) rfl rfl rfl rfl ?_
    refine R_aload rfl rfl rfl ?_
    refine T_geti rfl rfl rfl ?_
    rw [h737]
    refine T_ald rfl rfl (by omega) (by omega) ?_
    rw [e753]
    refine R_l2i rfl ?_
    rw [l2i_s hv9]
    refine R_goto rfl ?_
    obtain ⟨s6, hev6, hF6, h618, h683, h684⟩ := sp_X10_emit d (by omega) xs t dd rr s3 _ _ (by rw [hR3.1.at 71 11 rfl]; exact hT.2.2.2.2.1) ⟨by have := hR3.2.2.2.2.1; omega, by have := hR3.2.2.2.2.1; have := hR3.2.2.2.1; omega⟩
    have e67 := hF6.at 71 7 rfl
    refine R_invv rfl rfl rfl rfl rfl rfl (hev6) rfl ?_
    show pCm _ _ _ 288 _ [] _
    refine R_aload rfl rfl rfl ?_
    refine R_dup rfl rfl ?_
    refine T_geti rfl rfl rfl ?_
    refine R_push rfl ?_
    refine R_add rfl (by omega) (by omega) ?_
    refine T_puti rfl rfl rfl ?_
    generalize hs7 : up2 s6 71 7 (s6 71 7 + 1) = s7
    have hF7 : Fr [] [(71, 7)] s6 s7 := by rw [← hs7]; exact Fr.rf.up rfl
    obtain ⟨hR7, hG7⟩ := RP_pl (k := tkM σ S.1) (w := twM σ S.1) hT hR3 hf0 (by omega) hF6 h618 h683 h684 (by rw [hk]; rfl) hw.symm hF7 (by rw [← hs7]; simp [up2])
    refine R_vret rfl ?_
    exact hE _ _ rfl ⟨by rw [hpr, if_neg (by omega), if_neg (by omega)]; exact hR7, (hG2.tr hG3).tr hG7⟩
  refine R_iload rfl rfl ?_
  refine R_if rfl (fun h129 => absurd h129 (by omega)) (fun _ => ?_)
  refine R_iload rfl rfl ?_
  refine R_if rfl (fun _ => ?_) (fun h133 => absurd (by omega) h133)
  refine R_iload rfl rfl ?_
  refine R_if rfl (fun _ => ?_) (fun h156 => absurd (by omega) h156)
  refine R_iload rfl rfl ?_
  refine R_push rfl ?_
  refine R_ic rfl (fun h174 => ?_) (fun h174 => ?_)
  · try simp only [ne_eq, b2i_e, b2i_1, Classical.not_not] at h174
    refine R_aload rfl rfl rfl ?_
    refine T_geti rfl rfl rfl ?_
    refine R_if rfl (fun h186 => ?_) (fun h186 => ?_)
    · try simp only [ne_eq, b2i_e, b2i_1, Classical.not_not] at h186
      first
      | (exfalso; omega)
      | exact J190 (by omega)
    · try simp only [ne_eq, b2i_e, b2i_1, Classical.not_not] at h186
      refine R_vret rfl ?_
      first
      | (exfalso; omega)
      | exact hE _ _ rfl ⟨by unfold prG; rw [if_neg (by omega), pBd_0 (by omega) (by omega), if_neg (by omega), if_pos (by omega)]; exact hR2, hG2⟩
  · try simp only [ne_eq, b2i_e, b2i_1, Classical.not_not] at h174
    refine R_aload rfl rfl rfl ?_
    refine R_push rfl ?_
    obtain ⟨s2, hev2, hF2, h82⟩ := sp_X10_wrong d (by omega) xs t dd rr s 5 ⟨by omega, by omega⟩ hat hpl
    obtain ⟨hR2, hG2⟩ := RP_er (c := 5) hT h (by omega) hF2 h82
    rw [if_pos hf0] at hR2
    have h82' : 1 ≤ s2 71 8 := by rw [h82, if_pos (by omega)]; omega
    refine R_invv rfl rfl rfl rfl rfl rfl (hev2) rfl ?_
    show pCm _ _ _ 182 _ [] _
    refine R_aload rfl rfl rfl ?_
    refine T_geti rfl rfl rfl ?_
    refine R_if rfl (fun h186 => ?_) (fun h186 => ?_)
    · try simp only [ne_eq, b2i_e, b2i_1, Classical.not_not] at h186
      first
      | (exfalso; omega)
      | exact J190 (by omega)
    · try simp only [ne_eq, b2i_e, b2i_1, Classical.not_not] at h186
      refine R_vret rfl ?_
      first
      | (exfalso; omega)
      | exact hE _ _ rfl ⟨by unfold prG; rw [if_neg (by omega), pBd_0 (by omega) (by omega), if_neg (by omega), if_pos (by omega)]; exact hR2, hG2⟩
set_option maxRecDepth 20000 in
set_option maxHeartbeats 2000000 in
theorem tp_4 (d : Nat) (xs : List (Nat × Nat)) (t dd rr : Nat) (σ s : Sg) (E : pE) (D : Nat) (hD : D ≤ d) (Q : PSt → PSt) (dep m c0 : Int) (S : PSt) (hT : TR σ m) (hdep : 0 ≤ dep ∧ dep ≤ 5) (hsub : dep ≠ 5 → MSp 59 D Q (dep + 1) σ m c0 ∧ MSp 55 D (ch0 (tkM σ) Q) (dep + 1) σ m c0) (h : RP s σ m c0 S) (hd2 : 3 ≤ d) (hf0 : S.2.1 = 0) (hE : ∀ r1 σ', r1 = (8, 0) → (RP σ' σ m c0 (prG (tkM σ) (twM σ) (σ 74) Q dep S) ∧ GR s σ') → E r1 (Wd xs t dd rr σ')) (hk : tkM σ S.1 = 4) (hw : 0 ≤ twM σ S.1) : pCm (Ev d) k_X10_takePart E 128 [(87, 0), (0, dep), (0, twM σ S.1), (0, 0), (0, 0), (0, 0), (0, -1)] [] (Wd xs t dd rr s) := by
  have hm := hT.1
  obtain ⟨a1, a2, a3, a4, a5, a6, a7⟩ := id h
  have hat : 0 ≤ s 71 7 ∧ s 71 7 ≤ 1001 := by omega
  have hpl : 0 ≤ s 74 (s 71 7) ∧ s 74 (s 71 7) ≤ 1000 := by rw [a1.row 74 rfl]; exact (hT.2.2.1 (s 71 7) a4.1 a4.2).2.1
  obtain ⟨hi, hc18, -⟩ := a7 hf0
  have hwo := wo_tk (w := 7) hT h ⟨by omega, by omega⟩
  clear a6 a7
  have J190 : dep ≠ 5 → pCm (Ev d) k_X10_takePart E 190 [(87, 0), (0, dep), (0, twM σ S.1), (0, 0), (0, 0), (0, 0), (0, -1)] [] (Wd xs t dd rr s) := by
    intro hd5
    obtain ⟨hQ, hA⟩ := hsub hd5
    have hpr := prG_n (tk := tkM σ) (tw := twM σ) (pl := σ 74) (Q := Q) hf0 (pBd_0 (by omega) (by omega)) hd5
    refine R_aload rfl rfl rfl ?_
    refine R_push rfl ?_
    obtain ⟨s2, hev2, hF2, h72⟩ := sp_X10_hasWord d (by omega) xs t dd rr s 7 ⟨by omega, by omega⟩ hat
    refine R_invv rfl rfl rfl rfl rfl rfl (hev2) rfl ?_
    show pCm _ _ _ 196 _ [(0, _)] _
    refine R_if rfl (fun _ => ?_) (fun h196 => absurd (by omega) h196)
    refine R_aload rfl rfl rfl ?_
    refine R_push rfl ?_
    obtain ⟨hR2, hG2⟩ := RP_no h hF2 (by omega)
    have hsg := sg_tk (ch := 40) hT hR2 rfl
    obtain ⟨s3, hev3, hF3, h73⟩ := sp_X10_hasSign d (by omega) xs t dd rr s2 40 (by omega)
    refine R_invv rfl rfl rfl rfl rfl rfl (hev3) rfl ?_
    show pCm _ _ _ 221 _ [(0, _)] _
    refine R_if rfl (fun _ => ?_) (fun h221 => absurd (by omega) h221)
    obtain ⟨hR3, hG3⟩ := RP_no hR2 hF3 (by omega)
    have h737 : s3 71 7 = S.1 := by omega
    have e753 : s3 75 S.1 = σ 75 S.1 := hR3.1.row 75 rfl _
    refine R_aload rfl rfl rfl ?_
    refine R_iload rfl rfl ?_
    refine R_if rfl (fun _ => ?_) (fun h242 => absurd (by omega) h242)
    refine R_iload rfl rfl ?_
    refine R_if rfl (fun h250 => absurd h250 (by omega)) (fun _ => ?_)
    refine R_push rfl ?_
    refine R_goto rfl ?_
    refine R_iload rfl rfl ?_
    refine R_if rfl (fun _ => ?_) (fun h259 => absurd (by omega) h259)
    refine R_iload rfl rfl ?_
    refine R_if rfl (fun h276 => absurd h276 (by omega)) (fun _ => ?_)
    refine R_iload rfl rfl ?_
    refine R_goto rfl ?_
    obtain ⟨s6, hev6, hF6, h618, h683, h684⟩ := sp_X10_emit d (by omega) xs t dd rr s3 _ _ (by rw [hR3.1.at 71 11 rfl]; exact hT.2.2.2.2.1) ⟨by have := hR3.2.2.2.2.1; omega, by have := hR3.2.2.2.2.1; have := hR3.2.2.2.1; omega⟩
    have e67 := hF6.at 71 7 rfl
    refine R_invv rfl rfl rfl rfl rfl rfl (hev6) rfl ?_
    show pCm _ _ _ 288 _ [] _
    refine R_aload rfl rfl rfl ?_
    refine R_dup rfl rfl ?_
    refine T_geti rfl rfl rfl ?_
    refine R_push rfl ?_
    refine R_add rfl (by omega) (by omega) ?_
    refine T_puti rfl rfl rfl ?_
    generalize hs7 : up2 s6 71 7 (s6 71 7 + 1) = s7
    have hF7 : Fr [] [(71, 7)] s6 s7 := by rw [← hs7]; exact Fr.rf.up rfl
    obtain ⟨hR7, hG7⟩ := RP_pl (k := tkM σ S.1) (w := twM σ S.1) hT hR3 hf0 (by omega) hF6 h618 h683 h684 (by rw [hk]; rfl) rfl hF7 (by rw [← hs7]; simp [up2])
    refine R_vret rfl ?_
    exact hE _ _ rfl ⟨by rw [hpr, if_neg (by omega), if_neg (by omega)]; exact hR7, (hG2.tr hG3).tr hG7⟩
  refine R_iload rfl rfl ?_
  refine R_if rfl (fun _ => ?_) (fun h129 => absurd (by omega) h129)
  refine R_iload rfl rfl ?_
  refine R_if rfl (fun _ => ?_) (fun h156 => absurd (by omega) h156)
  refine R_iload rfl rfl ?_
  refine R_push rfl ?_
  refine R_ic rfl (fun h174 => ?_) (fun h174 => ?_)
  · try simp only [ne_eq, b2i_e, b2i_1, Classical.not_not] at h174
    refine R_aload rfl rfl rfl ?_
    refine T_geti rfl rfl rfl ?_
    refine R_if rfl (fun h186 => ?_) (fun h186 => ?_)
    · try simp only [ne_eq, b2i_e, b2i_1, Classical.not_not] at h186
      first
      | (exfalso; omega)
      | exact J190 (by omega)
    · try simp only [ne_eq, b2i_e, b2i_1, Classical.not_not] at h186
      refine R_vret rfl ?_
      first
      | (exfalso; omega)
      | exact hE _ _ rfl ⟨by unfold prG; rw [if_neg (by omega), pBd_0 (by omega) (by omega), if_neg (by omega), if_pos (by omega)]; exact hR2, hG2⟩
  · try simp only [ne_eq, b2i_e, b2i_1, Classical.not_not] at h174
    refine R_aload rfl rfl rfl ?_
    refine R_push rfl ?_
    obtain ⟨s2, hev2, hF2, h82⟩ := sp_X10_wrong d (by omega) xs t dd rr s 5 ⟨by omega, by omega⟩ hat hpl
    obtain ⟨hR2, hG2⟩ := RP_er (c := 5) hT h (by omega) hF2 h82
    rw [if_pos hf0] at hR2
    have h82' : 1 ≤ s2 71 8 := by rw [h82, if_pos (by omega)]; omega
    refine R_invv rfl rfl rfl rfl rfl rfl (hev2) rfl ?_
    show pCm _ _ _ 182 _ [] _
    refine R_aload rfl rfl rfl ?_
    refine T_geti rfl rfl rfl ?_
    refine R_if rfl (fun h186 => ?_) (fun h186 => ?_)
    · try simp only [ne_eq, b2i_e, b2i_1, Classical.not_not] at h186
      first
      | (exfalso; omega)
      | exact J190 (by omega)
    · try simp only [ne_eq, b2i_e, b2i_1, Classical.not_not] at h186
      refine R_vret rfl ?_
      first
      | (exfalso; omega)
      | exact hE _ _ rfl ⟨by unfold prG; rw [if_neg (by omega), pBd_0 (by omega) (by omega), if_neg (by omega), if_pos (by omega)]; exact hR2, hG2⟩
set_option maxRecDepth 20000 in
set_option maxHeartbeats 2000000 in
theorem tp_3 (d : Nat) (xs : List (Nat × Nat)) (t dd rr : Nat) (σ s : Sg) (E : pE) (D : Nat) (hD : D ≤ d) (Q : PSt → PSt) (dep m c0 : Int) (S : PSt) (hT : TR σ m) (hdep : 0 ≤ dep ∧ dep ≤ 5) (hsub : dep ≠ 5 → MSp 59 D Q (dep + 1) σ m c0 ∧ MSp 55 D (ch0 (tkM σ) Q) (dep + 1) σ m c0) (h : RP s σ m c0 S) (hd2 : 3 ≤ d) (hf0 : S.2.1 = 0) (hE : ∀ r1 σ', r1 = (8, 0) → (RP σ' σ m c0 (prG (tkM σ) (twM σ) (σ 74) Q dep S) ∧ GR s σ') → E r1 (Wd xs t dd rr σ')) (hk : tkM σ S.1 = 3) (hw : 0 ≤ twM σ S.1) : pCm (Ev d) k_X10_takePart E 128 [(87, 0), (0, dep), (0, -1), (0, 0), (0, 0), (0, 1), (0, twM σ S.1)] [] (Wd xs t dd rr s) := by
  have hm := hT.1
  obtain ⟨a1, a2, a3, a4, a5, a6, a7⟩ := id h
  have hat : 0 ≤ s 71 7 ∧ s 71 7 ≤ 1001 := by omega
  have hpl : 0 ≤ s 74 (s 71 7) ∧ s 74 (s 71 7) ≤ 1000 := by rw [a1.row 74 rfl]; exact (hT.2.2.1 (s 71 7) a4.1 a4.2).2.1
  obtain ⟨hi, hc18, -⟩ := a7 hf0
  have hwo := wo_tk (w := 7) hT h ⟨by omega, by omega⟩
  clear a6 a7
  have J190 : dep ≠ 5 → pCm (Ev d) k_X10_takePart E 190 [(87, 0), (0, dep), (0, -1), (0, 0), (0, 0), (0, 1), (0, twM σ S.1)] [] (Wd xs t dd rr s) := by
    intro hd5
    obtain ⟨hQ, hA⟩ := hsub hd5
    have hpr := prG_n (tk := tkM σ) (tw := twM σ) (pl := σ 74) (Q := Q) hf0 (pBd_0 (by omega) (by omega)) hd5
    refine R_aload rfl rfl rfl ?_
    refine R_push rfl ?_
    obtain ⟨s2, hev2, hF2, h72⟩ := sp_X10_hasWord d (by omega) xs t dd rr s 7 ⟨by omega, by omega⟩ hat
    refine R_invv rfl rfl rfl rfl rfl rfl (hev2) rfl ?_
    show pCm _ _ _ 196 _ [(0, _)] _
    refine R_if rfl (fun _ => ?_) (fun h196 => absurd (by omega) h196)
    refine R_aload rfl rfl rfl ?_
    refine R_push rfl ?_
    obtain ⟨hR2, hG2⟩ := RP_no h hF2 (by omega)
    have hsg := sg_tk (ch := 40) hT hR2 rfl
    obtain ⟨s3, hev3, hF3, h73⟩ := sp_X10_hasSign d (by omega) xs t dd rr s2 40 (by omega)
    refine R_invv rfl rfl rfl rfl rfl rfl (hev3) rfl ?_
    show pCm _ _ _ 221 _ [(0, _)] _
    refine R_if rfl (fun _ => ?_) (fun h221 => absurd (by omega) h221)
    obtain ⟨hR3, hG3⟩ := RP_no hR2 hF3 (by omega)
    have h737 : s3 71 7 = S.1 := by omega
    have e753 : s3 75 S.1 = σ 75 S.1 := hR3.1.row 75 rfl _
    refine R_aload rfl rfl rfl ?_
    refine R_iload rfl rfl ?_
    refine R_if rfl (fun _ => ?_) (fun h242 => absurd (by omega) h242)
    refine R_iload rfl rfl ?_
    refine R_if rfl (fun _ => ?_) (fun h250 => absurd (by omega) h250)
    refine R_push rfl ?_
    refine R_iload rfl rfl ?_
    refine R_if rfl (fun _ => ?_) (fun h259 => absurd (by omega) h259)
    refine R_iload rfl rfl ?_
    refine R_if rfl (fun _ => ?_) (fun h276 => absurd (by omega) h276)
    refine R_iload rfl rfl ?_
    obtain ⟨s6, hev6, hF6, h618, h683, h684⟩ := sp_X10_emit d (by omega) xs t dd rr s3 _ _ (by rw [hR3.1.at 71 11 rfl]; exact hT.2.2.2.2.1) ⟨by have := hR3.2.2.2.2.1; omega, by have := hR3.2.2.2.2.1; have := hR3.2.2.2.1; omega⟩
    have e67 := hF6.at 71 7 rfl
    refine R_invv rfl rfl rfl rfl rfl rfl (hev6) rfl ?_
    show pCm _ _ _ 288 _ [] _
    refine R_aload rfl rfl rfl ?_
    refine R_dup rfl rfl ?_
    refine T_geti rfl rfl rfl ?_
    refine R_push rfl ?_
    refine R_add rfl (by omega) (by omega) ?_
    refine T_puti rfl rfl rfl ?_
    generalize hs7 : up2 s6 71 7 (s6 71 7 + 1) = s7
    have hF7 : Fr [] [(71, 7)] s6 s7 := by rw [← hs7]; exact Fr.rf.up rfl
    obtain ⟨hR7, hG7⟩ := RP_pl (k := tkM σ S.1) (w := twM σ S.1) hT hR3 hf0 (by omega) hF6 h618 h683 h684 (by rw [hk]; rfl) rfl hF7 (by rw [← hs7]; simp [up2])
    refine R_vret rfl ?_
    exact hE _ _ rfl ⟨by rw [hpr, if_neg (by omega), if_neg (by omega)]; exact hR7, (hG2.tr hG3).tr hG7⟩
  refine R_iload rfl rfl ?_
  refine R_if rfl (fun h129 => absurd h129 (by omega)) (fun _ => ?_)
  refine R_iload rfl rfl ?_
  refine R_if rfl (fun h133 => absurd h133 (by omega)) (fun _ => ?_)
  refine R_iload rfl rfl ?_
  refine R_if rfl (fun h138 => absurd h138 (by omega)) (fun _ => ?_)
  refine R_iload rfl rfl ?_
  refine R_if rfl (fun _ => ?_) (fun h143 => absurd (by omega) h143)
  refine R_iload rfl rfl ?_
  refine R_if rfl (fun h156 => absurd h156 (by omega)) (fun _ => ?_)
  refine R_iload rfl rfl ?_
  refine R_if rfl (fun _ => ?_) (fun h161 => absurd (by omega) h161)
  refine R_iload rfl rfl ?_
  refine R_push rfl ?_
  refine R_ic rfl (fun h174 => ?_) (fun h174 => ?_)
  · try simp only [ne_eq, b2i_e, b2i_1, Classical.not_not] at h174
    refine R_aload rfl rfl rfl ?_
    refine T_geti rfl rfl rfl ?_
    refine R_if rfl (fun h186 => ?_) (fun h186 => ?_)
    · try simp only [ne_eq, b2i_e, b2i_1, Classical.not_not] at h186
      first
      | (exfalso; omega)
      | exact J190 (by omega)
    · try simp only [ne_eq, b2i_e, b2i_1, Classical.not_not] at h186
      refine R_vret rfl ?_
      first
      | (exfalso; omega)
      | exact hE _ _ rfl ⟨by unfold prG; rw [if_neg (by omega), pBd_0 (by omega) (by omega), if_neg (by omega), if_pos (by omega)]; exact hR2, hG2⟩
  · try simp only [ne_eq, b2i_e, b2i_1, Classical.not_not] at h174
    refine R_aload rfl rfl rfl ?_
    refine R_push rfl ?_
    obtain ⟨s2, hev2, hF2, h82⟩ := sp_X10_wrong d (by omega) xs t dd rr s 5 ⟨by omega, by omega⟩ hat hpl
    obtain ⟨hR2, hG2⟩ := RP_er (c := 5) hT h (by omega) hF2 h82
    rw [if_pos hf0] at hR2
    have h82' : 1 ≤ s2 71 8 := by rw [h82, if_pos (by omega)]; omega
    refine R_invv rfl rfl rfl rfl rfl rfl (hev2) rfl ?_
    show pCm _ _ _ 182 _ [] _
    refine R_aload rfl rfl rfl ?_
    refine T_geti rfl rfl rfl ?_
    refine R_if rfl (fun h186 => ?_) (fun h186 => ?_)
    · try simp only [ne_eq, b2i_e, b2i_1, Classical.not_not] at h186
      first
      | (exfalso; omega)
      | exact J190 (by omega)
    · try simp only [ne_eq, b2i_e, b2i_1, Classical.not_not] at h186
      refine R_vret rfl ?_
      first
      | (exfalso; omega)
      | exact hE _ _ rfl ⟨by unfold prG; rw [if_neg (by omega), pBd_0 (by omega) (by omega), if_neg (by omega), if_pos (by omega)]; exact hR2, hG2⟩
set_option maxRecDepth 20000 in
set_option maxHeartbeats 2000000 in
theorem tp_3b (d : Nat) (xs : List (Nat × Nat)) (t dd rr : Nat) (σ s : Sg) (E : pE) (D : Nat) (hD : D ≤ d) (Q : PSt → PSt) (dep m c0 : Int) (S : PSt) (hT : TR σ m) (hdep : 0 ≤ dep ∧ dep ≤ 5) (hsub : dep ≠ 5 → MSp 59 D Q (dep + 1) σ m c0 ∧ MSp 55 D (ch0 (tkM σ) Q) (dep + 1) σ m c0) (h : RP s σ m c0 S) (hd2 : 3 ≤ d) (hf0 : S.2.1 = 0) (hE : ∀ r1 σ', r1 = (8, 0) → (RP σ' σ m c0 (prG (tkM σ) (twM σ) (σ 74) Q dep S) ∧ GR s σ') → E r1 (Wd xs t dd rr σ')) (hk : tkM σ S.1 = 3) (hw : twM σ S.1 = -1) : pCm (Ev d) k_X10_takePart E 128 [(87, 0), (0, dep), (0, -1), (0, 0), (0, 0), (0, 1), (0, twM σ S.1)] [] (Wd xs t dd rr s) := by
  have hm := hT.1
  obtain ⟨a1, a2, a3, a4, a5, a6, a7⟩ := id h
  have hat : 0 ≤ s 71 7 ∧ s 71 7 ≤ 1001 := by omega
  have hpl : 0 ≤ s 74 (s 71 7) ∧ s 74 (s 71 7) ≤ 1000 := by rw [a1.row 74 rfl]; exact (hT.2.2.1 (s 71 7) a4.1 a4.2).2.1
  obtain ⟨hi, hc18, -⟩ := a7 hf0
  have hwo := wo_tk (w := 7) hT h ⟨by omega, by omega⟩
  clear a6 a7
  refine R_iload rfl rfl ?_
  refine R_if rfl (fun h129 => absurd h129 (by omega)) (fun _ => ?_)
  refine R_iload rfl rfl ?_
  refine R_if rfl (fun h133 => absurd h133 (by omega)) (fun _ => ?_)
  refine R_iload rfl rfl ?_
  refine R_if rfl (fun h138 => absurd h138 (by omega)) (fun _ => ?_)
  refine R_iload rfl rfl ?_
  refine R_if rfl (fun _ => ?_) (fun h143 => absurd (by omega) h143)
  refine R_iload rfl rfl ?_
  refine R_if rfl (fun h156 => absurd h156 (by omega)) (fun _ => ?_)
  refine R_iload rfl rfl ?_
  refine R_if rfl (fun h161 => absurd h161 (by omega)) (fun _ => ?_)
  refine R_aload rfl rfl rfl ?_
  refine R_push rfl ?_
  obtain ⟨s2, hev2, hF2, h82⟩ := sp_X10_wrong d (by omega) xs t dd rr s 2 ⟨by omega, by omega⟩ hat hpl
  obtain ⟨hR2, hG2⟩ := RP_er (c := 2) hT h (by omega) hF2 h82
  rw [if_pos hf0] at hR2
  have h82' : 1 ≤ s2 71 8 := by rw [h82, if_pos (by omega)]; omega
  refine R_invv rfl rfl rfl rfl rfl rfl (hev2) rfl ?_
  show pCm _ _ _ 169 _ [] _
  refine R_goto rfl ?_
  refine R_aload rfl rfl rfl ?_
  refine T_geti rfl rfl rfl ?_
  refine R_if rfl (fun h186 => ?_) (fun h186 => ?_)
  · try simp only [ne_eq, b2i_e, b2i_1, Classical.not_not] at h186
    exfalso; omega
  · try simp only [ne_eq, b2i_e, b2i_1, Classical.not_not] at h186
    refine R_vret rfl ?_
    first
    | (exfalso; omega)
    | exact hE _ _ rfl ⟨by unfold prG; rw [if_neg (by omega), pBd_2 (by omega), if_pos (by omega)]; exact hR2, hG2⟩
set_option maxRecDepth 20000 in
set_option maxHeartbeats 2000000 in
theorem tp_135 (d : Nat) (xs : List (Nat × Nat)) (t dd rr : Nat) (σ s : Sg) (E : pE) (D : Nat) (hD : D ≤ d) (Q : PSt → PSt) (dep m c0 : Int) (S : PSt) (hT : TR σ m) (hdep : 0 ≤ dep ∧ dep ≤ 5) (hsub : dep ≠ 5 → MSp 59 D Q (dep + 1) σ m c0 ∧ MSp 55 D (ch0 (tkM σ) Q) (dep + 1) σ m c0) (h : RP s σ m c0 S) (hd2 : 3 ≤ d) (hf0 : S.2.1 = 0) (hE : ∀ r1 σ', r1 = (8, 0) → (RP σ' σ m c0 (prG (tkM σ) (twM σ) (σ 74) Q dep S) ∧ GR s σ') → E r1 (Wd xs t dd rr σ')) (hk : tkM σ S.1 = 135) : pCm (Ev d) k_X10_takePart E 128 [(87, 0), (0, dep), (0, -1), (0, 0), (0, 1), (0, 0), (0, -1)] [] (Wd xs t dd rr s) := by
  have hm := hT.1
  obtain ⟨a1, a2, a3, a4, a5, a6, a7⟩ := id h
  have hat : 0 ≤ s 71 7 ∧ s 71 7 ≤ 1001 := by omega
  have hpl : 0 ≤ s 74 (s 71 7) ∧ s 74 (s 71 7) ≤ 1000 := by rw [a1.row 74 rfl]; exact (hT.2.2.1 (s 71 7) a4.1 a4.2).2.1
  obtain ⟨hi, hc18, -⟩ := a7 hf0
  have hwo := wo_tk (w := 7) hT h ⟨by omega, by omega⟩
  clear a6 a7
  have J190 : dep ≠ 5 → pCm (Ev d) k_X10_takePart E 190 [(87, 0), (0, dep), (0, -1), (0, 0), (0, 1), (0, 0), (0, -1)] [] (Wd xs t dd rr s) := by
    intro hd5
    obtain ⟨hQ, hA⟩ := hsub hd5
    have hpr := prG_n (tk := tkM σ) (tw := twM σ) (pl := σ 74) (Q := Q) hf0 (pBd_0 (by omega) (by omega)) hd5
    refine R_aload rfl rfl rfl ?_
    refine R_push rfl ?_
    obtain ⟨s2, hev2, hF2, h72⟩ := sp_X10_hasWord d (by omega) xs t dd rr s 7 ⟨by omega, by omega⟩ hat
    refine R_invv rfl rfl rfl rfl rfl rfl (hev2) rfl ?_
    show pCm _ _ _ 196 _ [(0, _)] _
    refine R_if rfl (fun h196 => absurd h196 (by omega)) (fun _ => ?_)
    refine R_aload rfl rfl rfl ?_
    refine R_iload rfl rfl ?_
    refine R_push rfl ?_
    refine R_add rfl (by omega) (by omega) ?_
    obtain ⟨hR2, hG2⟩ := RP_ad hT h hf0 (by omega) hF2 (by omega)
    obtain ⟨s4, hev4, hRs4, hGs4⟩ := hQ d (by omega) xs t dd rr s2 (pAd S) hR2
    have hroom : s4 71 18 + 1 ≤ s4 71 7 := by
      have b := hGs4.2.2
      have c := hF2.at 71 18 rfl
      omega
    refine R_invv rfl rfl rfl rfl rfl rfl (hev4) rfl ?_
    show pCm _ _ _ 206 _ [] _
    refine R_aload rfl rfl rfl ?_
    refine R_push rfl ?_
    refine R_push rfl ?_
    obtain ⟨s5, hev5, hF5, h518, h583, h584⟩ := sp_X10_emit d (by omega) xs t dd rr s4 4 0 (by rw [hRs4.1.at 71 11 rfl]; exact hT.2.2.2.2.1) ⟨by have := hRs4.2.2.2.2.1; omega, by have := hRs4.2.2.2.2.1; have := hRs4.2.2.2.1; omega⟩
    have hR5' := RP_em (k := 135) (w := 0) hT hRs4 hroom hF5 h518 h583 h584 (fun _ => ⟨rfl, rfl⟩)
    have hG5 : GR s s5 := by
      have q1 := hGs4.1
      have q2 := hGs4.2.1
      have q3 := hGs4.2.2
      have q4 := hF2.at 71 18 rfl
      have q5 := hF5.at 71 7 rfl
      exact ⟨by omega, by omega, by omega⟩
    refine R_invv rfl rfl rfl rfl rfl rfl (hev5) rfl ?_
    show pCm _ _ _ 212 _ [] _
    refine R_goto rfl ?_
    refine R_vret rfl ?_
    exact hE _ _ rfl ⟨by rw [hpr, if_pos (by omega)]; exact hR5', hG5⟩
  refine R_iload rfl rfl ?_
  refine R_if rfl (fun h129 => absurd h129 (by omega)) (fun _ => ?_)
  refine R_iload rfl rfl ?_
  refine R_if rfl (fun h133 => absurd h133 (by omega)) (fun _ => ?_)
  refine R_iload rfl rfl ?_
  refine R_if rfl (fun _ => ?_) (fun h138 => absurd (by omega) h138)
  refine R_iload rfl rfl ?_
  refine R_if rfl (fun _ => ?_) (fun h156 => absurd (by omega) h156)
  refine R_iload rfl rfl ?_
  refine R_push rfl ?_
  refine R_ic rfl (fun h174 => ?_) (fun h174 => ?_)
  · try simp only [ne_eq, b2i_e, b2i_1, Classical.not_not] at h174
    refine R_aload rfl rfl rfl ?_
    refine T_geti rfl rfl rfl ?_
    refine R_if rfl (fun h186 => ?_) (fun h186 => ?_)
    · try simp only [ne_eq, b2i_e, b2i_1, Classical.not_not] at h186
      first
      | (exfalso; omega)
      | exact J190 (by omega)
    · try simp only [ne_eq, b2i_e, b2i_1, Classical.not_not] at h186
      refine R_vret rfl ?_
      first
      | (exfalso; omega)
      | exact hE _ _ rfl ⟨by unfold prG; rw [if_neg (by omega), pBd_0 (by omega) (by omega), if_neg (by omega), if_pos (by omega)]; exact hR2, hG2⟩
  · try simp only [ne_eq, b2i_e, b2i_1, Classical.not_not] at h174
    refine R_aload rfl rfl rfl ?_
    refine R_push rfl ?_
    obtain ⟨s2, hev2, hF2, h82⟩ := sp_X10_wrong d (by omega) xs t dd rr s 5 ⟨by omega, by omega⟩ hat hpl
    obtain ⟨hR2, hG2⟩ := RP_er (c := 5) hT h (by omega) hF2 h82
    rw [if_pos hf0] at hR2
    have h82' : 1 ≤ s2 71 8 := by rw [h82, if_pos (by omega)]; omega
    refine R_invv rfl rfl rfl rfl rfl rfl (hev2) rfl ?_
    show pCm _ _ _ 182 _ [] _
    refine R_aload rfl rfl rfl ?_
    refine T_geti rfl rfl rfl ?_
    refine R_if rfl (fun h186 => ?_) (fun h186 => ?_)
    · try simp only [ne_eq, b2i_e, b2i_1, Classical.not_not] at h186
      first
      | (exfalso; omega)
      | exact J190 (by omega)
    · try simp only [ne_eq, b2i_e, b2i_1, Classical.not_not] at h186
      refine R_vret rfl ?_
      first
      | (exfalso; omega)
      | exact hE _ _ rfl ⟨by unfold prG; rw [if_neg (by omega), pBd_0 (by omega) (by omega), if_neg (by omega), if_pos (by omega)]; exact hR2, hG2⟩
set_option maxRecDepth 20000 in
set_option maxHeartbeats 2000000 in
theorem tp_40 (d : Nat) (xs : List (Nat × Nat)) (t dd rr : Nat) (σ s : Sg) (E : pE) (D : Nat) (hD : D ≤ d) (Q : PSt → PSt) (dep m c0 : Int) (S : PSt) (hT : TR σ m) (hdep : 0 ≤ dep ∧ dep ≤ 5) (hsub : dep ≠ 5 → MSp 59 D Q (dep + 1) σ m c0 ∧ MSp 55 D (ch0 (tkM σ) Q) (dep + 1) σ m c0) (h : RP s σ m c0 S) (hd2 : 3 ≤ d) (hf0 : S.2.1 = 0) (hE : ∀ r1 σ', r1 = (8, 0) → (RP σ' σ m c0 (prG (tkM σ) (twM σ) (σ 74) Q dep S) ∧ GR s σ') → E r1 (Wd xs t dd rr σ')) (hk : tkM σ S.1 = 40) : pCm (Ev d) k_X10_takePart E 128 [(87, 0), (0, dep), (0, -1), (0, 0), (0, 1), (0, 0), (0, -1)] [] (Wd xs t dd rr s) := by
  have hm := hT.1
  obtain ⟨a1, a2, a3, a4, a5, a6, a7⟩ := id h
  have hat : 0 ≤ s 71 7 ∧ s 71 7 ≤ 1001 := by omega
  have hpl : 0 ≤ s 74 (s 71 7) ∧ s 74 (s 71 7) ≤ 1000 := by rw [a1.row 74 rfl]; exact (hT.2.2.1 (s 71 7) a4.1 a4.2).2.1
  obtain ⟨hi, hc18, -⟩ := a7 hf0
  have hwo := wo_tk (w := 7) hT h ⟨by omega, by omega⟩
  clear a6 a7
  have J190 : dep ≠ 5 → pCm (Ev d) k_X10_takePart E 190 [(87, 0), (0, dep), (0, -1), (0, 0), (0, 1), (0, 0), (0, -1)] [] (Wd xs t dd rr s) := by
    intro hd5
    obtain ⟨hQ, hA⟩ := hsub hd5
    have hpr := prG_n (tk := tkM σ) (tw := twM σ) (pl := σ 74) (Q := Q) hf0 (pBd_0 (by omega) (by omega)) hd5
    refine R_aload rfl rfl rfl ?_
    refine R_push rfl ?_
    obtain ⟨s2, hev2, hF2, h72⟩ := sp_X10_hasWord d (by omega) xs t dd rr s 7 ⟨by omega, by omega⟩ hat
    refine R_invv rfl rfl rfl rfl rfl rfl (hev2) rfl ?_
    show pCm _ _ _ 196 _ [(0, _)] _
    refine R_if rfl (fun _ => ?_) (fun h196 => absurd (by omega) h196)
    refine R_aload rfl rfl rfl ?_
    refine R_push rfl ?_
    obtain ⟨hR2, hG2⟩ := RP_no h hF2 (by omega)
    have hsg := sg_tk (ch := 40) hT hR2 rfl
    obtain ⟨s3, hev3, hF3, h73⟩ := sp_X10_hasSign d (by omega) xs t dd rr s2 40 (by omega)
    refine R_invv rfl rfl rfl rfl rfl rfl (hev3) rfl ?_
    show pCm _ _ _ 221 _ [(0, _)] _
    refine R_if rfl (fun h221 => absurd h221 (by omega)) (fun _ => ?_)
    refine R_aload rfl rfl rfl ?_
    refine R_iload rfl rfl ?_
    refine R_push rfl ?_
    refine R_add rfl (by omega) (by omega) ?_
    obtain ⟨hR3, hG3⟩ := RP_ad hT hR2 hf0 (by omega) hF3 (by omega)
    obtain ⟨s4, hev4, hRs4, hGs4⟩ := hA d (by omega) xs t dd rr s3 (pAd S) hR3
    refine R_invv rfl rfl rfl rfl rfl rfl (hev4) rfl ?_
    show pCm _ _ _ 231 _ [] _
    refine R_aload rfl rfl rfl ?_
    refine R_push rfl ?_
    have hat4 : 0 ≤ s4 71 7 ∧ s4 71 7 ≤ 1001 := by have := hRs4.2.2.2.1; omega
    obtain ⟨s5, hev5, hF5, h75, h85⟩ := sp_X10_takeSign d (by omega) xs t dd rr s4 41 hat4 (by rw [hRs4.1.row 74 rfl]; exact (hT.2.2.1 (s4 71 7) hRs4.2.2.2.1.1 hRs4.2.2.2.1.2).2.1)
    obtain ⟨hR5, hG5⟩ := RP_ts hT hRs4 rfl hF5 h75 h85
    refine R_invv rfl rfl rfl rfl rfl rfl (hev5) rfl ?_
    show pCm _ _ _ 237 _ [] _
    refine R_goto rfl ?_
    refine R_vret rfl ?_
    exact hE _ _ rfl ⟨by rw [hpr, if_neg (by omega), if_pos (by omega)]; exact hR5, (hG2.tr hG3).tr (hGs4.tr hG5)⟩
  refine R_iload rfl rfl ?_
  refine R_if rfl (fun h129 => absurd h129 (by omega)) (fun _ => ?_)
  refine R_iload rfl rfl ?_
  refine R_if rfl (fun h133 => absurd h133 (by omega)) (fun _ => ?_)
  refine R_iload rfl rfl ?_
  refine R_if rfl (fun _ => ?_) (fun h138 => absurd (by omega) h138)
  refine R_iload rfl rfl ?_
  refine R_if rfl (fun _ => ?_) (fun h156 => absurd (by omega) h156)
  refine R_iload rfl rfl ?_
  refine R_push rfl ?_
  refine R_ic rfl (fun h174 => ?_) (fun h174 => ?_)
  · try simp only [ne_eq, b2i_e, b2i_1, Classical.not_not] at h174
    refine R_aload rfl rfl rfl ?_
    refine T_geti rfl rfl rfl ?_
    refine R_if rfl (fun h186 => ?_) (fun h186 => ?_)
    · try simp only [ne_eq, b2i_e, b2i_1, Classical.not_not] at h186
      first
      | (exfalso; omega)
      | exact J190 (by omega)
    · try simp only [ne_eq, b2i_e, b2i_1, Classical.not_not] at h186
      refine R_vret rfl ?_
      first
      | (exfalso; omega)
      | exact hE _ _ rfl ⟨by unfold prG; rw [if_neg (by omega), pBd_0 (by omega) (by omega), if_neg (by omega), if_pos (by omega)]; exact hR2, hG2⟩
  · try simp only [ne_eq, b2i_e, b2i_1, Classical.not_not] at h174
    refine R_aload rfl rfl rfl ?_
    refine R_push rfl ?_
    obtain ⟨s2, hev2, hF2, h82⟩ := sp_X10_wrong d (by omega) xs t dd rr s 5 ⟨by omega, by omega⟩ hat hpl
    obtain ⟨hR2, hG2⟩ := RP_er (c := 5) hT h (by omega) hF2 h82
    rw [if_pos hf0] at hR2
    have h82' : 1 ≤ s2 71 8 := by rw [h82, if_pos (by omega)]; omega
    refine R_invv rfl rfl rfl rfl rfl rfl (hev2) rfl ?_
    show pCm _ _ _ 182 _ [] _
    refine R_aload rfl rfl rfl ?_
    refine T_geti rfl rfl rfl ?_
    refine R_if rfl (fun h186 => ?_) (fun h186 => ?_)
    · try simp only [ne_eq, b2i_e, b2i_1, Classical.not_not] at h186
      first
      | (exfalso; omega)
      | exact J190 (by omega)
    · try simp only [ne_eq, b2i_e, b2i_1, Classical.not_not] at h186
      refine R_vret rfl ?_
      first
      | (exfalso; omega)
      | exact hE _ _ rfl ⟨by unfold prG; rw [if_neg (by omega), pBd_0 (by omega) (by omega), if_neg (by omega), if_pos (by omega)]; exact hR2, hG2⟩
set_option maxRecDepth 20000 in
set_option maxHeartbeats 2000000 in
theorem tp_x (d : Nat) (xs : List (Nat × Nat)) (t dd rr : Nat) (σ s : Sg) (E : pE) (D : Nat) (hD : D ≤ d) (Q : PSt → PSt) (dep m c0 : Int) (S : PSt) (hT : TR σ m) (hdep : 0 ≤ dep ∧ dep ≤ 5) (hsub : dep ≠ 5 → MSp 59 D Q (dep + 1) σ m c0 ∧ MSp 55 D (ch0 (tkM σ) Q) (dep + 1) σ m c0) (h : RP s σ m c0 S) (hd2 : 3 ≤ d) (hf0 : S.2.1 = 0) (hE : ∀ r1 σ', r1 = (8, 0) → (RP σ' σ m c0 (prG (tkM σ) (twM σ) (σ 74) Q dep S) ∧ GR s σ') → E r1 (Wd xs t dd rr σ')) (hk : ¬ (tkM σ S.1 = 2 ∨ tkM σ S.1 = 3 ∨ tkM σ S.1 = 4) ∧ tkM σ S.1 ≠ 135 ∧ tkM σ S.1 ≠ 40) : pCm (Ev d) k_X10_takePart E 128 [(87, 0), (0, dep), (0, -1), (0, 0), (0, 0), (0, 0), (0, -1)] [] (Wd xs t dd rr s) := by
  have hm := hT.1
  obtain ⟨a1, a2, a3, a4, a5, a6, a7⟩ := id h
  have hat : 0 ≤ s 71 7 ∧ s 71 7 ≤ 1001 := by omega
  have hpl : 0 ≤ s 74 (s 71 7) ∧ s 74 (s 71 7) ≤ 1000 := by rw [a1.row 74 rfl]; exact (hT.2.2.1 (s 71 7) a4.1 a4.2).2.1
  obtain ⟨hi, hc18, -⟩ := a7 hf0
  have hwo := wo_tk (w := 7) hT h ⟨by omega, by omega⟩
  clear a6 a7
  refine R_iload rfl rfl ?_
  refine R_if rfl (fun h129 => absurd h129 (by omega)) (fun _ => ?_)
  refine R_iload rfl rfl ?_
  refine R_if rfl (fun h133 => absurd h133 (by omega)) (fun _ => ?_)
  refine R_iload rfl rfl ?_
  refine R_if rfl (fun h138 => absurd h138 (by omega)) (fun _ => ?_)
  refine R_iload rfl rfl ?_
  refine R_if rfl (fun h143 => absurd h143 (by omega)) (fun _ => ?_)
  refine R_aload rfl rfl rfl ?_
  refine R_push rfl ?_
  obtain ⟨s2, hev2, hF2, h82⟩ := sp_X10_wrong d (by omega) xs t dd rr s 1 ⟨by omega, by omega⟩ hat hpl
  obtain ⟨hR2, hG2⟩ := RP_er (c := 1) hT h (by omega) hF2 h82
  rw [if_pos hf0] at hR2
  have h82' : 1 ≤ s2 71 8 := by rw [h82, if_pos (by omega)]; omega
  refine R_invv rfl rfl rfl rfl rfl rfl (hev2) rfl ?_
  show pCm _ _ _ 151 _ [] _
  refine R_goto rfl ?_
  refine R_aload rfl rfl rfl ?_
  refine T_geti rfl rfl rfl ?_
  refine R_if rfl (fun h186 => ?_) (fun h186 => ?_)
  · try simp only [ne_eq, b2i_e, b2i_1, Classical.not_not] at h186
    exfalso; omega
  · try simp only [ne_eq, b2i_e, b2i_1, Classical.not_not] at h186
    refine R_vret rfl ?_
    first
    | (exfalso; omega)
    | exact hE _ _ rfl ⟨by unfold prG; rw [if_neg (by omega), pBd_1 (by omega), if_pos (by omega)]; exact hR2, hG2⟩

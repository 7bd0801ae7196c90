set_option maxRecDepth 20000 in
set_option maxHeartbeats 2000000 in
theorem cp_135_37 (d : Nat) (hd : 1 ≤ d) (xs : List (Nat × Nat)) (t dd rr : Nat) (σ s : Sg) (D : Nat) (hD : D + 1 ≤ d) (hr : rr = 53) (Q : PSt → PSt) (dep : Int) (hdep : 0 ≤ dep ∧ dep ≤ 5) (tk tw pl : Int → Int) (m c0 : Int) (S : PSt) (htk : ∀ i, tk i ≤ 255 ∧ 0 ≤ tk i) (htw : ∀ i, -1 ≤ tw i ∧ tw i ≤ 9999) (hm : 0 ≤ m ∧ m ≤ 1000) (hc0 : 0 ≤ c0) (hA : ADV D rr σ tk tw pl 37 m c0) (hQ : dep ≠ 5 → CMp D rr Q (dep + 1) σ tk tw pl 37 m c0 ∧ CMc D rr (ch0 tk Q) 0 (dep + 1) σ tk tw pl 37 m c0) (hK : PK Q m) (hm0 : tk m = 0) (h : CSx s σ tk tw pl 37 m c0 S) (hf : S.2.1 = 0) (hcs : c0 + S.2.2.1 ≤ S.1) (hd2 : 2 ≤ d) (hk : tk S.1 = 135) (hw : tw S.1 = 0) : ∃ σ', Ev d 226 [(68, 0), (0, dep)] (Wd xs t dd rr s) (0, b2i ((prG tk tw pl Q dep S).2.1 = 0)) (Wd xs t dd rr σ') ∧ CSx σ' σ tk tw pl 37 m c0 (prG tk tw pl Q dep S) := by
  obtain ⟨d, rfl⟩ : ∃ e, d = e + 1 := ⟨d - 1, by omega⟩
  subst hr
  obtain ⟨a1, a2, a3, a4, a5, a6⟩ := id h
  obtain ⟨b1, b2, b3, b4, b5, b6⟩ := a6 hf
  clear a5 a6 b6
  have hw0 := htw S.1
  have hne : S.1 ≠ m := fun z => by rw [z, hm0] at hk; omega
  have g1 : (pAd S).1 = S.1 + 1 := rfl
  have g2 : (pAd S).2.2.1 = S.2.2.1 := rfl
  have hbd : pBd tk tw S.1 = 0 := pBd_0 (by omega) (by omega)
  refine evS (nL := 5) (code := k_X7_readPart) rfl dc_X7_readPart rfl (fun E hE => ?_)
  show pCm (Ev d) k_X7_readPart E 0 [(68, 0), (0, dep), (9, 0), (9, 0), (9, 0)] [] _
  refine R_aload rfl rfl rfl ?_
  refine T_geti rfl rfl rfl ?_
  rw [b1]
  refine R_istore rfl rfl ?_
  show pCm _ _ _ _ [_, _, _, _, _] _ _
  refine R_aload rfl rfl rfl ?_
  refine T_geti rfl rfl rfl ?_
  rw [b2]
  refine R_istore rfl rfl ?_
  show pCm _ _ _ _ [_, _, _, _, _] _ _
  refine R_iload rfl rfl ?_
  refine R_push rfl ?_
  refine R_ic rfl (fun h12 => absurd h12 (by omega)) (fun _ => ?_)
  refine R_iload rfl rfl ?_
  refine R_push rfl ?_
  refine R_ic rfl (fun h17 => absurd h17 (by omega)) (fun _ => ?_)
  refine R_iload rfl rfl ?_
  refine R_push rfl ?_
  refine R_ic rfl (fun _ => ?_) (fun h22 => absurd (by omega) h22)
  refine R_push rfl ?_
  refine R_istore rfl rfl ?_
  show pCm _ _ _ _ [_, _, _, _, _] _ _
  refine R_iload rfl rfl ?_
  refine R_if rfl (fun h34 => absurd h34 (by omega)) (fun _ => ?_)
  refine R_iload rfl rfl ?_
  refine R_push rfl ?_
  refine R_ic rfl (fun _ => ?_) (fun h41 => absurd (by omega) h41)
  refine R_iload rfl rfl ?_
  refine R_push rfl ?_
  refine R_ic rfl (fun _ => ?_) (fun h58 => absurd (by omega) h58)
  refine R_iload rfl rfl ?_
  refine R_push rfl ?_
  refine R_ic rfl (fun h74 => ?_) (fun h74 => ?_)
  · try simp only [ne_eq, b2i_e, b2i_1, Classical.not_not] at h74
    refine R_aload rfl rfl rfl ?_
    obtain ⟨s2, hev2, hC2⟩ := hA d (by omega) xs t dd s S h hf (by omega)
    have hd5 : dep ≠ 5 := by omega
    obtain ⟨hQ1, hQ2⟩ := hQ hd5
    have hpr := prG_n (tk := tk) (tw := tw) (pl := pl) (Q := Q) hf hbd hd5
    refine R_invv rfl rfl rfl rfl rfl rfl (hev2) rfl ?_
    show pCm _ _ _ 87 _ [] _
    refine R_iload rfl rfl ?_
    refine R_push rfl ?_
    refine R_ic rfl (fun h91 => absurd h91 (by omega)) (fun _ => ?_)
    refine R_aload rfl rfl rfl ?_
    refine R_iload rfl rfl ?_
    refine R_push rfl ?_
    refine R_add rfl (by omega) (by omega) ?_
    obtain ⟨s3, hev3, hC3⟩ := hQ1 d (by omega) xs t dd s2 (pAd S) hC2 hf (by rw [g1, g2]; omega)
    have hk2 := (hK (pAd S)).2 hf (show 0 ≤ S.1 + 1 by omega) (show S.1 + 1 ≤ m by omega)
    rw [g1, g2] at hk2
    refine R_invv rfl rfl rfl rfl rfl rfl (hev3) rfl ?_
    show pCm _ _ _ 101 _ [(0, _)] _
    refine R_if rfl (fun h101 => ?_) (fun h101 => ?_)
    · try simp only [ne_eq, b2i_e, b2i_1, Classical.not_not] at h101
      refine R_push rfl ?_
      refine R_zret rfl (by first | exact Or.inl rfl | exact Or.inr rfl | omega | grind) ?_
      have hz : (Q (pAd S)).2.1 ≠ 0 := by omega
      have e : prG tk tw pl Q dep S = Q (pAd S) := by rw [hpr, if_pos hk, if_neg hz]
      exact hE _ _ (by rw [e, b2i_f hz]) (by rw [e]; exact hC3)
    · try simp only [ne_eq, b2i_e, b2i_1, Classical.not_not] at h101
      refine R_iload rfl rfl ?_
      refine R_push rfl ?_
      refine R_ic rfl (fun _ => ?_) (fun h107 => absurd (by omega) h107)
      refine R_iload rfl rfl ?_
      refine R_push rfl ?_
      refine R_ic rfl (fun h126 => absurd h126 (by omega)) (fun _ => ?_)
      refine R_aload rfl rfl rfl ?_
      refine T_getr (v := 53) rfl rfl rfl rfl ?_
      refine R_iload rfl rfl ?_
      refine R_iload rfl rfl ?_
      have hz3 : (Q (pAd S)).2.1 = 0 := by omega
      have hb3 := (hC3.2.2.2.2.2 hz3).2.2.2.1
      refine R_invv rfl rfl rfl rfl rfl rfl (sp_X8_write_37 d (by omega) xs t dd 53 s3 (tk S.1) (tw S.1) ⟨by have := htk S.1; omega, by have := htk S.1; omega⟩ hw0 ⟨by omega, by omega⟩) rfl ?_
      show pCm _ _ _ 138 _ [] _
      refine R_push rfl ?_
      refine R_zret rfl (by first | exact Or.inl rfl | exact Or.inr rfl | omega | grind) ?_
      have e : prG tk tw pl Q dep S = pEm (tk S.1) (tw S.1) (Q (pAd S)) := by rw [hpr, if_pos hk, if_pos hz3, hk, hw]
      exact hE _ _ (by rw [e, b2i_t (show (pEm (tk S.1) (tw S.1) (Q (pAd S))).2.1 = 0 from hz3)]) (by rw [e]; exact CS_em (k := tk S.1) (w := tw S.1) (B := 37) (by simp) hC3 hz3 (htk _) (htw _))
  · try simp only [ne_eq, b2i_e, b2i_1, Classical.not_not] at h74
    refine R_aload rfl rfl rfl ?_
    refine R_push rfl ?_
    refine R_invv rfl rfl rfl rfl rfl rfl (sp_X7_refuse d (by omega) xs t dd 53 s 5 ⟨by omega, by omega⟩ a4) rfl ?_
    show pCm _ _ _ 82 _ [(0, _)] _
    refine R_zret rfl (by first | exact Or.inl rfl | exact Or.inr rfl | omega | grind) ?_
    obtain ⟨hC, hn⟩ := CS_er (c := 5) (B := 37) (by simp) h hf (by omega)
    have e : prG tk tw pl Q dep S = pEr pl 5 S := by unfold prG; rw [if_neg (by omega), hbd, if_neg (by omega), if_pos (by omega)]
    exact hE _ _ (by rw [e, b2i_f hn]) (by rw [e]; exact hC)
set_option maxRecDepth 20000 in
set_option maxHeartbeats 2000000 in
theorem cp_40_37 (d : Nat) (hd : 1 ≤ d) (xs : List (Nat × Nat)) (t dd rr : Nat) (σ s : Sg) (D : Nat) (hD : D + 1 ≤ d) (hr : rr = 53) (Q : PSt → PSt) (dep : Int) (hdep : 0 ≤ dep ∧ dep ≤ 5) (tk tw pl : Int → Int) (m c0 : Int) (S : PSt) (htk : ∀ i, tk i ≤ 255 ∧ 0 ≤ tk i) (htw : ∀ i, -1 ≤ tw i ∧ tw i ≤ 9999) (hm : 0 ≤ m ∧ m ≤ 1000) (hc0 : 0 ≤ c0) (hA : ADV D rr σ tk tw pl 37 m c0) (hQ : dep ≠ 5 → CMp D rr Q (dep + 1) σ tk tw pl 37 m c0 ∧ CMc D rr (ch0 tk Q) 0 (dep + 1) σ tk tw pl 37 m c0) (hK : PK Q m) (hm0 : tk m = 0) (h : CSx s σ tk tw pl 37 m c0 S) (hf : S.2.1 = 0) (hcs : c0 + S.2.2.1 ≤ S.1) (hd2 : 2 ≤ d) (hk : tk S.1 = 40) : ∃ σ', Ev d 226 [(68, 0), (0, dep)] (Wd xs t dd rr s) (0, b2i ((prG tk tw pl Q dep S).2.1 = 0)) (Wd xs t dd rr σ') ∧ CSx σ' σ tk tw pl 37 m c0 (prG tk tw pl Q dep S) := by
  obtain ⟨d, rfl⟩ : ∃ e, d = e + 1 := ⟨d - 1, by omega⟩
  subst hr
  obtain ⟨a1, a2, a3, a4, a5, a6⟩ := id h
  obtain ⟨b1, b2, b3, b4, b5, b6⟩ := a6 hf
  clear a5 a6 b6
  have hw0 := htw S.1
  have hne : S.1 ≠ m := fun z => by rw [z, hm0] at hk; omega
  have g1 : (pAd S).1 = S.1 + 1 := rfl
  have g2 : (pAd S).2.2.1 = S.2.2.1 := rfl
  have hbd : pBd tk tw S.1 = 0 := pBd_0 (by omega) (by omega)
  refine evS (nL := 5) (code := k_X7_readPart) rfl dc_X7_readPart rfl (fun E hE => ?_)
  show pCm (Ev d) k_X7_readPart E 0 [(68, 0), (0, dep), (9, 0), (9, 0), (9, 0)] [] _
  refine R_aload rfl rfl rfl ?_
  refine T_geti rfl rfl rfl ?_
  rw [b1]
  refine R_istore rfl rfl ?_
  show pCm _ _ _ _ [_, _, _, _, _] _ _
  refine R_aload rfl rfl rfl ?_
  refine T_geti rfl rfl rfl ?_
  rw [b2]
  refine R_istore rfl rfl ?_
  show pCm _ _ _ _ [_, _, _, _, _] _ _
  refine R_iload rfl rfl ?_
  refine R_push rfl ?_
  refine R_ic rfl (fun h12 => absurd h12 (by omega)) (fun _ => ?_)
  refine R_iload rfl rfl ?_
  refine R_push rfl ?_
  refine R_ic rfl (fun h17 => absurd h17 (by omega)) (fun _ => ?_)
  refine R_iload rfl rfl ?_
  refine R_push rfl ?_
  refine R_ic rfl (fun _ => ?_) (fun h22 => absurd (by omega) h22)
  refine R_push rfl ?_
  refine R_istore rfl rfl ?_
  show pCm _ _ _ _ [_, _, _, _, _] _ _
  refine R_iload rfl rfl ?_
  refine R_if rfl (fun h34 => absurd h34 (by omega)) (fun _ => ?_)
  refine R_iload rfl rfl ?_
  refine R_push rfl ?_
  refine R_ic rfl (fun h41 => absurd h41 (by omega)) (fun _ => ?_)
  refine R_iload rfl rfl ?_
  refine R_push rfl ?_
  refine R_ic rfl (fun _ => ?_) (fun h47 => absurd (by omega) h47)
  refine R_iload rfl rfl ?_
  refine R_push rfl ?_
  refine R_ic rfl (fun _ => ?_) (fun h58 => absurd (by omega) h58)
  refine R_iload rfl rfl ?_
  refine R_push rfl ?_
  refine R_ic rfl (fun h74 => ?_) (fun h74 => ?_)
  · try simp only [ne_eq, b2i_e, b2i_1, Classical.not_not] at h74
    refine R_aload rfl rfl rfl ?_
    obtain ⟨s2, hev2, hC2⟩ := hA d (by omega) xs t dd s S h hf (by omega)
    have hd5 : dep ≠ 5 := by omega
    obtain ⟨hQ1, hQ2⟩ := hQ hd5
    have hpr := prG_n (tk := tk) (tw := tw) (pl := pl) (Q := Q) hf hbd hd5
    refine R_invv rfl rfl rfl rfl rfl rfl (hev2) rfl ?_
    show pCm _ _ _ 87 _ [] _
    refine R_iload rfl rfl ?_
    refine R_push rfl ?_
    refine R_ic rfl (fun _ => ?_) (fun h91 => absurd (by omega) h91)
    refine R_iload rfl rfl ?_
    refine R_push rfl ?_
    refine R_ic rfl (fun h107 => absurd h107 (by omega)) (fun _ => ?_)
    refine R_aload rfl rfl rfl ?_
    refine R_push rfl ?_
    refine R_iload rfl rfl ?_
    refine R_push rfl ?_
    refine R_add rfl (by omega) (by omega) ?_
    obtain ⟨s3, hev3, hC3⟩ := hQ2 d (by omega) xs t dd s2 (pAd S) hC2 hf (by rw [g1, g2]; omega)
    have hk2 := ((ch0_k hK hm0).2.2.2 (pAd S)).2 hf (show 0 ≤ S.1 + 1 by omega) (show S.1 + 1 ≤ m by omega)
    rw [g1, g2] at hk2
    refine R_invv rfl rfl rfl rfl rfl rfl (hev3) rfl ?_
    show pCm _ _ _ 118 _ [(0, _)] _
    refine R_if rfl (fun h118 => ?_) (fun h118 => ?_)
    · try simp only [ne_eq, b2i_e, b2i_1, Classical.not_not] at h118
      refine R_iload rfl rfl ?_
      refine R_push rfl ?_
      refine R_ic rfl (fun _ => ?_) (fun h126 => absurd (by omega) h126)
      refine R_aload rfl rfl rfl ?_
      refine T_geti rfl rfl rfl ?_
      have hz3 : (ch0 tk Q (pAd S)).2.1 = 0 := by omega
      have hb3 := (hC3.2.2.2.2.2 hz3).1
      rw [hb3]
      refine R_push rfl ?_
      refine R_ic rfl (fun h146 => ?_) (fun h146 => ?_)
      · try simp only [ne_eq, b2i_e, b2i_1, Classical.not_not] at h146
        refine R_aload rfl rfl rfl ?_
        obtain ⟨s4, hev4, hC4⟩ := hA d (by omega) xs t dd s3 (ch0 tk Q (pAd S)) hC3 hz3 (by omega)
        refine R_invv rfl rfl rfl rfl rfl rfl (hev4) rfl ?_
        show pCm _ _ _ 159 _ [] _
        refine R_push rfl ?_
        refine R_zret rfl (by first | exact Or.inl rfl | exact Or.inr rfl | omega | grind) ?_
        have e : prG tk tw pl Q dep S = pAd (ch0 tk Q (pAd S)) := by rw [hpr, if_neg (by omega), if_pos hk, if_neg (by omega), if_pos (by omega)]
        exact hE _ _ (by rw [e, b2i_t (show (pAd (ch0 tk Q (pAd S))).2.1 = 0 from hz3)]) (by rw [e]; exact hC4)
      · try simp only [ne_eq, b2i_e, b2i_1, Classical.not_not] at h146
        refine R_aload rfl rfl rfl ?_
        refine R_push rfl ?_
        refine R_invv rfl rfl rfl rfl rfl rfl (sp_X7_refuse d (by omega) xs t dd 53 s3 1 ⟨by omega, by omega⟩ hC3.2.2.2.1) rfl ?_
        show pCm _ _ _ 154 _ [(0, _)] _
        refine R_zret rfl (by first | exact Or.inl rfl | exact Or.inr rfl | omega | grind) ?_
        obtain ⟨hC, hn⟩ := CS_er (c := 1) (B := 37) (by simp) hC3 hz3 (by omega)
        have e : prG tk tw pl Q dep S = pEr pl 1 (ch0 tk Q (pAd S)) := by rw [hpr, if_neg (by omega), if_pos hk, if_neg (by omega), if_neg (by omega)]
        exact hE _ _ (by rw [e, b2i_f hn]) (by rw [e]; exact hC)
    · try simp only [ne_eq, b2i_e, b2i_1, Classical.not_not] at h118
      refine R_push rfl ?_
      refine R_zret rfl (by first | exact Or.inl rfl | exact Or.inr rfl | omega | grind) ?_
      have hz : (ch0 tk Q (pAd S)).2.1 ≠ 0 := by omega
      have e : prG tk tw pl Q dep S = ch0 tk Q (pAd S) := by rw [hpr, if_neg (by omega), if_pos hk, if_pos hz]
      exact hE _ _ (by rw [e, b2i_f hz]) (by rw [e]; exact hC3)
  · try simp only [ne_eq, b2i_e, b2i_1, Classical.not_not] at h74
    refine R_aload rfl rfl rfl ?_
    refine R_push rfl ?_
    refine R_invv rfl rfl rfl rfl rfl rfl (sp_X7_refuse d (by omega) xs t dd 53 s 5 ⟨by omega, by omega⟩ a4) rfl ?_
    show pCm _ _ _ 82 _ [(0, _)] _
    refine R_zret rfl (by first | exact Or.inl rfl | exact Or.inr rfl | omega | grind) ?_
    obtain ⟨hC, hn⟩ := CS_er (c := 5) (B := 37) (by simp) h hf (by omega)
    have e : prG tk tw pl Q dep S = pEr pl 5 S := by unfold prG; rw [if_neg (by omega), hbd, if_neg (by omega), if_pos (by omega)]
    exact hE _ _ (by rw [e, b2i_f hn]) (by rw [e]; exact hC)
set_option maxRecDepth 20000 in
set_option maxHeartbeats 2000000 in
theorem cp_135_44 (d : Nat) (hd : 1 ≤ d) (xs : List (Nat × Nat)) (t dd rr : Nat) (σ s : Sg) (D : Nat) (hD : D + 1 ≤ d) (hr : rr = 60) (Q : PSt → PSt) (dep : Int) (hdep : 0 ≤ dep ∧ dep ≤ 5) (tk tw pl : Int → Int) (m c0 : Int) (S : PSt) (htk : ∀ i, tk i ≤ 255 ∧ 0 ≤ tk i) (htw : ∀ i, -1 ≤ tw i ∧ tw i ≤ 9999) (hm : 0 ≤ m ∧ m ≤ 1000) (hc0 : 0 ≤ c0) (hA : ADV D rr σ tk tw pl 44 m c0) (hQ : dep ≠ 5 → CMp D rr Q (dep + 1) σ tk tw pl 44 m c0 ∧ CMc D rr (ch0 tk Q) 0 (dep + 1) σ tk tw pl 44 m c0) (hK : PK Q m) (hm0 : tk m = 0) (h : CSx s σ tk tw pl 44 m c0 S) (hf : S.2.1 = 0) (hcs : c0 + S.2.2.1 ≤ S.1) (hd2 : 2 ≤ d) (hk : tk S.1 = 135) (hw : tw S.1 = 0) : ∃ σ', Ev d 226 [(68, 0), (0, dep)] (Wd xs t dd rr s) (0, b2i ((prG tk tw pl Q dep S).2.1 = 0)) (Wd xs t dd rr σ') ∧ CSx σ' σ tk tw pl 44 m c0 (prG tk tw pl Q dep S) := by
  obtain ⟨d, rfl⟩ : ∃ e, d = e + 1 := ⟨d - 1, by omega⟩
  subst hr
  obtain ⟨a1, a2, a3, a4, a5, a6⟩ := id h
  obtain ⟨b1, b2, b3, b4, b5, b6⟩ := a6 hf
  clear a5 a6 b6
  have hw0 := htw S.1
  have hne : S.1 ≠ m := fun z => by rw [z, hm0] at hk; omega
  have g1 : (pAd S).1 = S.1 + 1 := rfl
  have g2 : (pAd S).2.2.1 = S.2.2.1 := rfl
  have hbd : pBd tk tw S.1 = 0 := pBd_0 (by omega) (by omega)
  refine evS (nL := 5) (code := k_X7_readPart) rfl dc_X7_readPart rfl (fun E hE => ?_)
  show pCm (Ev d) k_X7_readPart E 0 [(68, 0), (0, dep), (9, 0), (9, 0), (9, 0)] [] _
  refine R_aload rfl rfl rfl ?_
  refine T_geti rfl rfl rfl ?_
  rw [b1]
  refine R_istore rfl rfl ?_
  show pCm _ _ _ _ [_, _, _, _, _] _ _
  refine R_aload rfl rfl rfl ?_
  refine T_geti rfl rfl rfl ?_
  rw [b2]
  refine R_istore rfl rfl ?_
  show pCm _ _ _ _ [_, _, _, _, _] _ _
  refine R_iload rfl rfl ?_
  refine R_push rfl ?_
  refine R_ic rfl (fun h12 => absurd h12 (by omega)) (fun _ => ?_)
  refine R_iload rfl rfl ?_
  refine R_push rfl ?_
  refine R_ic rfl (fun h17 => absurd h17 (by omega)) (fun _ => ?_)
  refine R_iload rfl rfl ?_
  refine R_push rfl ?_
  refine R_ic rfl (fun _ => ?_) (fun h22 => absurd (by omega) h22)
  refine R_push rfl ?_
  refine R_istore rfl rfl ?_
  show pCm _ _ _ _ [_, _, _, _, _] _ _
  refine R_iload rfl rfl ?_
  refine R_if rfl (fun h34 => absurd h34 (by omega)) (fun _ => ?_)
  refine R_iload rfl rfl ?_
  refine R_push rfl ?_
  refine R_ic rfl (fun _ => ?_) (fun h41 => absurd (by omega) h41)
  refine R_iload rfl rfl ?_
  refine R_push rfl ?_
  refine R_ic rfl (fun _ => ?_) (fun h58 => absurd (by omega) h58)
  refine R_iload rfl rfl ?_
  refine R_push rfl ?_
  refine R_ic rfl (fun h74 => ?_) (fun h74 => ?_)
  · try simp only [ne_eq, b2i_e, b2i_1, Classical.not_not] at h74
    refine R_aload rfl rfl rfl ?_
    obtain ⟨s2, hev2, hC2⟩ := hA d (by omega) xs t dd s S h hf (by omega)
    have hd5 : dep ≠ 5 := by omega
    obtain ⟨hQ1, hQ2⟩ := hQ hd5
    have hpr := prG_n (tk := tk) (tw := tw) (pl := pl) (Q := Q) hf hbd hd5
    refine R_invv rfl rfl rfl rfl rfl rfl (hev2) rfl ?_
    show pCm _ _ _ 87 _ [] _
    refine R_iload rfl rfl ?_
    refine R_push rfl ?_
    refine R_ic rfl (fun h91 => absurd h91 (by omega)) (fun _ => ?_)
    refine R_aload rfl rfl rfl ?_
    refine R_iload rfl rfl ?_
    refine R_push rfl ?_
    refine R_add rfl (by omega) (by omega) ?_
    obtain ⟨s3, hev3, hC3⟩ := hQ1 d (by omega) xs t dd s2 (pAd S) hC2 hf (by rw [g1, g2]; omega)
    have hk2 := (hK (pAd S)).2 hf (show 0 ≤ S.1 + 1 by omega) (show S.1 + 1 ≤ m by omega)
    rw [g1, g2] at hk2
    refine R_invv rfl rfl rfl rfl rfl rfl (hev3) rfl ?_
    show pCm _ _ _ 101 _ [(0, _)] _
    refine R_if rfl (fun h101 => ?_) (fun h101 => ?_)
    · try simp only [ne_eq, b2i_e, b2i_1, Classical.not_not] at h101
      refine R_push rfl ?_
      refine R_zret rfl (by first | exact Or.inl rfl | exact Or.inr rfl | omega | grind) ?_
      have hz : (Q (pAd S)).2.1 ≠ 0 := by omega
      have e : prG tk tw pl Q dep S = Q (pAd S) := by rw [hpr, if_pos hk, if_neg hz]
      exact hE _ _ (by rw [e, b2i_f hz]) (by rw [e]; exact hC3)
    · try simp only [ne_eq, b2i_e, b2i_1, Classical.not_not] at h101
      refine R_iload rfl rfl ?_
      refine R_push rfl ?_
      refine R_ic rfl (fun _ => ?_) (fun h107 => absurd (by omega) h107)
      refine R_iload rfl rfl ?_
      refine R_push rfl ?_
      refine R_ic rfl (fun h126 => absurd h126 (by omega)) (fun _ => ?_)
      refine R_aload rfl rfl rfl ?_
      refine T_getr (v := 60) rfl rfl rfl rfl ?_
      refine R_iload rfl rfl ?_
      refine R_iload rfl rfl ?_
      have hz3 : (Q (pAd S)).2.1 = 0 := by omega
      have hb3 := (hC3.2.2.2.2.2 hz3).2.2.2.1
      refine R_invv rfl rfl rfl rfl rfl rfl (sp_X8_write_44 d (by omega) xs t dd 60 s3 (tk S.1) (tw S.1) ⟨by have := htk S.1; omega, by have := htk S.1; omega⟩ hw0 ⟨by omega, by omega⟩) rfl ?_
      show pCm _ _ _ 138 _ [] _
      refine R_push rfl ?_
      refine R_zret rfl (by first | exact Or.inl rfl | exact Or.inr rfl | omega | grind) ?_
      have e : prG tk tw pl Q dep S = pEm (tk S.1) (tw S.1) (Q (pAd S)) := by rw [hpr, if_pos hk, if_pos hz3, hk, hw]
      exact hE _ _ (by rw [e, b2i_t (show (pEm (tk S.1) (tw S.1) (Q (pAd S))).2.1 = 0 from hz3)]) (by rw [e]; exact CS_em (k := tk S.1) (w := tw S.1) (B := 44) (by simp) hC3 hz3 (htk _) (htw _))
  · try simp only [ne_eq, b2i_e, b2i_1, Classical.not_not] at h74
    refine R_aload rfl rfl rfl ?_
    refine R_push rfl ?_
    refine R_invv rfl rfl rfl rfl rfl rfl (sp_X7_refuse d (by omega) xs t dd 60 s 5 ⟨by omega, by omega⟩ a4) rfl ?_
    show pCm _ _ _ 82 _ [(0, _)] _
    refine R_zret rfl (by first | exact Or.inl rfl | exact Or.inr rfl | omega | grind) ?_
    obtain ⟨hC, hn⟩ := CS_er (c := 5) (B := 44) (by simp) h hf (by omega)
    have e : prG tk tw pl Q dep S = pEr pl 5 S := by unfold prG; rw [if_neg (by omega), hbd, if_neg (by omega), if_pos (by omega)]
    exact hE _ _ (by rw [e, b2i_f hn]) (by rw [e]; exact hC)
set_option maxRecDepth 20000 in
set_option maxHeartbeats 2000000 in
theorem cp_40_44 (d : Nat) (hd : 1 ≤ d) (xs : List (Nat × Nat)) (t dd rr : Nat) (σ s : Sg) (D : Nat) (hD : D + 1 ≤ d) (hr : rr = 60) (Q : PSt → PSt) (dep : Int) (hdep : 0 ≤ dep ∧ dep ≤ 5) (tk tw pl : Int → Int) (m c0 : Int) (S : PSt) (htk : ∀ i, tk i ≤ 255 ∧ 0 ≤ tk i) (htw : ∀ i, -1 ≤ tw i ∧ tw i ≤ 9999) (hm : 0 ≤ m ∧ m ≤ 1000) (hc0 : 0 ≤ c0) (hA : ADV D rr σ tk tw pl 44 m c0) (hQ : dep ≠ 5 → CMp D rr Q (dep + 1) σ tk tw pl 44 m c0 ∧ CMc D rr (ch0 tk Q) 0 (dep + 1) σ tk tw pl 44 m c0) (hK : PK Q m) (hm0 : tk m = 0) (h : CSx s σ tk tw pl 44 m c0 S) (hf : S.2.1 = 0) (hcs : c0 + S.2.2.1 ≤ S.1) (hd2 : 2 ≤ d) (hk : tk S.1 = 40) : ∃ σ', Ev d 226 [(68, 0), (0, dep)] (Wd xs t dd rr s) (0, b2i ((prG tk tw pl Q dep S).2.1 = 0)) (Wd xs t dd rr σ') ∧ CSx σ' σ tk tw pl 44 m c0 (prG tk tw pl Q dep S) := by
  obtain ⟨d, rfl⟩ : ∃ e, d = e + 1 := ⟨d - 1, by omega⟩
  subst hr
  obtain ⟨a1, a2, a3, a4, a5, a6⟩ := id h
  obtain ⟨b1, b2, b3, b4, b5, b6⟩ := a6 hf
  clear a5 a6 b6
  have hw0 := htw S.1
  have hne : S.1 ≠ m := fun z => by rw [z, hm0] at hk; omega
  have g1 : (pAd S).1 = S.1 + 1 := rfl
  have g2 : (pAd S).2.2.1 = S.2.2.1 := rfl
  have hbd : pBd tk tw S.1 = 0 := pBd_0 (by omega) (by omega)
  refine evS (nL := 5) (code := k_X7_readPart) rfl dc_X7_readPart rfl (fun E hE => ?_)
  show pCm (Ev d) k_X7_readPart E 0 [(68, 0), (0, dep), (9, 0), (9, 0), (9, 0)] [] _
  refine R_aload rfl rfl rfl ?_
  refine T_geti rfl rfl rfl ?_
  rw [b1]
  refine R_istore rfl rfl ?_
  show pCm _ _ _ _ [_, _, _, _, _] _ _
  refine R_aload rfl rfl rfl ?_
  refine T_geti rfl rfl rfl ?_
  rw [b2]
  refine R_istore rfl rfl ?_
  show pCm _ _ _ _ [_, _, _, _, _] _ _
  refine R_iload rfl rfl ?_
  refine R_push rfl ?_
  refine R_ic rfl (fun h12 => absurd h12 (by omega)) (fun _ => ?_)
  refine R_iload rfl rfl ?_
  refine R_push rfl ?_
  refine R_ic rfl (fun h17 => absurd h17 (by omega)) (fun _ => ?_)
  refine R_iload rfl rfl ?_
  refine R_push rfl ?_
  refine R_ic rfl (fun _ => ?_) (fun h22 => absurd (by omega) h22)
  refine R_push rfl ?_
  refine R_istore rfl rfl ?_
  show pCm _ _ _ _ [_, _, _, _, _] _ _
  refine R_iload rfl rfl ?_
  refine R_if rfl (fun h34 => absurd h34 (by omega)) (fun _ => ?_)
  refine R_iload rfl rfl ?_
  refine R_push rfl ?_
  refine R_ic rfl (fun h41 => absurd h41 (by omega)) (fun _ => ?_)
  refine R_iload rfl rfl ?_
  refine R_push rfl ?_
  refine R_ic rfl (fun _ => ?_) (fun h47 => absurd (by omega) h47)
  refine R_iload rfl rfl ?_
  refine R_push rfl ?_
  refine R_ic rfl (fun _ => ?_) (fun h58 => absurd (by omega) h58)
  refine R_iload rfl rfl ?_
  refine R_push rfl ?_
  refine R_ic rfl (fun h74 => ?_) (fun h74 => ?_)
  · try simp only [ne_eq, b2i_e, b2i_1, Classical.not_not] at h74
    refine R_aload rfl rfl rfl ?_
    obtain ⟨s2, hev2, hC2⟩ := hA d (by omega) xs t dd s S h hf (by omega)
    have hd5 : dep ≠ 5 := by omega
    obtain ⟨hQ1, hQ2⟩ := hQ hd5
    have hpr := prG_n (tk := tk) (tw := tw) (pl := pl) (Q := Q) hf hbd hd5
    refine R_invv rfl rfl rfl rfl rfl rfl (hev2) rfl ?_
    show pCm _ _ _ 87 _ [] _
    refine R_iload rfl rfl ?_
    refine R_push rfl ?_
    refine R_ic rfl (fun _ => ?_) (fun h91 => absurd (by omega) h91)
    refine R_iload rfl rfl ?_
    refine R_push rfl ?_
    refine R_ic rfl (fun h107 => absurd h107 (by omega)) (fun _ => ?_)
    refine R_aload rfl rfl rfl ?_
    refine R_push rfl ?_
    refine R_iload rfl rfl ?_
    refine R_push rfl ?_
    refine R_add rfl (by omega) (by omega) ?_
    obtain ⟨s3, hev3, hC3⟩ := hQ2 d (by omega) xs t dd s2 (pAd S) hC2 hf (by rw [g1, g2]; omega)
    have hk2 := ((ch0_k hK hm0).2.2.2 (pAd S)).2 hf (show 0 ≤ S.1 + 1 by omega) (show S.1 + 1 ≤ m by omega)
    rw [g1, g2] at hk2
    refine R_invv rfl rfl rfl rfl rfl rfl (hev3) rfl ?_
    show pCm _ _ _ 118 _ [(0, _)] _
    refine R_if rfl (fun h118 => ?_) (fun h118 => ?_)
    · try simp only [ne_eq, b2i_e, b2i_1, Classical.not_not] at h118
      refine R_iload rfl rfl ?_
      refine R_push rfl ?_
      refine R_ic rfl (fun _ => ?_) (fun h126 => absurd (by omega) h126)
      refine R_aload rfl rfl rfl ?_
      refine T_geti rfl rfl rfl ?_
      have hz3 : (ch0 tk Q (pAd S)).2.1 = 0 := by omega
      have hb3 := (hC3.2.2.2.2.2 hz3).1
      rw [hb3]
      refine R_push rfl ?_
      refine R_ic rfl (fun h146 => ?_) (fun h146 => ?_)
      · try simp only [ne_eq, b2i_e, b2i_1, Classical.not_not] at h146
        refine R_aload rfl rfl rfl ?_
        obtain ⟨s4, hev4, hC4⟩ := hA d (by omega) xs t dd s3 (ch0 tk Q (pAd S)) hC3 hz3 (by omega)
        refine R_invv rfl rfl rfl rfl rfl rfl (hev4) rfl ?_
        show pCm _ _ _ 159 _ [] _
        refine R_push rfl ?_
        refine R_zret rfl (by first | exact Or.inl rfl | exact Or.inr rfl | omega | grind) ?_
        have e : prG tk tw pl Q dep S = pAd (ch0 tk Q (pAd S)) := by rw [hpr, if_neg (by omega), if_pos hk, if_neg (by omega), if_pos (by omega)]
        exact hE _ _ (by rw [e, b2i_t (show (pAd (ch0 tk Q (pAd S))).2.1 = 0 from hz3)]) (by rw [e]; exact hC4)
      · try simp only [ne_eq, b2i_e, b2i_1, Classical.not_not] at h146
        refine R_aload rfl rfl rfl ?_
        refine R_push rfl ?_
        refine R_invv rfl rfl rfl rfl rfl rfl (sp_X7_refuse d (by omega) xs t dd 60 s3 1 ⟨by omega, by omega⟩ hC3.2.2.2.1) rfl ?_
        show pCm _ _ _ 154 _ [(0, _)] _
        refine R_zret rfl (by first | exact Or.inl rfl | exact Or.inr rfl | omega | grind) ?_
        obtain ⟨hC, hn⟩ := CS_er (c := 1) (B := 44) (by simp) hC3 hz3 (by omega)
        have e : prG tk tw pl Q dep S = pEr pl 1 (ch0 tk Q (pAd S)) := by rw [hpr, if_neg (by omega), if_pos hk, if_neg (by omega), if_neg (by omega)]
        exact hE _ _ (by rw [e, b2i_f hn]) (by rw [e]; exact hC)
    · try simp only [ne_eq, b2i_e, b2i_1, Classical.not_not] at h118
      refine R_push rfl ?_
      refine R_zret rfl (by first | exact Or.inl rfl | exact Or.inr rfl | omega | grind) ?_
      have hz : (ch0 tk Q (pAd S)).2.1 ≠ 0 := by omega
      have e : prG tk tw pl Q dep S = ch0 tk Q (pAd S) := by rw [hpr, if_neg (by omega), if_pos hk, if_pos hz]
      exact hE _ _ (by rw [e, b2i_f hz]) (by rw [e]; exact hC3)
  · try simp only [ne_eq, b2i_e, b2i_1, Classical.not_not] at h74
    refine R_aload rfl rfl rfl ?_
    refine R_push rfl ?_
    refine R_invv rfl rfl rfl rfl rfl rfl (sp_X7_refuse d (by omega) xs t dd 60 s 5 ⟨by omega, by omega⟩ a4) rfl ?_
    show pCm _ _ _ 82 _ [(0, _)] _
    refine R_zret rfl (by first | exact Or.inl rfl | exact Or.inr rfl | omega | grind) ?_
    obtain ⟨hC, hn⟩ := CS_er (c := 5) (B := 44) (by simp) h hf (by omega)
    have e : prG tk tw pl Q dep S = pEr pl 5 S := by unfold prG; rw [if_neg (by omega), hbd, if_neg (by omega), if_pos (by omega)]
    exact hE _ _ (by rw [e, b2i_f hn]) (by rw [e]; exact hC)

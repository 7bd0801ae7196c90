def CMp (D rr : Nat) (F : PSt → PSt) (dep : Int) (σ : Sg) (tk tw pl : Int → Int) (B : Nat) (m c0 : Int) : Prop := ∀ d, D ≤ d → ∀ (xs : List (Nat × Nat)) (t dd : Nat) (s : Sg) (S : PSt), CSx s σ tk tw pl B m c0 S → S.2.1 = 0 → c0 + S.2.2.1 ≤ S.1 → ∃ s', Ev d 226 [(68, 0), (0, dep)] (Wd xs t dd rr s) (0, b2i ((F S).2.1 = 0)) (Wd xs t dd rr s') ∧ CSx s' σ tk tw pl B m c0 (F S)
set_option maxRecDepth 20000 in
set_option maxHeartbeats 2000000 in
theorem cp_2_37 (d : Nat) (hd : 1 ≤ d) (xs : List (Nat × Nat)) (t dd rr : Nat) (σ s : Sg) (D : Nat) (hD : D + 1 ≤ d) (hr : rr = 53) (Q : PSt → PSt) (dep : Int) (hdep : 0 ≤ dep ∧ dep ≤ 5) (tk tw pl : Int → Int) (m c0 : Int) (S : PSt) (htk : ∀ i, tk i ≤ 255 ∧ 0 ≤ tk i) (htw : ∀ i, -1 ≤ tw i ∧ tw i ≤ 9999) (hm : 0 ≤ m ∧ m ≤ 1000) (hc0 : 0 ≤ c0) (hA : ADV D rr σ tk tw pl 37 m c0) (hQ : dep ≠ 5 → CMp D rr Q (dep + 1) σ tk tw pl 37 m c0 ∧ CMc D rr (ch0 tk Q) 0 (dep + 1) σ tk tw pl 37 m c0) (hK : PK Q m) (hm0 : tk m = 0) (h : CSx s σ tk tw pl 37 m c0 S) (hf : S.2.1 = 0) (hcs : c0 + S.2.2.1 ≤ S.1) (hd2 : 2 ≤ d) (hk : tk S.1 = 2) : ∃ σ', Ev d 226 [(68, 0), (0, dep)] (Wd xs t dd rr s) (0, b2i ((prG tk tw pl Q dep S).2.1 = 0)) (Wd xs t dd rr σ') ∧ CSx σ' σ tk tw pl 37 m c0 (prG tk tw pl Q dep S) := by
  obtain ⟨d, rfl⟩ : ∃ e, d = e + 1 := ⟨d - 1, by omega⟩
  subst hr
  obtain ⟨a1, a2, a3, a4, a5, a6⟩ := id h
  obtain ⟨b1, b2, b3, b4, b5, b6⟩ := a6 hf
  clear a5 a6 b6
  have hw0 := htw S.1
  have hne : S.1 ≠ m := fun z => by rw [z, hm0] at hk; omega
  have g1 : (pAd S).1 = S.1 + 1 := rfl
  have g2 : (pAd S).2.2.1 = S.2.2.1 := rfl
  have hbd : pBd tk tw S.1 = 0 := pBd_0 (by omega) (by omega)
  refine evS (nL := 5) (code := k_X7_readPart) rfl dc_X7_readPart rfl (fun E hE => ?_)
  show pCm (Ev d) k_X7_readPart E 0 [(68, 0), (0, dep), (9, 0), (9, 0), (9, 0)] [] _
  refine R_aload rfl rfl rfl ?_
  refine T_geti rfl rfl rfl ?_
  rw [b1]
  refine R_istore rfl rfl ?_
  show pCm _ _ _ _ [_, _, _, _, _] _ _
  refine R_aload rfl rfl rfl ?_
  refine T_geti rfl rfl rfl ?_
  rw [b2]
  refine R_istore rfl rfl ?_
  show pCm _ _ _ _ [_, _, _, _, _] _ _
  refine R_iload rfl rfl ?_
  refine R_push rfl ?_
  refine R_ic rfl (fun _ => ?_) (fun h12 => absurd (by omega) h12)
  refine R_push rfl ?_
  refine R_goto rfl ?_
  refine R_istore rfl rfl ?_
  show pCm _ _ _ _ [_, _, _, _, _] _ _
  refine R_iload rfl rfl ?_
  refine R_if rfl (fun _ => ?_) (fun h34 => absurd (by omega) h34)
  refine R_iload rfl rfl ?_
  refine R_push rfl ?_
  refine R_ic rfl (fun _ => ?_) (fun h58 => absurd (by omega) h58)
  refine R_iload rfl rfl ?_
  refine R_push rfl ?_
  refine R_ic rfl (fun h74 => ?_) (fun h74 => ?_)
  · try simp only [ne_eq, b2i_e, b2i_1, Classical.not_not] at h74
    refine R_aload rfl rfl rfl ?_
    obtain ⟨s2, hev2, hC2⟩ := hA d (by omega) xs t dd s S h hf (by omega)
    have hd5 : dep ≠ 5 := by omega
    obtain ⟨hQ1, hQ2⟩ := hQ hd5
    have hpr := prG_n (tk := tk) (tw := tw) (pl := pl) (Q := Q) hf hbd hd5
    refine R_invv rfl rfl rfl rfl rfl rfl (hev2) rfl ?_
    show pCm _ _ _ 87 _ [] _
    refine R_iload rfl rfl ?_
    refine R_push rfl ?_
    refine R_ic rfl (fun _ => ?_) (fun h91 => absurd (by omega) h91)
    refine R_iload rfl rfl ?_
    refine R_push rfl ?_
    refine R_ic rfl (fun _ => ?_) (fun h107 => absurd (by omega) h107)
    refine R_iload rfl rfl ?_
    refine R_push rfl ?_
    refine R_ic rfl (fun h126 => absurd h126 (by omega)) (fun _ => ?_)
    refine R_aload rfl rfl rfl ?_
    refine T_getr (v := 53) rfl rfl rfl rfl ?_
    refine R_iload rfl rfl ?_
    refine R_iload rfl rfl ?_
    have hb2 := (hC2.2.2.2.2.2 hf).2.2.2.1
    rw [g2] at hb2
    refine R_invv rfl rfl rfl rfl rfl rfl (sp_X8_write_37 d (by omega) xs t dd 53 s2 (tk S.1) (tw S.1) ⟨by have := htk S.1; omega, by have := htk S.1; omega⟩ hw0 ⟨by omega, by omega⟩) rfl ?_
    show pCm _ _ _ 138 _ [] _
    refine R_push rfl ?_
    refine R_zret rfl (by first | exact Or.inl rfl | exact Or.inr rfl | omega | grind) ?_
    have e : prG tk tw pl Q dep S = pEm (tk S.1) (tw S.1) (pAd S) := by rw [hpr, if_neg (by omega), if_neg (by omega)]
    exact hE _ _ (by rw [e, b2i_t (show (pEm (tk S.1) (tw S.1) (pAd S)).2.1 = 0 from hf)]) (by rw [e]; exact CS_em (k := tk S.1) (w := tw S.1) (B := 37) (by simp) hC2 hf (htk _) (htw _))
  · try simp only [ne_eq, b2i_e, b2i_1, Classical.not_not] at h74
    refine R_aload rfl rfl rfl ?_
    refine R_push rfl ?_
    refine R_invv rfl rfl rfl rfl rfl rfl (sp_X7_refuse d (by omega) xs t dd 53 s 5 ⟨by omega, by omega⟩ a4) rfl ?_
    show pCm _ _ _ 82 _ [(0, _)] _
    refine R_zret rfl (by first | exact Or.inl rfl | exact Or.inr rfl | omega | grind) ?_
    first
    | (obtain ⟨hC, hn⟩ := CS_er (c := 5) (B := 37) (by simp) h hf (by omega)
       have e : prG tk tw pl Q dep S = pEr pl 5 S := by unfold prG; rw [if_neg (by omega), hbd, if_neg (by omega), if_pos (by omega)]
       exact hE _ _ (by rw [e, b2i_f hn]) (by rw [e]; exact hC))
set_option maxRecDepth 20000 in
set_option maxHeartbeats 2000000 in
theorem cp_4_37 (d : Nat) (hd : 1 ≤ d) (xs : List (Nat × Nat)) (t dd rr : Nat) (σ s : Sg) (D : Nat) (hD : D + 1 ≤ d) (hr : rr = 53) (Q : PSt → PSt) (dep : Int) (hdep : 0 ≤ dep ∧ dep ≤ 5) (tk tw pl : Int → Int) (m c0 : Int) (S : PSt) (htk : ∀ i, tk i ≤ 255 ∧ 0 ≤ tk i) (htw : ∀ i, -1 ≤ tw i ∧ tw i ≤ 9999) (hm : 0 ≤ m ∧ m ≤ 1000) (hc0 : 0 ≤ c0) (hA : ADV D rr σ tk tw pl 37 m c0) (hQ : dep ≠ 5 → CMp D rr Q (dep + 1) σ tk tw pl 37 m c0 ∧ CMc D rr (ch0 tk Q) 0 (dep + 1) σ tk tw pl 37 m c0) (hK : PK Q m) (hm0 : tk m = 0) (h : CSx s σ tk tw pl 37 m c0 S) (hf : S.2.1 = 0) (hcs : c0 + S.2.2.1 ≤ S.1) (hd2 : 2 ≤ d) (hk : tk S.1 = 4) : ∃ σ', Ev d 226 [(68, 0), (0, dep)] (Wd xs t dd rr s) (0, b2i ((prG tk tw pl Q dep S).2.1 = 0)) (Wd xs t dd rr σ') ∧ CSx σ' σ tk tw pl 37 m c0 (prG tk tw pl Q dep S) := by
  obtain ⟨d, rfl⟩ : ∃ e, d = e + 1 := ⟨d - 1, by omega⟩
  subst hr
  obtain ⟨a1, a2, a3, a4, a5, a6⟩ := id h
  obtain ⟨b1, b2, b3, b4, b5, b6⟩ := a6 hf
  clear a5 a6 b6
  have hw0 := htw S.1
  have hne : S.1 ≠ m := fun z => by rw [z, hm0] at hk; omega
  have g1 : (pAd S).1 = S.1 + 1 := rfl
  have g2 : (pAd S).2.2.1 = S.2.2.1 := rfl
  have hbd : pBd tk tw S.1 = 0 := pBd_0 (by omega) (by omega)
  refine evS (nL := 5) (code := k_X7_readPart) rfl dc_X7_readPart rfl (fun E hE => ?_)
  show pCm (Ev d) k_X7_readPart E 0 [(68, 0), (0, dep), (9, 0), (9, 0), (9, 0)] [] _
  refine R_aload rfl rfl rfl ?_
  refine T_geti rfl rfl rfl ?_
  rw [b1]
  refine R_istore rfl rfl ?_
  show pCm _ _ _ _ [_, _, _, _, _] _ _
  refine R_aload rfl rfl rfl ?_
  refine T_geti rfl rfl rfl ?_
  rw [b2]
  refine R_istore rfl rfl ?_
  show pCm _ _ _ _ [_, _, _, _, _] _ _
  refine R_iload rfl rfl ?_
  refine R_push rfl ?_
  refine R_ic rfl (fun h12 => absurd h12 (by omega)) (fun _ => ?_)
  refine R_iload rfl rfl ?_
  refine R_push rfl ?_
  refine R_ic rfl (fun h17 => absurd h17 (by omega)) (fun _ => ?_)
  refine R_iload rfl rfl ?_
  refine R_push rfl ?_
  refine R_ic rfl (fun h22 => absurd h22 (by omega)) (fun _ => ?_)
  refine R_push rfl ?_
  refine R_goto rfl ?_
  refine R_istore rfl rfl ?_
  show pCm _ _ _ _ [_, _, _, _, _] _ _
  refine R_iload rfl rfl ?_
  refine R_if rfl (fun _ => ?_) (fun h34 => absurd (by omega) h34)
  refine R_iload rfl rfl ?_
  refine R_push rfl ?_
  refine R_ic rfl (fun _ => ?_) (fun h58 => absurd (by omega) h58)
  refine R_iload rfl rfl ?_
  refine R_push rfl ?_
  refine R_ic rfl (fun h74 => ?_) (fun h74 => ?_)
  · try simp only [ne_eq, b2i_e, b2i_1, Classical.not_not] at h74
    refine R_aload rfl rfl rfl ?_
    obtain ⟨s2, hev2, hC2⟩ := hA d (by omega) xs t dd s S h hf (by omega)
    have hd5 : dep ≠ 5 := by omega
    obtain ⟨hQ1, hQ2⟩ := hQ hd5
    have hpr := prG_n (tk := tk) (tw := tw) (pl := pl) (Q := Q) hf hbd hd5
    refine R_invv rfl rfl rfl rfl rfl rfl (hev2) rfl ?_
    show pCm _ _ _ 87 _ [] _
    refine R_iload rfl rfl ?_
    refine R_push rfl ?_
    refine R_ic rfl (fun _ => ?_) (fun h91 => absurd (by omega) h91)
    refine R_iload rfl rfl ?_
    refine R_push rfl ?_
    refine R_ic rfl (fun _ => ?_) (fun h107 => absurd (by omega) h107)
    refine R_iload rfl rfl ?_
    refine R_push rfl ?_
    refine R_ic rfl (fun h126 => absurd h126 (by omega)) (fun _ => ?_)
    refine R_aload rfl rfl rfl ?_
    refine T_getr (v := 53) rfl rfl rfl rfl ?_
    refine R_iload rfl rfl ?_
    refine R_iload rfl rfl ?_
    have hb2 := (hC2.2.2.2.2.2 hf).2.2.2.1
    rw [g2] at hb2
    refine R_invv rfl rfl rfl rfl rfl rfl (sp_X8_write_37 d (by omega) xs t dd 53 s2 (tk S.1) (tw S.1) ⟨by have := htk S.1; omega, by have := htk S.1; omega⟩ hw0 ⟨by omega, by omega⟩) rfl ?_
    show pCm _ _ _ 138 _ [] _
    refine R_push rfl ?_
    refine R_zret rfl (by first | exact Or.inl rfl | exact Or.inr rfl | omega | grind) ?_
    have e : prG tk tw pl Q dep S = pEm (tk S.1) (tw S.1) (pAd S) := by rw [hpr, if_neg (by omega), if_neg (by omega)]
    exact hE _ _ (by rw [e, b2i_t (show (pEm (tk S.1) (tw S.1) (pAd S)).2.1 = 0 from hf)]) (by rw [e]; exact CS_em (k := tk S.1) (w := tw S.1) (B := 37) (by simp) hC2 hf (htk _) (htw _))
  · try simp only [ne_eq, b2i_e, b2i_1, Classical.not_not] at h74
    refine R_aload rfl rfl rfl ?_
    refine R_push rfl ?_
    refine R_invv rfl rfl rfl rfl rfl rfl (sp_X7_refuse d (by omega) xs t dd 53 s 5 ⟨by omega, by omega⟩ a4) rfl ?_
    show pCm _ _ _ 82 _ [(0, _)] _
    refine R_zret rfl (by first | exact Or.inl rfl | exact Or.inr rfl | omega | grind) ?_
    first
    | (obtain ⟨hC, hn⟩ := CS_er (c := 5) (B := 37) (by simp) h hf (by omega)
       have e : prG tk tw pl Q dep S = pEr pl 5 S := by unfold prG; rw [if_neg (by omega), hbd, if_neg (by omega), if_pos (by omega)]
       exact hE _ _ (by rw [e, b2i_f hn]) (by rw [e]; exact hC))
set_option maxRecDepth 20000 in
set_option maxHeartbeats 2000000 in
theorem cp_3_37 (d : Nat) (hd : 1 ≤ d) (xs : List (Nat × Nat)) (t dd rr : Nat) (σ s : Sg) (D : Nat) (hD : D + 1 ≤ d) (hr : rr = 53) (Q : PSt → PSt) (dep : Int) (hdep : 0 ≤ dep ∧ dep ≤ 5) (tk tw pl : Int → Int) (m c0 : Int) (S : PSt) (htk : ∀ i, tk i ≤ 255 ∧ 0 ≤ tk i) (htw : ∀ i, -1 ≤ tw i ∧ tw i ≤ 9999) (hm : 0 ≤ m ∧ m ≤ 1000) (hc0 : 0 ≤ c0) (hA : ADV D rr σ tk tw pl 37 m c0) (hQ : dep ≠ 5 → CMp D rr Q (dep + 1) σ tk tw pl 37 m c0 ∧ CMc D rr (ch0 tk Q) 0 (dep + 1) σ tk tw pl 37 m c0) (hK : PK Q m) (hm0 : tk m = 0) (h : CSx s σ tk tw pl 37 m c0 S) (hf : S.2.1 = 0) (hcs : c0 + S.2.2.1 ≤ S.1) (hd2 : 2 ≤ d) (hk : tk S.1 = 3) (hw : tw S.1 ≠ -1) : ∃ σ', Ev d 226 [(68, 0), (0, dep)] (Wd xs t dd rr s) (0, b2i ((prG tk tw pl Q dep S).2.1 = 0)) (Wd xs t dd rr σ') ∧ CSx σ' σ tk tw pl 37 m c0 (prG tk tw pl Q dep S) := by
  obtain ⟨d, rfl⟩ : ∃ e, d = e + 1 := ⟨d - 1, by omega⟩
  subst hr
  obtain ⟨a1, a2, a3, a4, a5, a6⟩ := id h
  obtain ⟨b1, b2, b3, b4, b5, b6⟩ := a6 hf
  clear a5 a6 b6
  have hw0 := htw S.1
  have hne : S.1 ≠ m := fun z => by rw [z, hm0] at hk; omega
  have g1 : (pAd S).1 = S.1 + 1 := rfl
  have g2 : (pAd S).2.2.1 = S.2.2.1 := rfl
  have hbd : pBd tk tw S.1 = 0 := pBd_0 (by omega) (by omega)
  refine evS (nL := 5) (code := k_X7_readPart) rfl dc_X7_readPart rfl (fun E hE => ?_)
  show pCm (Ev d) k_X7_readPart E 0 [(68, 0), (0, dep), (9, 0), (9, 0), (9, 0)] [] _
  refine R_aload rfl rfl rfl ?_
  refine T_geti rfl rfl rfl ?_
  rw [b1]
  refine R_istore rfl rfl ?_
  show pCm _ _ _ _ [_, _, _, _, _] _ _
  refine R_aload rfl rfl rfl ?_
  refine T_geti rfl rfl rfl ?_
  rw [b2]
  refine R_istore rfl rfl ?_
  show pCm _ _ _ _ [_, _, _, _, _] _ _
  refine R_iload rfl rfl ?_
  refine R_push rfl ?_
  refine R_ic rfl (fun h12 => absurd h12 (by omega)) (fun _ => ?_)
  refine R_iload rfl rfl ?_
  refine R_push rfl ?_
  refine R_ic rfl (fun _ => ?_) (fun h17 => absurd (by omega) h17)
  refine R_push rfl ?_
  refine R_goto rfl ?_
  refine R_istore rfl rfl ?_
  show pCm _ _ _ _ [_, _, _, _, _] _ _
  refine R_iload rfl rfl ?_
  refine R_if rfl (fun _ => ?_) (fun h34 => absurd (by omega) h34)
  refine R_iload rfl rfl ?_
  refine R_push rfl ?_
  refine R_ic rfl (fun h58 => absurd h58 (by omega)) (fun _ => ?_)
  refine R_iload rfl rfl ?_
  refine R_push rfl ?_
  refine R_ic rfl (fun _ => ?_) (fun h63 => absurd (by omega) h63)
  refine R_iload rfl rfl ?_
  refine R_push rfl ?_
  refine R_ic rfl (fun h74 => ?_) (fun h74 => ?_)
  · try simp only [ne_eq, b2i_e, b2i_1, Classical.not_not] at h74
    refine R_aload rfl rfl rfl ?_
    obtain ⟨s2, hev2, hC2⟩ := hA d (by omega) xs t dd s S h hf (by omega)
    have hd5 : dep ≠ 5 := by omega
    obtain ⟨hQ1, hQ2⟩ := hQ hd5
    have hpr := prG_n (tk := tk) (tw := tw) (pl := pl) (Q := Q) hf hbd hd5
    refine R_invv rfl rfl rfl rfl rfl rfl (hev2) rfl ?_
    show pCm _ _ _ 87 _ [] _
    refine R_iload rfl rfl ?_
    refine R_push rfl ?_
    refine R_ic rfl (fun _ => ?_) (fun h91 => absurd (by omega) h91)
    refine R_iload rfl rfl ?_
    refine R_push rfl ?_
    refine R_ic rfl (fun _ => ?_) (fun h107 => absurd (by omega) h107)
    refine R_iload rfl rfl ?_
    refine R_push rfl ?_
    refine R_ic rfl (fun h126 => absurd h126 (by omega)) (fun _ => ?_)
    refine R_aload rfl rfl rfl ?_
    refine T_getr (v := 53) rfl rfl rfl rfl ?_
    refine R_iload rfl rfl ?_
    refine R_iload rfl rfl ?_
    have hb2 := (hC2.2.2.2.2.2 hf).2.2.2.1
    rw [g2] at hb2
    refine R_invv rfl rfl rfl rfl rfl rfl (sp_X8_write_37 d (by omega) xs t dd 53 s2 (tk S.1) (tw S.1) ⟨by have := htk S.1; omega, by have := htk S.1; omega⟩ hw0 ⟨by omega, by omega⟩) rfl ?_
    show pCm _ _ _ 138 _ [] _
    refine R_push rfl ?_
    refine R_zret rfl (by first | exact Or.inl rfl | exact Or.inr rfl | omega | grind) ?_
    have e : prG tk tw pl Q dep S = pEm (tk S.1) (tw S.1) (pAd S) := by rw [hpr, if_neg (by omega), if_neg (by omega)]
    exact hE _ _ (by rw [e, b2i_t (show (pEm (tk S.1) (tw S.1) (pAd S)).2.1 = 0 from hf)]) (by rw [e]; exact CS_em (k := tk S.1) (w := tw S.1) (B := 37) (by simp) hC2 hf (htk _) (htw _))
  · try simp only [ne_eq, b2i_e, b2i_1, Classical.not_not] at h74
    refine R_aload rfl rfl rfl ?_
    refine R_push rfl ?_
    refine R_invv rfl rfl rfl rfl rfl rfl (sp_X7_refuse d (by omega) xs t dd 53 s 5 ⟨by omega, by omega⟩ a4) rfl ?_
    show pCm _ _ _ 82 _ [(0, _)] _
    refine R_zret rfl (by first | exact Or.inl rfl | exact Or.inr rfl | omega | grind) ?_
    first
    | (obtain ⟨hC, hn⟩ := CS_er (c := 5) (B := 37) (by simp) h hf (by omega)
       have e : prG tk tw pl Q dep S = pEr pl 5 S := by unfold prG; rw [if_neg (by omega), hbd, if_neg (by omega), if_pos (by omega)]
       exact hE _ _ (by rw [e, b2i_f hn]) (by rw [e]; exact hC))
set_option maxRecDepth 20000 in
set_option maxHeartbeats 2000000 in
theorem cp_b_37 (d : Nat) (hd : 1 ≤ d) (xs : List (Nat × Nat)) (t dd rr : Nat) (σ s : Sg) (D : Nat) (hD : D + 1 ≤ d) (hr : rr = 53) (Q : PSt → PSt) (dep : Int) (hdep : 0 ≤ dep ∧ dep ≤ 5) (tk tw pl : Int → Int) (m c0 : Int) (S : PSt) (htk : ∀ i, tk i ≤ 255 ∧ 0 ≤ tk i) (htw : ∀ i, -1 ≤ tw i ∧ tw i ≤ 9999) (hm : 0 ≤ m ∧ m ≤ 1000) (hc0 : 0 ≤ c0) (hA : ADV D rr σ tk tw pl 37 m c0) (hQ : dep ≠ 5 → CMp D rr Q (dep + 1) σ tk tw pl 37 m c0 ∧ CMc D rr (ch0 tk Q) 0 (dep + 1) σ tk tw pl 37 m c0) (hK : PK Q m) (hm0 : tk m = 0) (h : CSx s σ tk tw pl 37 m c0 S) (hf : S.2.1 = 0) (hcs : c0 + S.2.2.1 ≤ S.1) (hd2 : 2 ≤ d) (hk : tk S.1 = 3) (hw : tw S.1 = -1) : ∃ σ', Ev d 226 [(68, 0), (0, dep)] (Wd xs t dd rr s) (0, b2i ((prG tk tw pl Q dep S).2.1 = 0)) (Wd xs t dd rr σ') ∧ CSx σ' σ tk tw pl 37 m c0 (prG tk tw pl Q dep S) := by
  obtain ⟨d, rfl⟩ : ∃ e, d = e + 1 := ⟨d - 1, by omega⟩
  subst hr
  obtain ⟨a1, a2, a3, a4, a5, a6⟩ := id h
  obtain ⟨b1, b2, b3, b4, b5, b6⟩ := a6 hf
  clear a5 a6 b6
  have hw0 := htw S.1
  have hne : S.1 ≠ m := fun z => by rw [z, hm0] at hk; omega
  have g1 : (pAd S).1 = S.1 + 1 := rfl
  have g2 : (pAd S).2.2.1 = S.2.2.1 := rfl
  refine evS (nL := 5) (code := k_X7_readPart) rfl dc_X7_readPart rfl (fun E hE => ?_)
  show pCm (Ev d) k_X7_readPart E 0 [(68, 0), (0, dep), (9, 0), (9, 0), (9, 0)] [] _
  refine R_aload rfl rfl rfl ?_
  refine T_geti rfl rfl rfl ?_
  rw [b1]
  refine R_istore rfl rfl ?_
  show pCm _ _ _ _ [_, _, _, _, _] _ _
  refine R_aload rfl rfl rfl ?_
  refine T_geti rfl rfl rfl ?_
  rw [b2]
  refine R_istore rfl rfl ?_
  show pCm _ _ _ _ [_, _, _, _, _] _ _
  refine R_iload rfl rfl ?_
  refine R_push rfl ?_
  refine R_ic rfl (fun h12 => absurd h12 (by omega)) (fun _ => ?_)
  refine R_iload rfl rfl ?_
  refine R_push rfl ?_
  refine R_ic rfl (fun _ => ?_) (fun h17 => absurd (by omega) h17)
  refine R_push rfl ?_
  refine R_goto rfl ?_
  refine R_istore rfl rfl ?_
  show pCm _ _ _ _ [_, _, _, _, _] _ _
  refine R_iload rfl rfl ?_
  refine R_if rfl (fun _ => ?_) (fun h34 => absurd (by omega) h34)
  refine R_iload rfl rfl ?_
  refine R_push rfl ?_
  refine R_ic rfl (fun h58 => absurd h58 (by omega)) (fun _ => ?_)
  refine R_iload rfl rfl ?_
  refine R_push rfl ?_
  refine R_ic rfl (fun h63 => absurd h63 (by omega)) (fun _ => ?_)
  refine R_aload rfl rfl rfl ?_
  refine R_push rfl ?_
  refine R_invv rfl rfl rfl rfl rfl rfl (sp_X7_refuse d (by omega) xs t dd 53 s 2 ⟨by omega, by omega⟩ a4) rfl ?_
  show pCm _ _ _ 71 _ [(0, _)] _
  refine R_zret rfl (by first | exact Or.inl rfl | exact Or.inr rfl | omega | grind) ?_
  obtain ⟨hC, hn⟩ := CS_er (c := 2) (B := 37) (by simp) h hf (by omega)
  have e : prG tk tw pl Q dep S = pEr pl 2 S := by unfold prG; rw [if_neg (by omega), pBd_2 (by omega), if_pos (by omega)]
  exact hE _ _ (by rw [e, b2i_f hn]) (by rw [e]; exact hC)
set_option maxRecDepth 20000 in
set_option maxHeartbeats 2000000 in
theorem cp_x_37 (d : Nat) (hd : 1 ≤ d) (xs : List (Nat × Nat)) (t dd rr : Nat) (σ s : Sg) (D : Nat) (hD : D + 1 ≤ d) (hr : rr = 53) (Q : PSt → PSt) (dep : Int) (hdep : 0 ≤ dep ∧ dep ≤ 5) (tk tw pl : Int → Int) (m c0 : Int) (S : PSt) (htk : ∀ i, tk i ≤ 255 ∧ 0 ≤ tk i) (htw : ∀ i, -1 ≤ tw i ∧ tw i ≤ 9999) (hm : 0 ≤ m ∧ m ≤ 1000) (hc0 : 0 ≤ c0) (hA : ADV D rr σ tk tw pl 37 m c0) (hQ : dep ≠ 5 → CMp D rr Q (dep + 1) σ tk tw pl 37 m c0 ∧ CMc D rr (ch0 tk Q) 0 (dep + 1) σ tk tw pl 37 m c0) (hK : PK Q m) (hm0 : tk m = 0) (h : CSx s σ tk tw pl 37 m c0 S) (hf : S.2.1 = 0) (hcs : c0 + S.2.2.1 ≤ S.1) (hd2 : 2 ≤ d) (hk : ¬ (tk S.1 = 2 ∨ tk S.1 = 3 ∨ tk S.1 = 4) ∧ tk S.1 ≠ 135 ∧ tk S.1 ≠ 40) : ∃ σ', Ev d 226 [(68, 0), (0, dep)] (Wd xs t dd rr s) (0, b2i ((prG tk tw pl Q dep S).2.1 = 0)) (Wd xs t dd rr σ') ∧ CSx σ' σ tk tw pl 37 m c0 (prG tk tw pl Q dep S) := by
  obtain ⟨d, rfl⟩ : ∃ e, d = e + 1 := ⟨d - 1, by omega⟩
  subst hr
  obtain ⟨a1, a2, a3, a4, a5, a6⟩ := id h
  obtain ⟨b1, b2, b3, b4, b5, b6⟩ := a6 hf
  clear a5 a6 b6
  have hw0 := htw S.1
  have g1 : (pAd S).1 = S.1 + 1 := rfl
  have g2 : (pAd S).2.2.1 = S.2.2.1 := rfl
  refine evS (nL := 5) (code := k_X7_readPart) rfl dc_X7_readPart rfl (fun E hE => ?_)
  show pCm (Ev d) k_X7_readPart E 0 [(68, 0), (0, dep), (9, 0), (9, 0), (9, 0)] [] _
  refine R_aload rfl rfl rfl ?_
  refine T_geti rfl rfl rfl ?_
  rw [b1]
  refine R_istore rfl rfl ?_
  show pCm _ _ _ _ [_, _, _, _, _] _ _
  refine R_aload rfl rfl rfl ?_
  refine T_geti rfl rfl rfl ?_
  rw [b2]
  refine R_istore rfl rfl ?_
  show pCm _ _ _ _ [_, _, _, _, _] _ _
  refine R_iload rfl rfl ?_
  refine R_push rfl ?_
  refine R_ic rfl (fun h12 => absurd h12 (by omega)) (fun _ => ?_)
  refine R_iload rfl rfl ?_
  refine R_push rfl ?_
  refine R_ic rfl (fun h17 => absurd h17 (by omega)) (fun _ => ?_)
  refine R_iload rfl rfl ?_
  refine R_push rfl ?_
  refine R_ic rfl (fun _ => ?_) (fun h22 => absurd (by omega) h22)
  refine R_push rfl ?_
  refine R_istore rfl rfl ?_
  show pCm _ _ _ _ [_, _, _, _, _] _ _
  refine R_iload rfl rfl ?_
  refine R_if rfl (fun h34 => absurd h34 (by omega)) (fun _ => ?_)
  refine R_iload rfl rfl ?_
  refine R_push rfl ?_
  refine R_ic rfl (fun h41 => absurd h41 (by omega)) (fun _ => ?_)
  refine R_iload rfl rfl ?_
  refine R_push rfl ?_
  refine R_ic rfl (fun h47 => absurd h47 (by omega)) (fun _ => ?_)
  refine R_aload rfl rfl rfl ?_
  refine R_push rfl ?_
  refine R_invv rfl rfl rfl rfl rfl rfl (sp_X7_refuse d (by omega) xs t dd 53 s 1 ⟨by omega, by omega⟩ a4) rfl ?_
  show pCm _ _ _ 55 _ [(0, _)] _
  refine R_zret rfl (by first | exact Or.inl rfl | exact Or.inr rfl | omega | grind) ?_
  obtain ⟨hC, hn⟩ := CS_er (c := 1) (B := 37) (by simp) h hf (by omega)
  have e : prG tk tw pl Q dep S = pEr pl 1 S := by unfold prG; rw [if_neg (by omega), pBd_1 (by omega), if_pos (by omega)]
  exact hE _ _ (by rw [e, b2i_f hn]) (by rw [e]; exact hC)
set_option maxRecDepth 20000 in
set_option maxHeartbeats 2000000 in
theorem cp_2_44 (d : Nat) (hd : 1 ≤ d) (xs : List (Nat × Nat)) (t dd rr : Nat) (σ s : Sg) (D : Nat) (hD : D + 1 ≤ d) (hr : rr = 60) (Q : PSt → PSt) (dep : Int) (hdep : 0 ≤ dep ∧ dep ≤ 5) (tk tw pl : Int → Int) (m c0 : Int) (S : PSt) (htk : ∀ i, tk i ≤ 255 ∧ 0 ≤ tk i) (htw : ∀ i, -1 ≤ tw i ∧ tw i ≤ 9999) (hm : 0 ≤ m ∧ m ≤ 1000) (hc0 : 0 ≤ c0) (hA : ADV D rr σ tk tw pl 44 m c0) (hQ : dep ≠ 5 → CMp D rr Q (dep + 1) σ tk tw pl 44 m c0 ∧ CMc D rr (ch0 tk Q) 0 (dep + 1) σ tk tw pl 44 m c0) (hK : PK Q m) (hm0 : tk m = 0) (h : CSx s σ tk tw pl 44 m c0 S) (hf : S.2.1 = 0) (hcs : c0 + S.2.2.1 ≤ S.1) (hd2 : 2 ≤ d) (hk : tk S.1 = 2) : ∃ σ', Ev d 226 [(68, 0), (0, dep)] (Wd xs t dd rr s) (0, b2i ((prG tk tw pl Q dep S).2.1 = 0)) (Wd xs t dd rr σ') ∧ CSx σ' σ tk tw pl 44 m c0 (prG tk tw pl Q dep S) := by
  obtain ⟨d, rfl⟩ : ∃ e, d = e + 1 := ⟨d - 1, by omega⟩
  subst hr
  obtain ⟨a1, a2, a3, a4, a5, a6⟩ := id h
  obtain ⟨b1, b2, b3, b4, b5, b6⟩ := a6 hf
  clear a5 a6 b6
  have hw0 := htw S.1
  have hne : S.1 ≠ m := fun z => by rw [z, hm0] at hk; omega
  have g1 : (pAd S).1 = S.1 + 1 := rfl
  have g2 : (pAd S).2.2.1 = S.2.2.1 := rfl
  have hbd : pBd tk tw S.1 = 0 := pBd_0 (by omega) (by omega)
  refine evS (nL := 5) (code := k_X7_readPart) rfl dc_X7_readPart rfl (fun E hE => ?_)
  show pCm (Ev d) k_X7_readPart E 0 [(68, 0), (0, dep), (9, 0), (9, 0), (9, 0)] [] _
  refine R_aload rfl rfl rfl ?_
  refine T_geti rfl rfl rfl ?_
  rw [b1]
  refine R_istore rfl rfl ?_
  show pCm _ _ _ _ [_, _, _, _, _] _ _
  refine R_aload rfl rfl rfl ?_
  refine T_geti rfl rfl rfl ?_
  rw [b2]
  refine R_istore rfl rfl ?_
  show pCm _ _ _ _ [_, _, _, _, _] _ _
  refine R_iload rfl rfl ?_
  refine R_push rfl ?_
  refine R_ic rfl (fun _ => ?_) (fun h12 => absurd (by omega) h12)
  refine R_push rfl ?_
  refine R_goto rfl ?_
  refine R_istore rfl rfl ?_
  show pCm _ _ _ _ [_, _, _, _, _] _ _
  refine R_iload rfl rfl ?_
  refine R_if rfl (fun _ => ?_) (fun h34 => absurd (by omega) h34)
  refine R_iload rfl rfl ?_
  refine R_push rfl ?_
  refine R_ic rfl (fun _ => ?_) (fun h58 => absurd (by omega) h58)
  refine R_iload rfl rfl ?_
  refine R_push rfl ?_
  refine R_ic rfl (fun h74 => ?_) (fun h74 => ?_)
  · try simp only [ne_eq, b2i_e, b2i_1, Classical.not_not] at h74
    refine R_aload rfl rfl rfl ?_
    obtain ⟨s2, hev2, hC2⟩ := hA d (by omega) xs t dd s S h hf (by omega)
    have hd5 : dep ≠ 5 := by omega
    obtain ⟨hQ1, hQ2⟩ := hQ hd5
    have hpr := prG_n (tk := tk) (tw := tw) (pl := pl) (Q := Q) hf hbd hd5
    refine R_invv rfl rfl rfl rfl rfl rfl (hev2) rfl ?_
    show pCm _ _ _ 87 _ [] _
    refine R_iload rfl rfl ?_
    refine R_push rfl ?_
    refine R_ic rfl (fun _ => ?_) (fun h91 => absurd (by omega) h91)
    refine R_iload rfl rfl ?_
    refine R_push rfl ?_
    refine R_ic rfl (fun _ => ?_) (fun h107 => absurd (by omega) h107)
    refine R_iload rfl rfl ?_
    refine R_push rfl ?_
    refine R_ic rfl (fun h126 => absurd h126 (by omega)) (fun _ => ?_)
    refine R_aload rfl rfl rfl ?_
    refine T_getr (v := 60) rfl rfl rfl rfl ?_
    refine R_iload rfl rfl ?_
    refine R_iload rfl rfl ?_
    have hb2 := (hC2.2.2.2.2.2 hf).2.2.2.1
    rw [g2] at hb2
    refine R_invv rfl rfl rfl rfl rfl rfl (sp_X8_write_44 d (by omega) xs t dd 60 s2 (tk S.1) (tw S.1) ⟨by have := htk S.1; omega, by have := htk S.1; omega⟩ hw0 ⟨by omega, by omega⟩) rfl ?_
    show pCm _ _ _ 138 _ [] _
    refine R_push rfl ?_
    refine R_zret rfl (by first | exact Or.inl rfl | exact Or.inr rfl | omega | grind) ?_
    have e : prG tk tw pl Q dep S = pEm (tk S.1) (tw S.1) (pAd S) := by rw [hpr, if_neg (by omega), if_neg (by omega)]
    exact hE _ _ (by rw [e, b2i_t (show (pEm (tk S.1) (tw S.1) (pAd S)).2.1 = 0 from hf)]) (by rw [e]; exact CS_em (k := tk S.1) (w := tw S.1) (B := 44) (by simp) hC2 hf (htk _) (htw _))
  · try simp only [ne_eq, b2i_e, b2i_1, Classical.not_not] at h74
    refine R_aload rfl rfl rfl ?_
    refine R_push rfl ?_
    refine R_invv rfl rfl rfl rfl rfl rfl (sp_X7_refuse d (by omega) xs t dd 60 s 5 ⟨by omega, by omega⟩ a4) rfl ?_
    show pCm _ _ _ 82 _ [(0, _)] _
    refine R_zret rfl (by first | exact Or.inl rfl | exact Or.inr rfl | omega | grind) ?_
    first
    | (obtain ⟨hC, hn⟩ := CS_er (c := 5) (B := 44) (by simp) h hf (by omega)
       have e : prG tk tw pl Q dep S = pEr pl 5 S := by unfold prG; rw [if_neg (by omega), hbd, if_neg (by omega), if_pos (by omega)]
       exact hE _ _ (by rw [e, b2i_f hn]) (by rw [e]; exact hC))
set_option maxRecDepth 20000 in
set_option maxHeartbeats 2000000 in
theorem cp_4_44 (d : Nat) (hd : 1 ≤ d) (xs : List (Nat × Nat)) (t dd rr : Nat) (σ s : Sg) (D : Nat) (hD : D + 1 ≤ d) (hr : rr = 60) (Q : PSt → PSt) (dep : Int) (hdep : 0 ≤ dep ∧ dep ≤ 5) (tk tw pl : Int → Int) (m c0 : Int) (S : PSt) (htk : ∀ i, tk i ≤ 255 ∧ 0 ≤ tk i) (htw : ∀ i, -1 ≤ tw i ∧ tw i ≤ 9999) (hm : 0 ≤ m ∧ m ≤ 1000) (hc0 : 0 ≤ c0) (hA : ADV D rr σ tk tw pl 44 m c0) (hQ : dep ≠ 5 → CMp D rr Q (dep + 1) σ tk tw pl 44 m c0 ∧ CMc D rr (ch0 tk Q) 0 (dep + 1) σ tk tw pl 44 m c0) (hK : PK Q m) (hm0 : tk m = 0) (h : CSx s σ tk tw pl 44 m c0 S) (hf : S.2.1 = 0) (hcs : c0 + S.2.2.1 ≤ S.1) (hd2 : 2 ≤ d) (hk : tk S.1 = 4) : ∃ σ', Ev d 226 [(68, 0), (0, dep)] (Wd xs t dd rr s) (0, b2i ((prG tk tw pl Q dep S).2.1 = 0)) (Wd xs t dd rr σ') ∧ CSx σ' σ tk tw pl 44 m c0 (prG tk tw pl Q dep S) := by
  obtain ⟨d, rfl⟩ : ∃ e, d = e + 1 := ⟨d - 1, by omega⟩
  subst hr
  obtain ⟨a1, a2, a3, a4, a5, a6⟩ := id h
  obtain ⟨b1, b2, b3, b4, b5, b6⟩ := a6 hf
  clear a5 a6 b6
  have hw0 := htw S.1
  have hne : S.1 ≠ m := fun z => by rw [z, hm0] at hk; omega
  have g1 : (pAd S).1 = S.1 + 1 := rfl
  have g2 : (pAd S).2.2.1 = S.2.2.1 := rfl
  have hbd : pBd tk tw S.1 = 0 := pBd_0 (by omega) (by omega)
  refine evS (nL := 5) (code := k_X7_readPart) rfl dc_X7_readPart rfl (fun E hE => ?_)
  show pCm (Ev d) k_X7_readPart E 0 [(68, 0), (0, dep), (9, 0), (9, 0), (9, 0)] [] _
  refine R_aload rfl rfl rfl ?_
  refine T_geti rfl rfl rfl ?_
  rw [b1]
  refine R_istore rfl rfl ?_
  show pCm _ _ _ _ [_, _, _, _, _] _ _
  refine R_aload rfl rfl rfl ?_
  refine T_geti rfl rfl rfl ?_
  rw [b2]
  refine R_istore rfl rfl ?_
  show pCm _ _ _ _ [_, _, _, _, _] _ _
  refine R_iload rfl rfl ?_
  refine R_push rfl ?_
  refine R_ic rfl (fun h12 => absurd h12 (by omega)) (fun _ => ?_)
  refine R_iload rfl rfl ?_
  refine R_push rfl ?_
  refine R_ic rfl (fun h17 => absurd h17 (by omega)) (fun _ => ?_)
  refine R_iload rfl rfl ?_
  refine R_push rfl ?_
  refine R_ic rfl (fun h22 => absurd h22 (by omega)) (fun _ => ?_)
  refine R_push rfl ?_
  refine R_goto rfl ?_
  refine R_istore rfl rfl ?_
  show pCm _ _ _ _ [_, _, _, _, _] _ _
  refine R_iload rfl rfl ?_
  refine R_if rfl (fun _ => ?_) (fun h34 => absurd (by omega) h34)
  refine R_iload rfl rfl ?_
  refine R_push rfl ?_
  refine R_ic rfl (fun _ => ?_) (fun h58 => absurd (by omega) h58)
  refine R_iload rfl rfl ?_
  refine R_push rfl ?_
  refine R_ic rfl (fun h74 => ?_) (fun h74 => ?_)
  · try simp only [ne_eq, b2i_e, b2i_1, Classical.not_not] at h74
    refine R_aload rfl rfl rfl ?_
    obtain ⟨s2, hev2, hC2⟩ := hA d (by omega) xs t dd s S h hf (by omega)
    have hd5 : dep ≠ 5 := by omega
    obtain ⟨hQ1, hQ2⟩ := hQ hd5
    have hpr := prG_n (tk := tk) (tw := tw) (pl := pl) (Q := Q) hf hbd hd5
    refine R_invv rfl rfl rfl rfl rfl rfl (hev2) rfl ?_
    show pCm _ _ _ 87 _ [] _
    refine R_iload rfl rfl ?_
    refine R_push rfl ?_
    refine R_ic rfl (fun _ => ?_) (fun h91 => absurd (by omega) h91)
    refine R_iload rfl rfl ?_
    refine R_push rfl ?_
    refine R_ic rfl (fun _ => ?_) (fun h107 => absurd (by omega) h107)
    refine R_iload rfl rfl ?_
    refine R_push rfl ?_
    refine R_ic rfl (fun h126 => absurd h126 (by omega)) (fun _ => ?_)
    refine R_aload rfl rfl rfl ?_
    refine T_getr (v := 60) rfl rfl rfl rfl ?_
    refine R_iload rfl rfl ?_
    refine R_iload rfl rfl ?_
    have hb2 := (hC2.2.2.2.2.2 hf).2.2.2.1
    rw [g2] at hb2
    refine R_invv rfl rfl rfl rfl rfl rfl (sp_X8_write_44 d (by omega) xs t dd 60 s2 (tk S.1) (tw S.1) ⟨by have := htk S.1; omega, by have := htk S.1; omega⟩ hw0 ⟨by omega, by omega⟩) rfl ?_
    show pCm _ _ _ 138 _ [] _
    refine R_push rfl ?_
    refine R_zret rfl (by first | exact Or.inl rfl | exact Or.inr rfl | omega | grind) ?_
    have e : prG tk tw pl Q dep S = pEm (tk S.1) (tw S.1) (pAd S) := by rw [hpr, if_neg (by omega), if_neg (by omega)]
    exact hE _ _ (by rw [e, b2i_t (show (pEm (tk S.1) (tw S.1) (pAd S)).2.1 = 0 from hf)]) (by rw [e]; exact CS_em (k := tk S.1) (w := tw S.1) (B := 44) (by simp) hC2 hf (htk _) (htw _))
  · try simp only [ne_eq, b2i_e, b2i_1, Classical.not_not] at h74
    refine R_aload rfl rfl rfl ?_
    refine R_push rfl ?_
    refine R_invv rfl rfl rfl rfl rfl rfl (sp_X7_refuse d (by omega) xs t dd 60 s 5 ⟨by omega, by omega⟩ a4) rfl ?_
    show pCm _ _ _ 82 _ [(0, _)] _
    refine R_zret rfl (by first | exact Or.inl rfl | exact Or.inr rfl | omega | grind) ?_
    first
    | (obtain ⟨hC, hn⟩ := CS_er (c := 5) (B := 44) (by simp) h hf (by omega)
       have e : prG tk tw pl Q dep S = pEr pl 5 S := by unfold prG; rw [if_neg (by omega), hbd, if_neg (by omega), if_pos (by omega)]
       exact hE _ _ (by rw [e, b2i_f hn]) (by rw [e]; exact hC))
set_option maxRecDepth 20000 in
set_option maxHeartbeats 2000000 in
theorem cp_3_44 (d : Nat) (hd : 1 ≤ d) (xs : List (Nat × Nat)) (t dd rr : Nat) (σ s : Sg) (D : Nat) (hD : D + 1 ≤ d) (hr : rr = 60) (Q : PSt → PSt) (dep : Int) (hdep : 0 ≤ dep ∧ dep ≤ 5) (tk tw pl : Int → Int) (m c0 : Int) (S : PSt) (htk : ∀ i, tk i ≤ 255 ∧ 0 ≤ tk i) (htw : ∀ i, -1 ≤ tw i ∧ tw i ≤ 9999) (hm : 0 ≤ m ∧ m ≤ 1000) (hc0 : 0 ≤ c0) (hA : ADV D rr σ tk tw pl 44 m c0) (hQ : dep ≠ 5 → CMp D rr Q (dep + 1) σ tk tw pl 44 m c0 ∧ CMc D rr (ch0 tk Q) 0 (dep + 1) σ tk tw pl 44 m c0) (hK : PK Q m) (hm0 : tk m = 0) (h : CSx s σ tk tw pl 44 m c0 S) (hf : S.2.1 = 0) (hcs : c0 + S.2.2.1 ≤ S.1) (hd2 : 2 ≤ d) (hk : tk S.1 = 3) (hw : tw S.1 ≠ -1) : ∃ σ', Ev d 226 [(68, 0), (0, dep)] (Wd xs t dd rr s) (0, b2i ((prG tk tw pl Q dep S).2.1 = 0)) (Wd xs t dd rr σ') ∧ CSx σ' σ tk tw pl 44 m c0 (prG tk tw pl Q dep S) := by
  obtain ⟨d, rfl⟩ : ∃ e, d = e + 1 := ⟨d - 1, by omega⟩
  subst hr
  obtain ⟨a1, a2, a3, a4, a5, a6⟩ := id h
  obtain ⟨b1, b2, b3, b4, b5, b6⟩ := a6 hf
  clear a5 a6 b6
  have hw0 := htw S.1
  have hne : S.1 ≠ m := fun z => by rw [z, hm0] at hk; omega
  have g1 : (pAd S).1 = S.1 + 1 := rfl
  have g2 : (pAd S).2.2.1 = S.2.2.1 := rfl
  have hbd : pBd tk tw S.1 = 0 := pBd_0 (by omega) (by omega)
  refine evS (nL := 5) (code := k_X7_readPart) rfl dc_X7_readPart rfl (fun E hE => ?_)
  show pCm (Ev d) k_X7_readPart E 0 [(68, 0), (0, dep), (9, 0), (9, 0), (9, 0)] [] _
  refine R_aload rfl rfl rfl ?_
  refine T_geti rfl rfl rfl ?_
  rw [b1]
  refine R_istore rfl rfl ?_
  show pCm _ _ _ _ [_, _, _, _, _] _ _
  refine R_aload rfl rfl rfl ?_
  refine T_geti rfl rfl rfl ?_
  rw [b2]
  refine R_istore rfl rfl ?_
  show pCm _ _ _ _ [_, _, _, _, _] _ _
  refine R_iload rfl rfl ?_
  refine R_push rfl ?_
  refine R_ic rfl (fun h12 => absurd h12 (by omega)) (fun _ => ?_)
  refine R_iload rfl rfl ?_
  refine R_push rfl ?_
  refine R_ic rfl (fun _ => ?_) (fun h17 => absurd (by omega) h17)
  refine R_push rfl ?_
  refine R_goto rfl ?_
  refine R_istore rfl rfl ?_
  show pCm _ _ _ _ [_, _, _, _, _] _ _
  refine R_iload rfl rfl ?_
  refine R_if rfl (fun _ => ?_) (fun h34 => absurd (by omega) h34)
  refine R_iload rfl rfl ?_
  refine R_push rfl ?_
  refine R_ic rfl (fun h58 => absurd h58 (by omega)) (fun _ => ?_)
  refine R_iload rfl rfl ?_
  refine R_push rfl ?_
  refine R_ic rfl (fun _ => ?_) (fun h63 => absurd (by omega) h63)
  refine R_iload rfl rfl ?_
  refine R_push rfl ?_
  refine R_ic rfl (fun h74 => ?_) (fun h74 => ?_)
  · try simp only [ne_eq, b2i_e, b2i_1, Classical.not_not] at h74
    refine R_aload rfl rfl rfl ?_
    obtain ⟨s2, hev2, hC2⟩ := hA d (by omega) xs t dd s S h hf (by omega)
    have hd5 : dep ≠ 5 := by omega
    obtain ⟨hQ1, hQ2⟩ := hQ hd5
    have hpr := prG_n (tk := tk) (tw := tw) (pl := pl) (Q := Q) hf hbd hd5
    refine R_invv rfl rfl rfl rfl rfl rfl (hev2) rfl ?_
    show pCm _ _ _ 87 _ [] _
    refine R_iload rfl rfl ?_
    refine R_push rfl ?_
    refine R_ic rfl (fun _ => ?_) (fun h91 => absurd (by omega) h91)
    refine R_iload rfl rfl ?_
    refine R_push rfl ?_
    refine R_ic rfl (fun _ => ?_) (fun h107 => absurd (by omega) h107)
    refine R_iload rfl rfl ?_
    refine R_push rfl ?_
    refine R_ic rfl (fun h126 => absurd h126 (by omega)) (fun _ => ?_)
    refine R_aload rfl rfl rfl ?_
    refine T_getr (v := 60) rfl rfl rfl rfl ?_
    refine R_iload rfl rfl ?_
    refine R_iload rfl rfl ?_
    have hb2 := (hC2.2.2.2.2.2 hf).2.2.2.1
    rw [g2] at hb2
    refine R_invv rfl rfl rfl rfl rfl rfl (sp_X8_write_44 d (by omega) xs t dd 60 s2 (tk S.1) (tw S.1) ⟨by have := htk S.1; omega, by have := htk S.1; omega⟩ hw0 ⟨by omega, by omega⟩) rfl ?_
    show pCm _ _ _ 138 _ [] _
    refine R_push rfl ?_
    refine R_zret rfl (by first | exact Or.inl rfl | exact Or.inr rfl | omega | grind) ?_
    have e : prG tk tw pl Q dep S = pEm (tk S.1) (tw S.1) (pAd S) := by rw [hpr, if_neg (by omega), if_neg (by omega)]
    exact hE _ _ (by rw [e, b2i_t (show (pEm (tk S.1) (tw S.1) (pAd S)).2.1 = 0 from hf)]) (by rw [e]; exact CS_em (k := tk S.1) (w := tw S.1) (B := 44) (by simp) hC2 hf (htk _) (htw _))
  · try simp only [ne_eq, b2i_e, b2i_1, Classical.not_not] at h74
    refine R_aload rfl rfl rfl ?_
    refine R_push rfl ?_
    refine R_invv rfl rfl rfl rfl rfl rfl (sp_X7_refuse d (by omega) xs t dd 60 s 5 ⟨by omega, by omega⟩ a4) rfl ?_
    show pCm _ _ _ 82 _ [(0, _)] _
    refine R_zret rfl (by first | exact Or.inl rfl | exact Or.inr rfl | omega | grind) ?_
    first
    | (obtain ⟨hC, hn⟩ := CS_er (c := 5) (B := 44) (by simp) h hf (by omega)
       have e : prG tk tw pl Q dep S = pEr pl 5 S := by unfold prG; rw [if_neg (by omega), hbd, if_neg (by omega), if_pos (by omega)]
       exact hE _ _ (by rw [e, b2i_f hn]) (by rw [e]; exact hC))
set_option maxRecDepth 20000 in
set_option maxHeartbeats 2000000 in
theorem cp_b_44 (d : Nat) (hd : 1 ≤ d) (xs : List (Nat × Nat)) (t dd rr : Nat) (σ s : Sg) (D : Nat) (hD : D + 1 ≤ d) (hr : rr = 60) (Q : PSt → PSt) (dep : Int) (hdep : 0 ≤ dep ∧ dep ≤ 5) (tk tw pl : Int → Int) (m c0 : Int) (S : PSt) (htk : ∀ i, tk i ≤ 255 ∧ 0 ≤ tk i) (htw : ∀ i, -1 ≤ tw i ∧ tw i ≤ 9999) (hm : 0 ≤ m ∧ m ≤ 1000) (hc0 : 0 ≤ c0) (hA : ADV D rr σ tk tw pl 44 m c0) (hQ : dep ≠ 5 → CMp D rr Q (dep + 1) σ tk tw pl 44 m c0 ∧ CMc D rr (ch0 tk Q) 0 (dep + 1) σ tk tw pl 44 m c0) (hK : PK Q m) (hm0 : tk m = 0) (h : CSx s σ tk tw pl 44 m c0 S) (hf : S.2.1 = 0) (hcs : c0 + S.2.2.1 ≤ S.1) (hd2 : 2 ≤ d) (hk : tk S.1 = 3) (hw : tw S.1 = -1) : ∃ σ', Ev d 226 [(68, 0), (0, dep)] (Wd xs t dd rr s) (0, b2i ((prG tk tw pl Q dep S).2.1 = 0)) (Wd xs t dd rr σ') ∧ CSx σ' σ tk tw pl 44 m c0 (prG tk tw pl Q dep S) := by
  obtain ⟨d, rfl⟩ : ∃ e, d = e + 1 := ⟨d - 1, by omega⟩
  subst hr
  obtain ⟨a1, a2, a3, a4, a5, a6⟩ := id h
  obtain ⟨b1, b2, b3, b4, b5, b6⟩ := a6 hf
  clear a5 a6 b6
  have hw0 := htw S.1
  have hne : S.1 ≠ m := fun z => by rw [z, hm0] at hk; omega
  have g1 : (pAd S).1 = S.1 + 1 := rfl
  have g2 : (pAd S).2.2.1 = S.2.2.1 := rfl
  refine evS (nL := 5) (code := k_X7_readPart) rfl dc_X7_readPart rfl (fun E hE => ?_)
  show pCm (Ev d) k_X7_readPart E 0 [(68, 0), (0, dep), (9, 0), (9, 0), (9, 0)] [] _
  refine R_aload rfl rfl rfl ?_
  refine T_geti rfl rfl rfl ?_
  rw [b1]
  refine R_istore rfl rfl ?_
  show pCm _ _ _ _ [_, _, _, _, _] _ _
  refine R_aload rfl rfl rfl ?_
  refine T_geti rfl rfl rfl ?_
  rw [b2]
  refine R_istore rfl rfl ?_
  show pCm _ _ _ _ [_, _, _, _, _] _ _
  refine R_iload rfl rfl ?_
  refine R_push rfl ?_
  refine R_ic rfl (fun h12 => absurd h12 (by omega)) (fun _ => ?_)
  refine R_iload rfl rfl ?_
  refine R_push rfl ?_
  refine R_ic rfl (fun _ => ?_) (fun h17 => absurd (by omega) h17)
  refine R_push rfl ?_
  refine R_goto rfl ?_
  refine R_istore rfl rfl ?_
  show pCm _ _ _ _ [_, _, _, _, _] _ _
  refine R_iload rfl rfl ?_
  refine R_if rfl (fun _ => ?_) (fun h34 => absurd (by omega) h34)
  refine R_iload rfl rfl ?_
  refine R_push rfl ?_
  refine R_ic rfl (fun h58 => absurd h58 (by omega)) (fun _ => ?_)
  refine R_iload rfl rfl ?_
  refine R_push rfl ?_
  refine R_ic rfl (fun h63 => absurd h63 (by omega)) (fun _ => ?_)
  refine R_aload rfl rfl rfl ?_
  refine R_push rfl ?_
  refine R_invv rfl rfl rfl rfl rfl rfl (sp_X7_refuse d (by omega) xs t dd 60 s 2 ⟨by omega, by omega⟩ a4) rfl ?_
  show pCm _ _ _ 71 _ [(0, _)] _
  refine R_zret rfl (by first | exact Or.inl rfl | exact Or.inr rfl | omega | grind) ?_
  obtain ⟨hC, hn⟩ := CS_er (c := 2) (B := 44) (by simp) h hf (by omega)
  have e : prG tk tw pl Q dep S = pEr pl 2 S := by unfold prG; rw [if_neg (by omega), pBd_2 (by omega), if_pos (by omega)]
  exact hE _ _ (by rw [e, b2i_f hn]) (by rw [e]; exact hC)
set_option maxRecDepth 20000 in
set_option maxHeartbeats 2000000 in
theorem cp_x_44 (d : Nat) (hd : 1 ≤ d) (xs : List (Nat × Nat)) (t dd rr : Nat) (σ s : Sg) (D : Nat) (hD : D + 1 ≤ d) (hr : rr = 60) (Q : PSt → PSt) (dep : Int) (hdep : 0 ≤ dep ∧ dep ≤ 5) (tk tw pl : Int → Int) (m c0 : Int) (S : PSt) (htk : ∀ i, tk i ≤ 255 ∧ 0 ≤ tk i) (htw : ∀ i, -1 ≤ tw i ∧ tw i ≤ 9999) (hm : 0 ≤ m ∧ m ≤ 1000) (hc0 : 0 ≤ c0) (hA : ADV D rr σ tk tw pl 44 m c0) (hQ : dep ≠ 5 → CMp D rr Q (dep + 1) σ tk tw pl 44 m c0 ∧ CMc D rr (ch0 tk Q) 0 (dep + 1) σ tk tw pl 44 m c0) (hK : PK Q m) (hm0 : tk m = 0) (h : CSx s σ tk tw pl 44 m c0 S) (hf : S.2.1 = 0) (hcs : c0 + S.2.2.1 ≤ S.1) (hd2 : 2 ≤ d) (hk : ¬ (tk S.1 = 2 ∨ tk S.1 = 3 ∨ tk S.1 = 4) ∧ tk S.1 ≠ 135 ∧ tk S.1 ≠ 40) : ∃ σ', Ev d 226 [(68, 0), (0, dep)] (Wd xs t dd rr s) (0, b2i ((prG tk tw pl Q dep S).2.1 = 0)) (Wd xs t dd rr σ') ∧ CSx σ' σ tk tw pl 44 m c0 (prG tk tw pl Q dep S) := by
  obtain ⟨d, rfl⟩ : ∃ e, d = e + 1 := ⟨d - 1, by omega⟩
  subst hr
  obtain ⟨a1, a2, a3, a4, a5, a6⟩ := id h
  obtain ⟨b1, b2, b3, b4, b5, b6⟩ := a6 hf
  clear a5 a6 b6
  have hw0 := htw S.1
  have g1 : (pAd S).1 = S.1 + 1 := rfl
  have g2 : (pAd S).2.2.1 = S.2.2.1 := rfl
  refine evS (nL := 5) (code := k_X7_readPart) rfl dc_X7_readPart rfl (fun E hE => ?_)
  show pCm (Ev d) k_X7_readPart E 0 [(68, 0), (0, dep), (9, 0), (9, 0), (9, 0)] [] _
  refine R_aload rfl rfl rfl ?_
  refine T_geti rfl rfl rfl ?_
  rw [b1]
  refine R_istore rfl rfl ?_
  show pCm _ _ _ _ [_, _, _, _, _] _ _
  refine R_aload rfl rfl rfl ?_
  refine T_geti rfl rfl rfl ?_
  rw [b2]
  refine R_istore rfl rfl ?_
  show pCm _ _ _ _ [_, _, _, _, _] _ _
  refine R_iload rfl rfl ?_
  refine R_push rfl ?_
  refine R_ic rfl (fun h12 => absurd h12 (by omega)) (fun _ => ?_)
  refine R_iload rfl rfl ?_
  refine R_push rfl ?_
  refine R_ic rfl (fun h17 => absurd h17 (by omega)) (fun _ => ?_)
  refine R_iload rfl rfl ?_
  refine R_push rfl ?_
  refine R_ic rfl (fun _ => ?_) (fun h22 => absurd (by omega) h22)
  refine R_push rfl ?_
  refine R_istore rfl rfl ?_
  show pCm _ _ _ _ [_, _, _, _, _] _ _
  refine R_iload rfl rfl ?_
  refine R_if rfl (fun h34 => absurd h34 (by omega)) (fun _ => ?_)
  refine R_iload rfl rfl ?_
  refine R_push rfl ?_
  refine R_ic rfl (fun h41 => absurd h41 (by omega)) (fun _ => ?_)
  refine R_iload rfl rfl ?_
  refine R_push rfl ?_
  refine R_ic rfl (fun h47 => absurd h47 (by omega)) (fun _ => ?_)
  refine R_aload rfl rfl rfl ?_
  refine R_push rfl ?_
  refine R_invv rfl rfl rfl rfl rfl rfl (sp_X7_refuse d (by omega) xs t dd 60 s 1 ⟨by omega, by omega⟩ a4) rfl ?_
  show pCm _ _ _ 55 _ [(0, _)] _
  refine R_zret rfl (by first | exact Or.inl rfl | exact Or.inr rfl | omega | grind) ?_
  obtain ⟨hC, hn⟩ := CS_er (c := 1) (B := 44) (by simp) h hf (by omega)
  have e : prG tk tw pl Q dep S = pEr pl 1 S := by unfold prG; rw [if_neg (by omega), pBd_1 (by omega), if_pos (by omega)]
  exact hE _ _ (by rw [e, b2i_f hn]) (by rw [e]; exact hC)

theorem lc_z {a b : Int} : pLcmp a b = 0 ↔ a = b := by unfold pLcmp; split <;> (try split) <;> omega
/-- the token at hand, by the reference's rows -/
def sgM (σ : Sg) (ch : Int) : Int := b2i (σ 71 8 = 0 ∧ σ 73 (σ 71 7) = 3 ∧ σ 75 (σ 71 7) = ch)
def woM (σ : Sg) (w : Int) : Int := b2i (σ 71 8 = 0 ∧ σ 73 (σ 71 7) = 1 ∧ σ 75 (σ 71 7) = σ 76 w)
theorem sgM_01 {σ : Sg} {c : Int} : 0 ≤ sgM σ c ∧ sgM σ c ≤ 1 := b2i_bd
theorem woM_01 {σ : Sg} {w : Int} : 0 ≤ woM σ w ∧ woM σ w ≤ 1 := b2i_bd
set_option maxRecDepth 20000 in
set_option maxHeartbeats 2000000 in
theorem sp_X10_isSign (d : Nat) (hd : 1 ≤ d) (xs : List (Nat × Nat)) (t dd rr : Nat) (σ : Sg) (c : Int) (hat : 0 ≤ σ 71 7 ∧ σ 71 7 ≤ 1001)  : Ev d 41 [(87, 0), (0, c)] (Wd xs t dd rr σ) (0, sgM σ c) (Wd xs t dd rr σ) := by
  obtain ⟨d, rfl⟩ : ∃ e, d = e + 1 := ⟨d - 1, by omega⟩
  refine evP (nL := 2) (code := k_X10_isSign) rfl pb0 rfl (fun E hE => ?_)
  show pCm (Ev d) k_X10_isSign E 0 [(87, 0), (0, c)] [] _
  refine R_aload rfl rfl rfl ?_
  refine T_geti rfl rfl rfl ?_
  refine R_if rfl (fun h4 => ?_) (fun h4 => ?_)
  · try simp only [ne_eq, b2i_e, b2i_1, Classical.not_not] at h4
    refine R_push rfl ?_
    refine R_zret rfl (by first | exact Or.inl rfl | exact Or.inr rfl | omega | grind) ?_
    exact hE _ (by unfold sgM; first | rw [b2i_t (by omega)] | rw [b2i_f (by omega)])
  · try simp only [ne_eq, b2i_e, b2i_1, Classical.not_not] at h4
    refine R_aload rfl rfl rfl ?_
    refine T_getr (v := 89) rfl rfl rfl rfl ?_
    refine R_aload rfl rfl rfl ?_
    refine T_geti rfl rfl rfl ?_
    refine T_ald rfl rfl (by omega) (by omega) ?_
    refine R_push rfl ?_
    refine R_ic rfl (fun h17 => ?_) (fun h17 => ?_)
    · try simp only [ne_eq, b2i_e, b2i_1, Classical.not_not] at h17
      refine R_push rfl ?_
      refine R_zret rfl (by first | exact Or.inl rfl | exact Or.inr rfl | omega | grind) ?_
      exact hE _ (by unfold sgM; first | rw [b2i_t (by omega)] | rw [b2i_f (by omega)])
    · try simp only [ne_eq, b2i_e, b2i_1, Classical.not_not] at h17
      refine R_aload rfl rfl rfl ?_
      refine T_getr (v := 91) rfl rfl rfl rfl ?_
      refine R_aload rfl rfl rfl ?_
      refine T_geti rfl rfl rfl ?_
      refine T_ald rfl rfl (by omega) (by omega) ?_
      refine R_iload rfl rfl ?_
      refine R_i2l rfl ?_
      refine R_lcmp rfl ?_
      have hlz := lc_z (a := σ 75 (σ 71 7)) (b := c)
      refine R_if rfl (fun h32 => ?_) (fun h32 => ?_)
      · try simp only [ne_eq, b2i_e, b2i_1, Classical.not_not] at h32
        refine R_push rfl ?_
        refine R_zret rfl (by first | exact Or.inl rfl | exact Or.inr rfl | omega | grind) ?_
        exact hE _ (by unfold sgM; first | rw [b2i_t (by omega)] | rw [b2i_f (by omega)])
      · try simp only [ne_eq, b2i_e, b2i_1, Classical.not_not] at h32
        refine R_push rfl ?_
        refine R_goto rfl ?_
        refine R_zret rfl (by first | exact Or.inl rfl | exact Or.inr rfl | omega | grind) ?_
        exact hE _ (by unfold sgM; first | rw [b2i_t (by omega)] | rw [b2i_f (by omega)])
set_option maxRecDepth 20000 in
set_option maxHeartbeats 2000000 in
theorem sp_X10_isWord (d : Nat) (hd : 1 ≤ d) (xs : List (Nat × Nat)) (t dd rr : Nat) (σ : Sg) (w : Int) (hw : 0 ≤ w ∧ w < 20) (hat : 0 ≤ σ 71 7 ∧ σ 71 7 ≤ 1001)  : Ev d 42 [(87, 0), (0, w)] (Wd xs t dd rr σ) (0, woM σ w) (Wd xs t dd rr σ) := by
  obtain ⟨d, rfl⟩ : ∃ e, d = e + 1 := ⟨d - 1, by omega⟩
  refine evP (nL := 2) (code := k_X10_isWord) rfl pb0 rfl (fun E hE => ?_)
  show pCm (Ev d) k_X10_isWord E 0 [(87, 0), (0, w)] [] _
  refine R_aload rfl rfl rfl ?_
  refine T_geti rfl rfl rfl ?_
  refine R_if rfl (fun h4 => ?_) (fun h4 => ?_)
  · try simp only [ne_eq, b2i_e, b2i_1, Classical.not_not] at h4
    refine R_push rfl ?_
    refine R_zret rfl (by first | exact Or.inl rfl | exact Or.inr rfl | omega | grind) ?_
    exact hE _ (by unfold woM; first | rw [b2i_t (by omega)] | rw [b2i_f (by omega)])
  · try simp only [ne_eq, b2i_e, b2i_1, Classical.not_not] at h4
    refine R_aload rfl rfl rfl ?_
    refine T_getr (v := 89) rfl rfl rfl rfl ?_
    refine R_aload rfl rfl rfl ?_
    refine T_geti rfl rfl rfl ?_
    refine T_ald rfl rfl (by omega) (by omega) ?_
    refine R_push rfl ?_
    refine R_ic rfl (fun h17 => ?_) (fun h17 => ?_)
    · try simp only [ne_eq, b2i_e, b2i_1, Classical.not_not] at h17
      refine R_push rfl ?_
      refine R_zret rfl (by first | exact Or.inl rfl | exact Or.inr rfl | omega | grind) ?_
      exact hE _ (by unfold woM; first | rw [b2i_t (by omega)] | rw [b2i_f (by omega)])
    · try simp only [ne_eq, b2i_e, b2i_1, Classical.not_not] at h17
      refine R_aload rfl rfl rfl ?_
      refine T_getr (v := 91) rfl rfl rfl rfl ?_
      refine R_aload rfl rfl rfl ?_
      refine T_geti rfl rfl rfl ?_
      refine T_ald rfl rfl (by omega) (by omega) ?_
      refine R_aload rfl rfl rfl ?_
      refine T_getr (v := 92) rfl rfl rfl rfl ?_
      refine R_iload rfl rfl ?_
      refine T_ald rfl rfl (by omega) (by omega) ?_
      refine R_lcmp rfl ?_
      have hlz := lc_z (a := σ 75 (σ 71 7)) (b := σ 76 w)
      refine R_if rfl (fun h36 => ?_) (fun h36 => ?_)
      · try simp only [ne_eq, b2i_e, b2i_1, Classical.not_not] at h36
        refine R_push rfl ?_
        refine R_zret rfl (by first | exact Or.inl rfl | exact Or.inr rfl | omega | grind) ?_
        exact hE _ (by unfold woM; first | rw [b2i_t (by omega)] | rw [b2i_f (by omega)])
      · try simp only [ne_eq, b2i_e, b2i_1, Classical.not_not] at h36
        refine R_push rfl ?_
        refine R_goto rfl ?_
        refine R_zret rfl (by first | exact Or.inl rfl | exact Or.inr rfl | omega | grind) ?_
        exact hE _ (by unfold woM; first | rw [b2i_t (by omega)] | rw [b2i_f (by omega)])
set_option maxRecDepth 20000 in
set_option maxHeartbeats 2000000 in
theorem sp_X10_wrong (d : Nat) (hd : 1 ≤ d) (xs : List (Nat × Nat)) (t dd rr : Nat) (σ : Sg) (c : Int) (hc : 0 ≤ c ∧ c ≤ 15) (hat : 0 ≤ σ 71 7 ∧ σ 71 7 ≤ 1001) (hpl : 0 ≤ σ 74 (σ 71 7) ∧ σ 74 (σ 71 7) ≤ 1000)  : ∃ σ', Ev d 40 [(87, 0), (0, c)] (Wd xs t dd rr σ) (8, 0) (Wd xs t dd rr σ') ∧ Fr [] [(71, 8)] σ σ' ∧ σ' 71 8 = if σ 71 8 = 0 then c + 16 * σ 74 (σ 71 7) else σ 71 8 := by
  obtain ⟨d, rfl⟩ : ∃ e, d = e + 1 := ⟨d - 1, by omega⟩
  refine evS (nL := 2) (code := k_X10_wrong) rfl dc_X10_wrong rfl (fun E hE => ?_)
  show pCm (Ev d) k_X10_wrong E 0 [(87, 0), (0, c)] [] _
  refine R_aload rfl rfl rfl ?_
  refine T_geti rfl rfl rfl ?_
  refine R_if rfl (fun h4 => ?_) (fun h4 => ?_)
  · try simp only [ne_eq, b2i_e, b2i_1, Classical.not_not] at h4
    refine R_vret rfl ?_
    first
    | exact hE _ _ rfl ⟨Fr.rf, by rw [if_neg (by omega)]⟩
    | exact hE _ _ rfl ⟨Fr.rf.up rfl, by rw [if_pos (by omega)]; simp [up2]⟩
  · try simp only [ne_eq, b2i_e, b2i_1, Classical.not_not] at h4
    refine R_aload rfl rfl rfl ?_
    refine R_iload rfl rfl ?_
    refine R_push rfl ?_
    refine R_aload rfl rfl rfl ?_
    refine T_getr (v := 90) rfl rfl rfl rfl ?_
    refine R_aload rfl rfl rfl ?_
    refine T_geti rfl rfl rfl ?_
    refine T_ald rfl rfl (by omega) (by omega) ?_
    refine R_mul rfl (by omega) (by omega) ?_
    refine R_add rfl (by omega) (by omega) ?_
    refine T_puti rfl rfl rfl ?_
    refine R_vret rfl ?_
    first
    | exact hE _ _ rfl ⟨Fr.rf, by rw [if_neg (by omega)]⟩
    | exact hE _ _ rfl ⟨Fr.rf.up rfl, by rw [if_pos (by omega)]; simp [up2]⟩
set_option maxRecDepth 20000 in
set_option maxHeartbeats 2000000 in
theorem sp_X10_hasSign (d : Nat) (hd : 2 ≤ d) (xs : List (Nat × Nat)) (t dd rr : Nat) (σ : Sg) (c : Int) (hat : 0 ≤ σ 71 7 ∧ σ 71 7 ≤ 1001)  : ∃ σ', Ev d 44 [(87, 0), (0, c)] (Wd xs t dd rr σ) (0, sgM σ c) (Wd xs t dd rr σ') ∧ Fr [] [(71, 7)] σ σ' ∧ σ' 71 7 = σ 71 7 + sgM σ c := by
  obtain ⟨d, rfl⟩ : ∃ e, d = e + 1 := ⟨d - 1, by omega⟩
  have h01 := sgM_01 (σ := σ) (c := c)
  refine evS (nL := 3) (code := k_X10_hasSign) rfl dc_X10_hasSign rfl (fun E hE => ?_)
  show pCm (Ev d) k_X10_hasSign E 0 [(87, 0), (0, c), (9, 0)] [] _
  refine R_aload rfl rfl rfl ?_
  refine R_iload rfl rfl ?_
  refine R_invv rfl rfl rfl rfl rfl rfl (sp_X10_isSign d (by omega) xs t dd rr σ c hat) rfl ?_
  show pCm _ _ _ 5 _ [(0, _)] _
  refine R_istore rfl rfl ?_
  refine R_aload rfl rfl rfl ?_
  refine R_dup rfl rfl ?_
  refine T_geti rfl rfl rfl ?_
  refine R_iload rfl rfl ?_
  refine R_if rfl (fun h12 => ?_) (fun h12 => ?_)
  · try simp only [ne_eq, b2i_e, b2i_1, Classical.not_not] at h12
    refine R_push rfl ?_
    refine R_add rfl (by omega) (by omega) ?_
    refine T_puti rfl rfl rfl ?_
    refine R_iload rfl rfl ?_
    refine R_zret rfl (by first | exact Or.inl rfl | exact Or.inr rfl | omega | grind) ?_
    exact hE _ _ rfl ⟨Fr.rf.up rfl, by simp [up2]; omega⟩
  · try simp only [ne_eq, b2i_e, b2i_1, Classical.not_not] at h12
    refine R_push rfl ?_
    refine R_goto rfl ?_
    refine R_add rfl (by omega) (by omega) ?_
    refine T_puti rfl rfl rfl ?_
    refine R_iload rfl rfl ?_
    refine R_zret rfl (by first | exact Or.inl rfl | exact Or.inr rfl | omega | grind) ?_
    exact hE _ _ rfl ⟨Fr.rf.up rfl, by simp [up2]; omega⟩
set_option maxRecDepth 20000 in
set_option maxHeartbeats 2000000 in
theorem sp_X10_hasWord (d : Nat) (hd : 2 ≤ d) (xs : List (Nat × Nat)) (t dd rr : Nat) (σ : Sg) (w : Int) (hw : 0 ≤ w ∧ w < 20) (hat : 0 ≤ σ 71 7 ∧ σ 71 7 ≤ 1001)  : ∃ σ', Ev d 45 [(87, 0), (0, w)] (Wd xs t dd rr σ) (0, woM σ w) (Wd xs t dd rr σ') ∧ Fr [] [(71, 7)] σ σ' ∧ σ' 71 7 = σ 71 7 + woM σ w := by
  obtain ⟨d, rfl⟩ : ∃ e, d = e + 1 := ⟨d - 1, by omega⟩
  have h01 := woM_01 (σ := σ) (w := w)
  refine evS (nL := 3) (code := k_X10_hasWord) rfl dc_X10_hasWord rfl (fun E hE => ?_)
  show pCm (Ev d) k_X10_hasWord E 0 [(87, 0), (0, w), (9, 0)] [] _
  refine R_aload rfl rfl rfl ?_
  refine R_iload rfl rfl ?_
  refine R_invv rfl rfl rfl rfl rfl rfl (sp_X10_isWord d (by omega) xs t dd rr σ w hw hat) rfl ?_
  show pCm _ _ _ 5 _ [(0, _)] _
  refine R_istore rfl rfl ?_
  refine R_aload rfl rfl rfl ?_
  refine R_dup rfl rfl ?_
  refine T_geti rfl rfl rfl ?_
  refine R_iload rfl rfl ?_
  refine R_if rfl (fun h12 => ?_) (fun h12 => ?_)
  · try simp only [ne_eq, b2i_e, b2i_1, Classical.not_not] at h12
    refine R_push rfl ?_
    refine R_add rfl (by omega) (by omega) ?_
    refine T_puti rfl rfl rfl ?_
    refine R_iload rfl rfl ?_
    refine R_zret rfl (by first | exact Or.inl rfl | exact Or.inr rfl | omega | grind) ?_
    exact hE _ _ rfl ⟨Fr.rf.up rfl, by simp [up2]; omega⟩
  · try simp only [ne_eq, b2i_e, b2i_1, Classical.not_not] at h12
    refine R_push rfl ?_
    refine R_goto rfl ?_
    refine R_add rfl (by omega) (by omega) ?_
    refine T_puti rfl rfl rfl ?_
    refine R_iload rfl rfl ?_
    refine R_zret rfl (by first | exact Or.inl rfl | exact Or.inr rfl | omega | grind) ?_
    exact hE _ _ rfl ⟨Fr.rf.up rfl, by simp [up2]; omega⟩
set_option maxRecDepth 20000 in
set_option maxHeartbeats 2000000 in
theorem sp_X10_takeSign (d : Nat) (hd : 2 ≤ d) (xs : List (Nat × Nat)) (t dd rr : Nat) (σ : Sg) (c : Int) (hat : 0 ≤ σ 71 7 ∧ σ 71 7 ≤ 1001) (hpl : 0 ≤ σ 74 (σ 71 7) ∧ σ 74 (σ 71 7) ≤ 1000)  : ∃ σ', Ev d 43 [(87, 0), (0, c)] (Wd xs t dd rr σ) (8, 0) (Wd xs t dd rr σ') ∧ Fr [] [(71, 7), (71, 8)] σ σ' ∧ σ' 71 7 = σ 71 7 + sgM σ c ∧ σ' 71 8 = (if sgM σ c = 1 then σ 71 8 else if σ 71 8 = 0 then 1 + 16 * σ 74 (σ 71 7) else σ 71 8) := by
  obtain ⟨d, rfl⟩ : ∃ e, d = e + 1 := ⟨d - 1, by omega⟩
  have h01 := sgM_01 (σ := σ) (c := c)
  refine evS (nL := 2) (code := k_X10_takeSign) rfl dc_X10_takeSign rfl (fun E hE => ?_)
  show pCm (Ev d) k_X10_takeSign E 0 [(87, 0), (0, c)] [] _
  refine R_aload rfl rfl rfl ?_
  refine R_iload rfl rfl ?_
  refine R_invv rfl rfl rfl rfl rfl rfl (sp_X10_isSign d (by omega) xs t dd rr σ c hat) rfl ?_
  show pCm _ _ _ 5 _ [(0, _)] _
  refine R_if rfl (fun h5 => ?_) (fun h5 => ?_)
  · try simp only [ne_eq, b2i_e, b2i_1, Classical.not_not] at h5
    refine R_aload rfl rfl rfl ?_
    refine R_push rfl ?_
    obtain ⟨s2, hev2, hF2, h82⟩ := sp_X10_wrong d (by omega) xs t dd rr σ 1 ⟨by omega, by omega⟩ hat hpl
    refine R_invv rfl rfl rfl rfl rfl rfl (hev2) rfl ?_
    show pCm _ _ _ 26 _ [] _
    refine R_vret rfl ?_
    first
    | exact hE _ _ rfl ⟨hF2.tr (r2 := []) (s2 := []) Fr.rf rfl rfl, by rw [hF2.at 71 7 rfl]; omega, by rw [if_neg (by omega), h82]⟩
    | exact hE _ _ rfl ⟨Fr.rf.up rfl, by simp [up2]; omega, by rw [if_pos (by omega)]; simp [up2]⟩
  · try simp only [ne_eq, b2i_e, b2i_1, Classical.not_not] at h5
    refine R_aload rfl rfl rfl ?_
    refine R_dup rfl rfl ?_
    refine T_geti rfl rfl rfl ?_
    refine R_push rfl ?_
    refine R_add rfl (by omega) (by omega) ?_
    refine T_puti rfl rfl rfl ?_
    refine R_goto rfl ?_
    refine R_vret rfl ?_
    first
    | exact hE _ _ rfl ⟨hF2.tr (r2 := []) (s2 := []) Fr.rf rfl rfl, by rw [hF2.at 71 7 rfl]; omega, by rw [if_neg (by omega), h82]⟩
    | exact hE _ _ rfl ⟨Fr.rf.up rfl, by simp [up2]; omega, by rw [if_pos (by omega)]; simp [up2]⟩
set_option maxRecDepth 20000 in
set_option maxHeartbeats 2000000 in
theorem sp_X10_takeWord (d : Nat) (hd : 3 ≤ d) (xs : List (Nat × Nat)) (t dd rr : Nat) (σ : Sg) (w : Int) (hw : 0 ≤ w ∧ w < 20) (hat : 0 ≤ σ 71 7 ∧ σ 71 7 ≤ 1001) (hpl : 0 ≤ σ 74 (σ 71 7) ∧ σ 74 (σ 71 7) ≤ 1000)  : ∃ σ', Ev d 46 [(87, 0), (0, w)] (Wd xs t dd rr σ) (8, 0) (Wd xs t dd rr σ') ∧ Fr [] [(71, 7), (71, 8)] σ σ' ∧ σ' 71 7 = σ 71 7 + woM σ w ∧ σ' 71 8 = (if woM σ w = 1 then σ 71 8 else if σ 71 8 = 0 then 1 + 16 * σ 74 (σ 71 7) else σ 71 8) := by
  obtain ⟨d, rfl⟩ : ∃ e, d = e + 1 := ⟨d - 1, by omega⟩
  have h01 := woM_01 (σ := σ) (w := w)
  refine evS (nL := 2) (code := k_X10_takeWord) rfl dc_X10_takeWord rfl (fun E hE => ?_)
  show pCm (Ev d) k_X10_takeWord E 0 [(87, 0), (0, w)] [] _
  refine R_aload rfl rfl rfl ?_
  refine R_iload rfl rfl ?_
  obtain ⟨s1, hev1, hF1, h71⟩ := sp_X10_hasWord d (by omega) xs t dd rr σ w hw hat
  refine R_invv rfl rfl rfl rfl rfl rfl (hev1) rfl ?_
  show pCm _ _ _ 5 _ [(0, _)] _
  refine R_if rfl (fun h5 => ?_) (fun h5 => ?_)
  · try simp only [ne_eq, b2i_e, b2i_1, Classical.not_not] at h5
    refine R_vret rfl ?_
    first
    | exact hE _ _ rfl ⟨hF1.tr hF2 rfl rfl, by rw [hF2.at 71 7 rfl, h71], by rw [if_neg (by omega), h82]⟩
    | exact hE _ _ rfl ⟨hF1.tr (r2 := []) (s2 := []) Fr.rf rfl rfl, h71, by rw [if_pos (by omega), hF1.at 71 8 rfl]⟩
  · try simp only [ne_eq, b2i_e, b2i_1, Classical.not_not] at h5
    refine R_aload rfl rfl rfl ?_
    refine R_push rfl ?_
    have e7 : s1 71 7 = σ 71 7 := by omega
    obtain ⟨s2, hev2, hF2, h82⟩ := sp_X10_wrong d (by omega) xs t dd rr s1 1 ⟨by omega, by omega⟩ (by rw [e7]; exact hat) (by rw [e7, hF1.row 74 rfl]; exact hpl)
    rw [e7, hF1.row 74 rfl, hF1.at 71 8 rfl] at h82
    refine R_invv rfl rfl rfl rfl rfl rfl (hev2) rfl ?_
    show pCm _ _ _ 13 _ [] _
    refine R_vret rfl ?_
    first
    | exact hE _ _ rfl ⟨hF1.tr hF2 rfl rfl, by rw [hF2.at 71 7 rfl, h71], by rw [if_neg (by omega), h82]⟩
    | exact hE _ _ rfl ⟨hF1.tr (r2 := []) (s2 := []) Fr.rf rfl rfl, h71, by rw [if_pos (by omega), hF1.at 71 8 rfl]⟩
set_option maxRecDepth 20000 in
set_option maxHeartbeats 2000000 in
theorem sp_X10_emit (d : Nat) (hd : 1 ≤ d) (xs : List (Nat × Nat)) (t dd rr : Nat) (σ : Sg) (c a : Int) (hnx : σ 71 11 = 0 ∨ σ 71 11 = 1) (hcd : 0 ≤ σ 71 18 ∧ σ 71 18 < 1100) : ∃ σ', Ev d 47 [(87, 0), (0, c), (0, a)] (Wd xs t dd rr σ) (8, 0) (Wd xs t dd rr σ') ∧ Fr [83, 84] [(71, 18)] σ σ' ∧ σ' 71 18 = σ 71 18 + 1 ∧ (∀ x, σ' 83 x = if x = 1100 * σ 71 11 + σ 71 18 then c else σ 83 x) ∧ ∀ x, σ' 84 x = if x = 1100 * σ 71 11 + σ 71 18 then a else σ 84 x := by
  obtain ⟨d, rfl⟩ : ∃ e, d = e + 1 := ⟨d - 1, by omega⟩
  refine evS (nL := 3) (code := k_X10_emit) rfl dc_X10_emit rfl (fun E hE => ?_)
  show pCm (Ev d) k_X10_emit E 0 [(87, 0), (0, c), (0, a)] [] _
  refine R_aload rfl rfl rfl ?_
  refine T_getr (v := 99) rfl rfl rfl rfl ?_
  refine R_push rfl ?_
  refine R_aload rfl rfl rfl ?_
  refine T_geti rfl rfl rfl ?_
  refine R_mul rfl (by omega) (by omega) ?_
  refine R_aload rfl rfl rfl ?_
  refine T_geti rfl rfl rfl ?_
  refine R_add rfl (by omega) (by omega) ?_
  refine R_iload rfl rfl ?_
  refine T_iast rfl rfl (by omega) (by omega) ?_
  generalize hs1 : up2 σ 83 (1100 * σ 71 11 + σ 71 18) c = s1
  have e11 : s1 71 11 = σ 71 11 := by rw [← hs1]; simp [up2]
  have e18 : s1 71 18 = σ 71 18 := by rw [← hs1]; simp [up2]
  refine R_aload rfl rfl rfl ?_
  refine T_getr (v := 100) rfl rfl rfl rfl ?_
  refine R_push rfl ?_
  refine R_aload rfl rfl rfl ?_
  refine T_geti rfl rfl rfl ?_
  rw [e11]
  refine R_mul rfl (by omega) (by omega) ?_
  refine R_aload rfl rfl rfl ?_
  refine T_geti rfl rfl rfl ?_
  rw [e18]
  refine R_add rfl (by omega) (by omega) ?_
  refine R_iload rfl rfl ?_
  refine T_iast rfl rfl (by omega) (by omega) ?_
  generalize hs2 : up2 s1 84 (1100 * σ 71 11 + σ 71 18) a = s2
  have e182 : s2 71 18 = σ 71 18 := by rw [← hs2]; simp [up2]; exact e18
  refine R_aload rfl rfl rfl ?_
  refine R_dup rfl rfl ?_
  refine T_geti rfl rfl rfl ?_
  rw [e182]
  refine R_push rfl ?_
  refine R_add rfl (by omega) (by omega) ?_
  refine T_puti rfl rfl rfl ?_
  refine R_vret rfl ?_
  exact hE _ _ rfl ⟨by rw [← hs2, ← hs1]; exact ((Fr.rf.upr rfl).upr rfl).up rfl, by simp [up2], fun x => by rw [← hs2, ← hs1]; simp [up2], fun x => by rw [← hs2, ← hs1]; simp [up2]⟩
set_option maxRecDepth 20000 in
set_option maxHeartbeats 2000000 in
theorem sp_X10_isKept (d : Nat) (hd : 2 ≤ d) (xs : List (Nat × Nat)) (t dd rr : Nat) (σ : Sg) (hat : 0 ≤ σ 71 7 ∧ σ 71 7 ≤ 1001)  : Ev d 52 [(87, 0)] (Wd xs t dd rr σ) (0, b2i (σ 71 8 = 0 ∧ σ 73 (σ 71 7) = 1 ∧ fnd (σ 76) (σ 75 (σ 71 7)) 20 ≠ -1)) (Wd xs t dd rr σ) := by
  obtain ⟨d, rfl⟩ : ∃ e, d = e + 1 := ⟨d - 1, by omega⟩
  refine evP (nL := 3) (code := k_X10_isKept) rfl pb0 rfl (fun E hE => ?_)
  show pCm (Ev d) k_X10_isKept E 0 [(87, 0), (9, 0), (9, 0)] [] _
  refine R_push rfl ?_
  refine R_istore rfl rfl ?_
  refine R_push rfl ?_
  refine R_istore rfl rfl ?_
  refine loop (pc := 4) (α := Int × Int) (fun x => (20 - x.2).toNat) (fun x => ([(87, 0), (0, x.1), (0, x.2)], Wd xs t dd rr σ)) (fun x => (0 ≤ x.2 ∧ x.2 ≤ 20) ∧ x.1 = b2i (σ 71 8 = 0 ∧ σ 73 (σ 71 7) = 1 ∧ fnd (σ 76) (σ 75 (σ 71 7)) x.2 ≠ -1)) ?_ (0, 0) ?_
  · intro ⟨n, k⟩ ⟨hk, hn⟩ ih
    dsimp only at hk hn ⊢
    have hfs : fnd (σ 76) (σ 75 (σ 71 7)) (k + 1) = if fnd (σ 76) (σ 75 (σ 71 7)) k = -1 then (if b2i (σ 76 k = σ 75 (σ 71 7)) = 1 then k else -1) else fnd (σ 76) (σ 75 (σ 71 7)) k := frst_s hk.1
    have hn2 : n = 1 ∧ (σ 71 8 = 0 ∧ σ 73 (σ 71 7) = 1 ∧ fnd (σ 76) (σ 75 (σ 71 7)) k ≠ -1) ∨ n = 0 ∧ ¬ (σ 71 8 = 0 ∧ σ 73 (σ 71 7) = 1 ∧ fnd (σ 76) (σ 75 (σ 71 7)) k ≠ -1) := by rw [hn]; exact b2i_or
    have hw2 : woM σ k = 1 ∧ (σ 71 8 = 0 ∧ σ 73 (σ 71 7) = 1 ∧ σ 75 (σ 71 7) = σ 76 k) ∨ woM σ k = 0 ∧ ¬ (σ 71 8 = 0 ∧ σ 73 (σ 71 7) = 1 ∧ σ 75 (σ 71 7) = σ 76 k) := b2i_or
    have hf2 : (fnd (σ 76) (σ 75 (σ 71 7)) (k + 1) ≠ -1) ↔ (fnd (σ 76) (σ 75 (σ 71 7)) k ≠ -1 ∨ σ 75 (σ 71 7) = σ 76 k) := by
      rw [hfs]
      by_cases z : fnd (σ 76) (σ 75 (σ 71 7)) k = -1
      · rw [if_pos z]
        by_cases y : σ 76 k = σ 75 (σ 71 7)
        · rw [b2i_t y, if_pos rfl]; omega
        · rw [b2i_f y, if_neg (by omega)]; omega
      · rw [if_neg z]; omega
    refine R_iload rfl rfl ?_
    refine R_push rfl ?_
    refine R_ic rfl (fun h7 => ?_) (fun h7 => ?_)
    · try simp only [ne_eq, b2i_e, b2i_1, Classical.not_not] at h7
      refine R_iload rfl rfl ?_
      refine R_zret rfl (by first | exact Or.inl rfl | exact Or.inr rfl | omega | grind) ?_
      exact hE _ (by rw [hn, show k = 20 by omega])
    · try simp only [ne_eq, b2i_e, b2i_1, Classical.not_not] at h7
      refine R_iload rfl rfl ?_
      refine R_if rfl (fun h11 => ?_) (fun h11 => ?_)
      · try simp only [ne_eq, b2i_e, b2i_1, Classical.not_not] at h11
        refine R_push rfl ?_
        refine R_goto rfl ?_
        refine R_istore rfl rfl ?_
        refine R_inc rfl rfl (by omega) (by omega) ?_
        refine R_goto rfl ?_
        first
        | exact ih (1, k + 1) ⟨by dsimp only; omega, by dsimp only; rw [b2i_t (by omega)]⟩ (by dsimp only; omega)
        | exact ih (0, k + 1) ⟨by dsimp only; omega, by dsimp only; rw [b2i_f (by omega)]⟩ (by dsimp only; omega)
      · try simp only [ne_eq, b2i_e, b2i_1, Classical.not_not] at h11
        refine R_aload rfl rfl rfl ?_
        refine R_iload rfl rfl ?_
        refine R_invv rfl rfl rfl rfl rfl rfl (sp_X10_isWord d (by omega) xs t dd rr σ k ⟨by omega, by omega⟩ hat) rfl ?_
        show pCm _ _ _ 19 _ [(0, _)] _
        refine R_if rfl (fun h19 => ?_) (fun h19 => ?_)
        · try simp only [ne_eq, b2i_e, b2i_1, Classical.not_not] at h19
          refine R_push rfl ?_
          refine R_istore rfl rfl ?_
          refine R_inc rfl rfl (by omega) (by omega) ?_
          refine R_goto rfl ?_
          first
          | exact ih (1, k + 1) ⟨by dsimp only; omega, by dsimp only; rw [b2i_t (by omega)]⟩ (by dsimp only; omega)
          | exact ih (0, k + 1) ⟨by dsimp only; omega, by dsimp only; rw [b2i_f (by omega)]⟩ (by dsimp only; omega)
        · try simp only [ne_eq, b2i_e, b2i_1, Classical.not_not] at h19
          refine R_push rfl ?_
          refine R_goto rfl ?_
          refine R_istore rfl rfl ?_
          refine R_inc rfl rfl (by omega) (by omega) ?_
          refine R_goto rfl ?_
          first
          | exact ih (1, k + 1) ⟨by dsimp only; omega, by dsimp only; rw [b2i_t (by omega)]⟩ (by dsimp only; omega)
          | exact ih (0, k + 1) ⟨by dsimp only; omega, by dsimp only; rw [b2i_f (by omega)]⟩ (by dsimp only; omega)
  · exact ⟨by dsimp only; omega, by dsimp only; rw [b2i_f (fun w => w.2.2 rfl)]⟩
set_option maxRecDepth 20000 in
set_option maxHeartbeats 2000000 in
theorem sp_X10_findName (d : Nat) (hd : 1 ≤ d) (xs : List (Nat × Nat)) (t dd rr : Nat) (σ : Sg) (M : Int) (hnx : σ 71 11 = 0 ∨ σ 71 11 = 1) (hM : σ 81 (σ 71 11) = M) (hM0 : 0 ≤ M ∧ M ≤ 8) (hat : 0 ≤ σ 71 7 ∧ σ 71 7 ≤ 1001)  : Ev d 53 [(87, 0)] (Wd xs t dd rr σ) (0, idx (fun k => σ 82 (8 * σ 71 11 + k)) M (σ 75 (σ 71 7))) (Wd xs t dd rr σ) := by
  obtain ⟨d, rfl⟩ : ∃ e, d = e + 1 := ⟨d - 1, by omega⟩
  refine evP (nL := 3) (code := k_X10_findName) rfl pb0 rfl (fun E hE => ?_)
  show pCm (Ev d) k_X10_findName E 0 [(87, 0), (9, 0), (9, 0)] [] _
  refine R_push rfl ?_
  refine R_istore rfl rfl ?_
  refine R_push rfl ?_
  refine R_istore rfl rfl ?_
  refine loop (pc := 4) (α := Int × Int) (fun x => (M - x.2).toNat) (fun x => ([(87, 0), (0, x.1), (0, x.2)], Wd xs t dd rr σ)) (fun x => (0 ≤ x.2 ∧ x.2 ≤ M) ∧ x.1 = idx (fun k => σ 82 (8 * σ 71 11 + k)) x.2 (σ 75 (σ 71 7))) ?_ (-1, 0) ?_
  · intro ⟨n, k⟩ ⟨hk, hn⟩ ih
    dsimp only at hk hn ⊢
    have his := idx_s (R := (fun k => σ 82 (8 * σ 71 11 + k))) (y := σ 75 (σ 71 7)) hk.1
    have hlz := lc_z (a := σ 82 (8 * σ 71 11 + k)) (b := σ 75 (σ 71 7))
    refine R_iload rfl rfl ?_
    refine R_aload rfl rfl rfl ?_
    refine T_getr (v := 97) rfl rfl rfl rfl ?_
    refine R_aload rfl rfl rfl ?_
    refine T_geti rfl rfl rfl ?_
    refine T_ald rfl rfl (by omega) (by omega) ?_
    rw [hM]
    refine R_ic rfl (fun h14 => ?_) (fun h14 => ?_)
    · try simp only [ne_eq, b2i_e, b2i_1, Classical.not_not] at h14
      refine R_iload rfl rfl ?_
      refine R_iret rfl ?_
      exact hE _ (by rw [hn, show k = M by omega])
    · try simp only [ne_eq, b2i_e, b2i_1, Classical.not_not] at h14
      refine R_aload rfl rfl rfl ?_
      refine T_getr (v := 98) rfl rfl rfl rfl ?_
      refine R_push rfl ?_
      refine R_aload rfl rfl rfl ?_
      refine T_geti rfl rfl rfl ?_
      refine R_mul rfl (by omega) (by omega) ?_
      refine R_iload rfl rfl ?_
      refine R_add rfl (by omega) (by omega) ?_
      refine T_ald rfl rfl (by omega) (by omega) ?_
      refine R_aload rfl rfl rfl ?_
      refine T_getr (v := 91) rfl rfl rfl rfl ?_
      refine R_aload rfl rfl rfl ?_
      refine T_geti rfl rfl rfl ?_
      refine T_ald rfl rfl (by omega) (by omega) ?_
      refine R_lcmp rfl ?_
      refine R_if rfl (fun h41 => ?_) (fun h41 => ?_)
      · try simp only [ne_eq, b2i_e, b2i_1, Classical.not_not] at h41
        refine R_iload rfl rfl ?_
        refine R_istore rfl rfl ?_
        refine R_inc rfl rfl (by omega) (by omega) ?_
        refine R_goto rfl ?_
        first
        | exact ih (k, k + 1) ⟨by dsimp only; omega, by show k = _; rw [his, if_pos (hlz.mp (by omega))]⟩ (by dsimp only; omega)
        | exact ih (n, k + 1) ⟨by dsimp only; omega, by show n = _; rw [his, if_neg (fun w => by have := hlz.mpr w; omega), hn]⟩ (by dsimp only; omega)
      · try simp only [ne_eq, b2i_e, b2i_1, Classical.not_not] at h41
        refine R_iload rfl rfl ?_
        refine R_goto rfl ?_
        refine R_istore rfl rfl ?_
        refine R_inc rfl rfl (by omega) (by omega) ?_
        refine R_goto rfl ?_
        first
        | exact ih (k, k + 1) ⟨by dsimp only; omega, by show k = _; rw [his, if_pos (hlz.mp (by omega))]⟩ (by dsimp only; omega)
        | exact ih (n, k + 1) ⟨by dsimp only; omega, by show n = _; rw [his, if_neg (fun w => by have := hlz.mpr w; omega), hn]⟩ (by dsimp only; omega)
  · exact ⟨by dsimp only; omega, rfl⟩

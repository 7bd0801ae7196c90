set_option maxRecDepth 20000 in
set_option maxHeartbeats 2000000 in
theorem sp_X9_text_53 (d : Nat) (hd : 49 ≤ d) (xs : List (Nat × Nat)) (rr : Nat) (σ : Sg) (wd : Int → Int) (n m : Int) (h0 : σ 52 0 = n) (hn : 0 ≤ n ∧ n ≤ 1000) (hNT : NT (σ 53) n m) (hch : ∀ i, 0 ≤ i → i < n → 0 ≤ σ 53 i ∧ σ 53 i ≤ 127) (h54 : ∀ w, 0 ≤ w → w < 8 → σ 54 w = wvl 32 (wdg w) (wln w)) (h55 : ∀ w, 0 ≤ w → w < 12 → σ 55 w = wvl 32 (wdg (8 + w)) (wln (8 + w))) (h76 : ∀ w, 0 ≤ w → w < 20 → wd w = wvl 37 (wdg w) (wln w)) (hz : σ 40 0 = 0)  : ∃ σ', Ev d 6 [(16, 0)] (Wd xs 60 53 rr σ) (0, (txR (σ 53) wd n m 1001 x0).2.1) (Wd xs (if (txR (σ 53) wd n m 1001 x0).2.1 = 0 then 53 else 60) (if (txR (σ 53) wd n m 1001 x0).2.1 = 0 then 60 else 53) 53 σ') ∧ RdP σ σ' 37 m (txR (σ 53) wd n m 1001 x0) := by
  obtain ⟨d, rfl⟩ : ∃ e, d = e + 1 := ⟨d - 1, by omega⟩
  refine evR (nL := 2) (code := k_X9_text) rfl dc_X9_text rfl (fun E hE => ?_)
  show pCm (Ev d) k_X9_text E 0 [(16, 0), (9, 0)] [] _
  refine R_aload rfl rfl rfl ?_
  refine T_getr (v := 68) rfl rfl rfl rfl ?_
  refine R_aload rfl rfl rfl ?_
  refine T_getr (v := 52) rfl rfl rfl rfl ?_
  refine T_getr (v := 53) rfl rfl rfl rfl ?_
  obtain ⟨s1, hev1, hP1⟩ := sp_X7_read_37 d (by omega) xs 60 53 rr σ wd n m h0 hn hNT hch h54 h55 h76 hz
  refine R_invv rfl rfl rfl rfl rfl rfl (hev1) rfl ?_
  show pCm _ _ _ 14 _ [(0, _)] _
  refine R_istore rfl rfl ?_
  refine R_iload rfl rfl ?_
  refine R_if rfl (fun h16 => ?_) (fun h16 => ?_)
  · try simp only [ne_eq, b2i_e, b2i_1, Classical.not_not] at h16
    refine R_iload rfl rfl ?_
    refine R_iret rfl ?_
    first
    | (have q : (txR (σ 53) wd n m 1001 x0).2.1 = 0 := by first | exact h16 | omega
       have ew : Wd xs 53 60 53 s1 = Wd xs (if (txR (σ 53) wd n m 1001 x0).2.1 = 0 then 53 else 60) (if (txR (σ 53) wd n m 1001 x0).2.1 = 0 then 60 else 53) 53 s1 := by rw [if_pos q, if_pos q]
       rw [ew]
       exact hE _ _ rfl hP1)
    | (have q : (txR (σ 53) wd n m 1001 x0).2.1 ≠ 0 := by first | exact h16 | omega
       have ew : Wd xs 60 53 53 s1 = Wd xs (if (txR (σ 53) wd n m 1001 x0).2.1 = 0 then 53 else 60) (if (txR (σ 53) wd n m 1001 x0).2.1 = 0 then 60 else 53) 53 s1 := by rw [if_neg q, if_neg q]
       rw [ew]
       exact hE _ _ rfl hP1)
  · try simp only [ne_eq, b2i_e, b2i_1, Classical.not_not] at h16
    refine R_aload rfl rfl rfl ?_
    refine T_getr (v := 52) rfl rfl rfl rfl ?_
    refine R_invv rfl rfl rfl rfl rfl rfl (sp_X5_takeDraft_60 d (by omega) xs 60 53 53 s1) rfl ?_
    show pCm _ _ _ 26 _ [] _
    refine R_iload rfl rfl ?_
    refine R_iret rfl ?_
    first
    | (have q : (txR (σ 53) wd n m 1001 x0).2.1 = 0 := by first | exact h16 | omega
       have ew : Wd xs 53 60 53 s1 = Wd xs (if (txR (σ 53) wd n m 1001 x0).2.1 = 0 then 53 else 60) (if (txR (σ 53) wd n m 1001 x0).2.1 = 0 then 60 else 53) 53 s1 := by rw [if_pos q, if_pos q]
       rw [ew]
       exact hE _ _ rfl hP1)
    | (have q : (txR (σ 53) wd n m 1001 x0).2.1 ≠ 0 := by first | exact h16 | omega
       have ew : Wd xs 60 53 53 s1 = Wd xs (if (txR (σ 53) wd n m 1001 x0).2.1 = 0 then 53 else 60) (if (txR (σ 53) wd n m 1001 x0).2.1 = 0 then 60 else 53) 53 s1 := by rw [if_neg q, if_neg q]
       rw [ew]
       exact hE _ _ rfl hP1)
set_option maxRecDepth 20000 in
set_option maxHeartbeats 2000000 in
theorem sp_X9_text_60 (d : Nat) (hd : 49 ≤ d) (xs : List (Nat × Nat)) (rr : Nat) (σ : Sg) (wd : Int → Int) (n m : Int) (h0 : σ 52 0 = n) (hn : 0 ≤ n ∧ n ≤ 1000) (hNT : NT (σ 53) n m) (hch : ∀ i, 0 ≤ i → i < n → 0 ≤ σ 53 i ∧ σ 53 i ≤ 127) (h54 : ∀ w, 0 ≤ w → w < 8 → σ 54 w = wvl 32 (wdg w) (wln w)) (h55 : ∀ w, 0 ≤ w → w < 12 → σ 55 w = wvl 32 (wdg (8 + w)) (wln (8 + w))) (h76 : ∀ w, 0 ≤ w → w < 20 → wd w = wvl 37 (wdg w) (wln w)) (hz : σ 47 0 = 0)  : ∃ σ', Ev d 6 [(16, 0)] (Wd xs 53 60 rr σ) (0, (txR (σ 53) wd n m 1001 x0).2.1) (Wd xs (if (txR (σ 53) wd n m 1001 x0).2.1 = 0 then 60 else 53) (if (txR (σ 53) wd n m 1001 x0).2.1 = 0 then 53 else 60) 60 σ') ∧ RdP σ σ' 44 m (txR (σ 53) wd n m 1001 x0) := by
  obtain ⟨d, rfl⟩ : ∃ e, d = e + 1 := ⟨d - 1, by omega⟩
  refine evR (nL := 2) (code := k_X9_text) rfl dc_X9_text rfl (fun E hE => ?_)
  show pCm (Ev d) k_X9_text E 0 [(16, 0), (9, 0)] [] _
  refine R_aload rfl rfl rfl ?_
  refine T_getr (v := 68) rfl rfl rfl rfl ?_
  refine R_aload rfl rfl rfl ?_
  refine T_getr (v := 52) rfl rfl rfl rfl ?_
  refine T_getr (v := 60) rfl rfl rfl rfl ?_
  obtain ⟨s1, hev1, hP1⟩ := sp_X7_read_44 d (by omega) xs 53 60 rr σ wd n m h0 hn hNT hch h54 h55 h76 hz
  refine R_invv rfl rfl rfl rfl rfl rfl (hev1) rfl ?_
  show pCm _ _ _ 14 _ [(0, _)] _
  refine R_istore rfl rfl ?_
  refine R_iload rfl rfl ?_
  refine R_if rfl (fun h16 => ?_) (fun h16 => ?_)
  · try simp only [ne_eq, b2i_e, b2i_1, Classical.not_not] at h16
    refine R_iload rfl rfl ?_
    refine R_iret rfl ?_
    first
    | (have q : (txR (σ 53) wd n m 1001 x0).2.1 = 0 := by first | exact h16 | omega
       have ew : Wd xs 60 53 60 s1 = Wd xs (if (txR (σ 53) wd n m 1001 x0).2.1 = 0 then 60 else 53) (if (txR (σ 53) wd n m 1001 x0).2.1 = 0 then 53 else 60) 60 s1 := by rw [if_pos q, if_pos q]
       rw [ew]
       exact hE _ _ rfl hP1)
    | (have q : (txR (σ 53) wd n m 1001 x0).2.1 ≠ 0 := by first | exact h16 | omega
       have ew : Wd xs 53 60 60 s1 = Wd xs (if (txR (σ 53) wd n m 1001 x0).2.1 = 0 then 60 else 53) (if (txR (σ 53) wd n m 1001 x0).2.1 = 0 then 53 else 60) 60 s1 := by rw [if_neg q, if_neg q]
       rw [ew]
       exact hE _ _ rfl hP1)
  · try simp only [ne_eq, b2i_e, b2i_1, Classical.not_not] at h16
    refine R_aload rfl rfl rfl ?_
    refine T_getr (v := 52) rfl rfl rfl rfl ?_
    refine R_invv rfl rfl rfl rfl rfl rfl (sp_X5_takeDraft_53 d (by omega) xs 53 60 60 s1) rfl ?_
    show pCm _ _ _ 26 _ [] _
    refine R_iload rfl rfl ?_
    refine R_iret rfl ?_
    first
    | (have q : (txR (σ 53) wd n m 1001 x0).2.1 = 0 := by first | exact h16 | omega
       have ew : Wd xs 60 53 60 s1 = Wd xs (if (txR (σ 53) wd n m 1001 x0).2.1 = 0 then 60 else 53) (if (txR (σ 53) wd n m 1001 x0).2.1 = 0 then 53 else 60) 60 s1 := by rw [if_pos q, if_pos q]
       rw [ew]
       exact hE _ _ rfl hP1)
    | (have q : (txR (σ 53) wd n m 1001 x0).2.1 ≠ 0 := by first | exact h16 | omega
       have ew : Wd xs 53 60 60 s1 = Wd xs (if (txR (σ 53) wd n m 1001 x0).2.1 = 0 then 60 else 53) (if (txR (σ 53) wd n m 1001 x0).2.1 = 0 then 53 else 60) 60 s1 := by rw [if_neg q, if_neg q]
       rw [ew]
       exact hE _ _ rfl hP1)

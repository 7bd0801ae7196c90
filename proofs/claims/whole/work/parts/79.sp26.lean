set_option maxRecDepth 20000 in
set_option maxHeartbeats 2000000 in
theorem sp_X8_reckon_37 (d : Nat) (hd : 3 ≤ d) (xs : List (Nat × Nat)) (t dd rr : Nat) (σ : Sg) (i a n : Int) (K W : Int → Int) (hi : 0 ≤ i ∧ i < 24) (ha : σ 40 i = a) (hb : σ 40 (i + 1) = a + n) (h0 : 0 ≤ a ∧ 0 ≤ n ∧ a + n ≤ 1000) (hK : ∀ m, 0 ≤ m → m < n → pAnd (σ 41 (a + m)) 255 = K m ∧ pShr (σ 41 (a + m)) 8 = W m) (hW : WF K W n) : ∃ σ', Ev d 239 [(53, 0), (0, i), (67, 0)] (Wd xs t dd rr σ) (0, (erun (σ 42) (σ 51) K W n).2 0) (Wd xs t dd rr σ') ∧ Fr [42, 43] [] σ σ' ∧ σ' 42 = if σ 38 i = 128 ∧ 0 ≤ σ 39 i ∧ σ 39 i ≤ 7 then fup (σ 42) (σ 39 i) ((erun (σ 42) (σ 51) K W n).2 0) else σ 42 := by
  obtain ⟨d, rfl⟩ : ∃ e, d = e + 1 := ⟨d - 1, by omega⟩
  refine evS (nL := 7) (code := k_X8_reckon) rfl dc_X8_reckon rfl (fun E hE => ?_)
  show pCm (Ev d) k_X8_reckon E 0 [(53, 0), (0, i), (67, 0), (9, 0), (9, 0), (9, 0), (9, 0)] [] _
  refine R_push rfl ?_
  refine R_istore rfl rfl ?_
  refine R_aload rfl rfl rfl ?_
  refine T_getr (v := 56) rfl rfl rfl rfl ?_
  refine R_iload rfl rfl ?_
  refine T_ald rfl rfl (by omega) (by omega) ?_
  rw [ha]
  refine R_istore rfl rfl ?_
  refine fgt wc_X8_reckon [1, 1, 1, 1, 1, 0, 0] ?_
  suffices hh : pCm (Ev d) k_X8_reckon E 10 [(53, 0), (0, i), (67, 0), (0, 0), (0, a + 0), (9, 0), (9, 0)] [] (Wd xs t dd rr σ) by rwa [Int.add_zero] at hh
  refine loop (pc := 10) (α := Int × Sg) (fun x => (n - x.1).toNat) (fun x => ([(53, 0), (0, i), (67, 0), (0, hgt K x.1), (0, a + x.1), (9, 0), (9, 0)], Wd xs t dd rr x.2)) (fun x => (0 ≤ x.1 ∧ x.1 ≤ n) ∧ Fr [43] [] σ x.2 ∧ AG (x.2 43) (erun (σ 42) (σ 51) K W x.1)) ?_ (0, σ) ?_
  · intro ⟨m, s1⟩ ⟨hm, hF, hA⟩ ih
    dsimp only at hm hF hA ⊢
    have hs := erun_s (nm := σ 42) (kn := σ 51) (K := K) (W := W) hm.1
    have hh := erun_h (nm := σ 42) (kn := σ 51) (K := K) (W := W) m.toNat
    rw [Int.toNat_of_nonneg hm.1] at hh
    have hgs := hgt_s (K := K) hm.1
    have g3 := hF.row 40 rfl (i + 1)
    have g4 := hF.row 41 rfl (a + m)
    have hKm : m < n → _ := hK m hm.1
    have hWm : m < n → _ := hW.1 m hm.1
    refine R_iload rfl rfl ?_
    refine R_aload rfl rfl rfl ?_
    refine T_getr (v := 56) rfl rfl rfl rfl ?_
    refine R_iload rfl rfl ?_
    refine R_push rfl ?_
    refine R_add rfl (by omega) (by omega) ?_
    refine T_ald rfl rfl (by omega) (by omega) ?_
    refine R_ic rfl (fun h20 => ?_) (fun h20 => ?_)
    · try simp only [ne_eq, b2i_e, b2i_1, Classical.not_not] at h20
      refine R_iload rfl rfl ?_
      refine R_if rfl (fun h115 => absurd h115 (by have := hW.2; rw [show m = n by omega]; omega)) (fun _ => ?_)
      have emn : m = n := by omega
      have hv0 : s1 43 0 = (erun (σ 42) (σ 51) K W n).2 0 := by rw [← emn]; exact hA 0 (Int.le_refl _) (by rw [hh, emn, hW.2]; decide)
      have k1 := hF.row 38 rfl i
      have k2 := hF.row 39 rfl i
      refine R_aload rfl rfl rfl ?_
      refine T_getr (v := 59) rfl rfl rfl rfl ?_
      refine R_push rfl ?_
      refine T_ald rfl rfl (by omega) (by omega) ?_
      rw [hv0]
      refine R_goto rfl ?_
      refine R_istore rfl rfl ?_
      refine R_aload rfl rfl rfl ?_
      refine T_getr (v := 54) rfl rfl rfl rfl ?_
      refine R_iload rfl rfl ?_
      refine T_ald rfl rfl (by omega) (by omega) ?_
      refine R_push rfl ?_
      refine R_ic rfl (fun h139 => ?_) (fun h139 => ?_)
      · try simp only [ne_eq, b2i_e, b2i_1, Classical.not_not] at h139
        refine R_iload rfl rfl ?_
        refine R_iret rfl ?_
        first
        | (refine hE _ _ rfl ⟨hF.tr (r2 := []) (s2 := []) Fr.rf rfl rfl, ?_⟩
           rw [if_neg (by omega)]; exact hF.fn 42 rfl)
        | (refine hE _ _ rfl ⟨(hF.tr (r2 := []) (s2 := []) (r3 := [42, 43]) (s3 := []) Fr.rf rfl rfl).upr rfl, ?_⟩
           rw [if_pos (by omega), up_row, k2, hF.fn 42 rfl])
      · try simp only [ne_eq, b2i_e, b2i_1, Classical.not_not] at h139
        refine R_aload rfl rfl rfl ?_
        refine T_getr (v := 55) rfl rfl rfl rfl ?_
        refine R_iload rfl rfl ?_
        refine T_ald rfl rfl (by omega) (by omega) ?_
        refine R_push rfl ?_
        refine R_push rfl ?_
        refine R_inv rfl rfl rfl rfl rfl (sp_X9_within d (by omega) _ _ _ _) rfl ?_
        show pCm _ _ _ 154 _ [(0, _)] _
        refine R_if rfl (fun h154 => ?_) (fun h154 => ?_)
        · try simp only [ne_eq, b2i_e, b2i_1, Classical.not_not] at h154
          refine R_iload rfl rfl ?_
          refine R_iret rfl ?_
          first
          | (refine hE _ _ rfl ⟨hF.tr (r2 := []) (s2 := []) Fr.rf rfl rfl, ?_⟩
             rw [if_neg (by omega)]; exact hF.fn 42 rfl)
          | (refine hE _ _ rfl ⟨(hF.tr (r2 := []) (s2 := []) (r3 := [42, 43]) (s3 := []) Fr.rf rfl rfl).upr rfl, ?_⟩
             rw [if_pos (by omega), up_row, k2, hF.fn 42 rfl])
        · try simp only [ne_eq, b2i_e, b2i_1, Classical.not_not] at h154
          refine R_aload rfl rfl rfl ?_
          refine T_getr (v := 58) rfl rfl rfl rfl ?_
          refine R_aload rfl rfl rfl ?_
          refine T_getr (v := 55) rfl rfl rfl rfl ?_
          refine R_iload rfl rfl ?_
          refine T_ald rfl rfl (by omega) (by omega) ?_
          refine R_iload rfl rfl ?_
          refine T_iast rfl rfl (by omega) (by omega) ?_
          refine R_iload rfl rfl ?_
          refine R_iret rfl ?_
          first
          | (refine hE _ _ rfl ⟨hF.tr (r2 := []) (s2 := []) Fr.rf rfl rfl, ?_⟩
             rw [if_neg (by omega)]; exact hF.fn 42 rfl)
          | (refine hE _ _ rfl ⟨(hF.tr (r2 := []) (s2 := []) (r3 := [42, 43]) (s3 := []) Fr.rf rfl rfl).upr rfl, ?_⟩
             rw [if_pos (by omega), up_row, k2, hF.fn 42 rfl])
    · try simp only [ne_eq, b2i_e, b2i_1, Classical.not_not] at h20
      have hKm := hKm (by omega)
      have hWm := hWm (by omega)
      obtain ⟨hok, hlt⟩ := hWm
      unfold okst isBin at hok
      refine R_aload rfl rfl rfl ?_
      refine T_getr (v := 57) rfl rfl rfl rfl ?_
      refine R_iload rfl rfl ?_
      refine T_ald rfl rfl (by omega) (by omega) ?_
      refine R_push rfl ?_
      refine R_bin rfl ?_
      rw [g4, hKm.1]
      refine R_istore rfl rfl ?_
      refine R_aload rfl rfl rfl ?_
      refine T_getr (v := 57) rfl rfl rfl rfl ?_
      refine R_iload rfl rfl ?_
      refine T_ald rfl rfl (by omega) (by omega) ?_
      refine R_push rfl ?_
      refine R_bin rfl ?_
      rw [g4, hKm.2]
      refine R_istore rfl rfl ?_
      refine R_iload rfl rfl ?_
      refine R_push rfl ?_
      refine R_ic rfl (fun h53 => ?_) (fun h53 => ?_)
      · try simp only [ne_eq, b2i_e, b2i_1, Classical.not_not] at h53
        have J82 : (K m = 2 ∨ K m = 3 ∨ K m = 4) → pCm (Ev d) k_X8_reckon E 82 [(53, 0), (0, i), (67, 0), (0, hgt K m), (0, a + m), (0, K m), (0, W m)] [] (Wd xs t dd rr s1) := by
          intro hk3
          refine R_aload rfl rfl rfl ?_
          refine R_iload rfl rfl ?_
          refine R_aload rfl rfl rfl ?_
          refine R_iload rfl rfl ?_
          refine R_iload rfl rfl ?_
          refine R_aload rfl rfl rfl ?_
          refine R_invv rfl rfl rfl rfl rfl rfl (sp_X8_plainWorth_37 d (by omega) xs t dd rr s1 (K m) (W m) (by omega)) rfl ?_
          show pCm _ _ _ 93 _ [(0, _), (0, _), (53, 0)] _
          rw [hF.fn 42 rfl, hF.fn 51 rfl]
          refine R_invv rfl rfl rfl rfl rfl rfl (sp_X8_put_37 d (by omega) xs t dd rr s1 (hgt K m) _ ⟨by omega, by omega⟩) rfl ?_
          show pCm _ _ _ 96 _ [(0, _)] _
          refine R_istore rfl rfl ?_
          refine R_goto rfl ?_
          generalize hs4 : up2 s1 43 (hgt K m) (pln (σ 42) (σ 51) (K m) (W m)) = s4
          refine R_inc rfl rfl (by omega) (by omega) ?_
          refine R_goto rfl ?_
          refine fgt wc_X8_reckon [1, 1, 1, 1, 1, 0, 0] ?_
          rw [Int.add_assoc]
          have hga : hgt K (m + 1) = hgt K m + 1 := by rw [hgs]; rw [if_neg (by omega), if_pos (by omega)]
          rw [← hga]
          refine ih (m + 1, s4) ⟨by dsimp only; omega, by rw [← hs4]; exact hF.upr rfl, ?_⟩ (by dsimp only; omega)
          dsimp only
          rw [hs, ← hs4, up_row, ← hh]
          exact AG_pln hA (by omega)
        refine R_iload rfl rfl ?_
        refine R_push rfl ?_
        refine R_ic rfl (fun h67 => ?_) (fun h67 => ?_)
        · try simp only [ne_eq, b2i_e, b2i_1, Classical.not_not] at h67
          exact J82 (by omega)
        · try simp only [ne_eq, b2i_e, b2i_1, Classical.not_not] at h67
          refine R_iload rfl rfl ?_
          refine R_push rfl ?_
          refine R_ic rfl (fun h73 => ?_) (fun h73 => ?_)
          · try simp only [ne_eq, b2i_e, b2i_1, Classical.not_not] at h73
            exact J82 (by omega)
          · try simp only [ne_eq, b2i_e, b2i_1, Classical.not_not] at h73
            refine R_iload rfl rfl ?_
            refine R_push rfl ?_
            refine R_ic rfl (fun h79 => ?_) (fun h79 => ?_)
            · try simp only [ne_eq, b2i_e, b2i_1, Classical.not_not] at h79
              refine R_aload rfl rfl rfl ?_
              refine R_iload rfl rfl ?_
              refine R_iload rfl rfl ?_
              refine R_invv rfl rfl rfl rfl rfl rfl (sp_X8_putTogether_37 d (by omega) xs t dd rr s1 (hgt K m) (K m) ⟨by omega, by omega⟩ (by unfold isBin; omega)) rfl ?_
              show pCm _ _ _ 107 _ [(0, _)] _
              refine R_istore rfl rfl ?_
              generalize hs4 : up2 s1 43 (hgt K m - 2) (bino (K m) (s1 43 (hgt K m - 2)) (s1 43 (hgt K m - 1))) = s4
              refine R_inc rfl rfl (by omega) (by omega) ?_
              refine R_goto rfl ?_
              refine fgt wc_X8_reckon [1, 1, 1, 1, 1, 0, 0] ?_
              rw [Int.add_assoc]
              have hga : hgt K (m + 1) = hgt K m - 1 := by rw [hgs]; rw [if_neg (by omega), if_neg (by omega)]
              rw [← hga]
              refine ih (m + 1, s4) ⟨by dsimp only; omega, by rw [← hs4]; exact hF.upr rfl, ?_⟩ (by dsimp only; omega)
              dsimp only
              rw [hs, ← hs4, up_row, ← hh]
              exact AG_bin hA (by unfold isBin; omega) (by omega)
            · try simp only [ne_eq, b2i_e, b2i_1, Classical.not_not] at h79
              exact J82 (by omega)
      · try simp only [ne_eq, b2i_e, b2i_1, Classical.not_not] at h53
        refine R_aload rfl rfl rfl ?_
        refine R_iload rfl rfl ?_
        refine R_invv rfl rfl rfl rfl rfl rfl (sp_X8_turnRound_37 d (by omega) xs t dd rr s1 (hgt K m) ⟨by omega, by omega⟩) rfl ?_
        show pCm _ _ _ 61 _ [] _
        refine R_goto rfl ?_
        generalize hs4 : up2 s1 43 (hgt K m - 1) (nt (s1 43 (hgt K m - 1))) = s4
        refine R_inc rfl rfl (by omega) (by omega) ?_
        refine R_goto rfl ?_
        refine fgt wc_X8_reckon [1, 1, 1, 1, 1, 0, 0] ?_
        rw [Int.add_assoc]
        have hga : hgt K (m + 1) = hgt K m := by rw [hgs]; rw [if_pos (by omega)]
        rw [← hga]
        refine ih (m + 1, s4) ⟨by dsimp only; omega, by rw [← hs4]; exact hF.upr rfl, ?_⟩ (by dsimp only; omega)
        dsimp only
        rw [hs, ← hs4, up_row, ← hh]
        exact AG_not hA (by omega) (by omega)
  · exact ⟨by dsimp only; omega, Fr.rf, fun j j0 j1 => by have : j < 0 := j1; omega⟩
set_option maxRecDepth 20000 in
set_option maxHeartbeats 2000000 in
theorem sp_X8_reckon_44 (d : Nat) (hd : 3 ≤ d) (xs : List (Nat × Nat)) (t dd rr : Nat) (σ : Sg) (i a n : Int) (K W : Int → Int) (hi : 0 ≤ i ∧ i < 24) (ha : σ 47 i = a) (hb : σ 47 (i + 1) = a + n) (h0 : 0 ≤ a ∧ 0 ≤ n ∧ a + n ≤ 1000) (hK : ∀ m, 0 ≤ m → m < n → pAnd (σ 48 (a + m)) 255 = K m ∧ pShr (σ 48 (a + m)) 8 = W m) (hW : WF K W n) : ∃ σ', Ev d 239 [(60, 0), (0, i), (67, 0)] (Wd xs t dd rr σ) (0, (erun (σ 49) (σ 51) K W n).2 0) (Wd xs t dd rr σ') ∧ Fr [49, 50] [] σ σ' ∧ σ' 49 = if σ 45 i = 128 ∧ 0 ≤ σ 46 i ∧ σ 46 i ≤ 7 then fup (σ 49) (σ 46 i) ((erun (σ 49) (σ 51) K W n).2 0) else σ 49 := by
  obtain ⟨d, rfl⟩ : ∃ e, d = e + 1 := ⟨d - 1, by omega⟩
  refine evS (nL := 7) (code := k_X8_reckon) rfl dc_X8_reckon rfl (fun E hE => ?_)
  show pCm (Ev d) k_X8_reckon E 0 [(60, 0), (0, i), (67, 0), (9, 0), (9, 0), (9, 0), (9, 0)] [] _
  refine R_push rfl ?_
  refine R_istore rfl rfl ?_
  refine R_aload rfl rfl rfl ?_
  refine T_getr (v := 63) rfl rfl rfl rfl ?_
  refine R_iload rfl rfl ?_
  refine T_ald rfl rfl (by omega) (by omega) ?_
  rw [ha]
  refine R_istore rfl rfl ?_
  refine fgt wc_X8_reckon [1, 1, 1, 1, 1, 0, 0] ?_
  suffices hh : pCm (Ev d) k_X8_reckon E 10 [(60, 0), (0, i), (67, 0), (0, 0), (0, a + 0), (9, 0), (9, 0)] [] (Wd xs t dd rr σ) by rwa [Int.add_zero] at hh
  refine loop (pc := 10) (α := Int × Sg) (fun x => (n - x.1).toNat) (fun x => ([(60, 0), (0, i), (67, 0), (0, hgt K x.1), (0, a + x.1), (9, 0), (9, 0)], Wd xs t dd rr x.2)) (fun x => (0 ≤ x.1 ∧ x.1 ≤ n) ∧ Fr [50] [] σ x.2 ∧ AG (x.2 50) (erun (σ 49) (σ 51) K W x.1)) ?_ (0, σ) ?_
  · intro ⟨m, s1⟩ ⟨hm, hF, hA⟩ ih
    dsimp only at hm hF hA ⊢
    have hs := erun_s (nm := σ 49) (kn := σ 51) (K := K) (W := W) hm.1
    have hh := erun_h (nm := σ 49) (kn := σ 51) (K := K) (W := W) m.toNat
    rw [Int.toNat_of_nonneg hm.1] at hh
    have hgs := hgt_s (K := K) hm.1
    have g3 := hF.row 47 rfl (i + 1)
    have g4 := hF.row 48 rfl (a + m)
    have hKm : m < n → _ := hK m hm.1
    have hWm : m < n → _ := hW.1 m hm.1
    refine R_iload rfl rfl ?_
    refine R_aload rfl rfl rfl ?_
    refine T_getr (v := 63) rfl rfl rfl rfl ?_
    refine R_iload rfl rfl ?_
    refine R_push rfl ?_
    refine R_add rfl (by omega) (by omega) ?_
    refine T_ald rfl rfl (by omega) (by omega) ?_
    refine R_ic rfl (fun h20 => ?_) (fun h20 => ?_)
    · try simp only [ne_eq, b2i_e, b2i_1, Classical.not_not] at h20
      refine R_iload rfl rfl ?_
      refine R_if rfl (fun h115 => absurd h115 (by have := hW.2; rw [show m = n by omega]; omega)) (fun _ => ?_)
      have emn : m = n := by omega
      have hv0 : s1 50 0 = (erun (σ 49) (σ 51) K W n).2 0 := by rw [← emn]; exact hA 0 (Int.le_refl _) (by rw [hh, emn, hW.2]; decide)
      have k1 := hF.row 45 rfl i
      have k2 := hF.row 46 rfl i
      refine R_aload rfl rfl rfl ?_
      refine T_getr (v := 66) rfl rfl rfl rfl ?_
      refine R_push rfl ?_
      refine T_ald rfl rfl (by omega) (by omega) ?_
      rw [hv0]
      refine R_goto rfl ?_
      refine R_istore rfl rfl ?_
      refine R_aload rfl rfl rfl ?_
      refine T_getr (v := 61) rfl rfl rfl rfl ?_
      refine R_iload rfl rfl ?_
      refine T_ald rfl rfl (by omega) (by omega) ?_
      refine R_push rfl ?_
      refine R_ic rfl (fun h139 => ?_) (fun h139 => ?_)
      · try simp only [ne_eq, b2i_e, b2i_1, Classical.not_not] at h139
        refine R_iload rfl rfl ?_
        refine R_iret rfl ?_
        first
        | (refine hE _ _ rfl ⟨hF.tr (r2 := []) (s2 := []) Fr.rf rfl rfl, ?_⟩
           rw [if_neg (by omega)]; exact hF.fn 49 rfl)
        | (refine hE _ _ rfl ⟨(hF.tr (r2 := []) (s2 := []) (r3 := [49, 50]) (s3 := []) Fr.rf rfl rfl).upr rfl, ?_⟩
           rw [if_pos (by omega), up_row, k2, hF.fn 49 rfl])
      · try simp only [ne_eq, b2i_e, b2i_1, Classical.not_not] at h139
        refine R_aload rfl rfl rfl ?_
        refine T_getr (v := 62) rfl rfl rfl rfl ?_
        refine R_iload rfl rfl ?_
        refine T_ald rfl rfl (by omega) (by omega) ?_
        refine R_push rfl ?_
        refine R_push rfl ?_
        refine R_inv rfl rfl rfl rfl rfl (sp_X9_within d (by omega) _ _ _ _) rfl ?_
        show pCm _ _ _ 154 _ [(0, _)] _
        refine R_if rfl (fun h154 => ?_) (fun h154 => ?_)
        · try simp only [ne_eq, b2i_e, b2i_1, Classical.not_not] at h154
          refine R_iload rfl rfl ?_
          refine R_iret rfl ?_
          first
          | (refine hE _ _ rfl ⟨hF.tr (r2 := []) (s2 := []) Fr.rf rfl rfl, ?_⟩
             rw [if_neg (by omega)]; exact hF.fn 49 rfl)
          | (refine hE _ _ rfl ⟨(hF.tr (r2 := []) (s2 := []) (r3 := [49, 50]) (s3 := []) Fr.rf rfl rfl).upr rfl, ?_⟩
             rw [if_pos (by omega), up_row, k2, hF.fn 49 rfl])
        · try simp only [ne_eq, b2i_e, b2i_1, Classical.not_not] at h154
          refine R_aload rfl rfl rfl ?_
          refine T_getr (v := 65) rfl rfl rfl rfl ?_
          refine R_aload rfl rfl rfl ?_
          refine T_getr (v := 62) rfl rfl rfl rfl ?_
          refine R_iload rfl rfl ?_
          refine T_ald rfl rfl (by omega) (by omega) ?_
          refine R_iload rfl rfl ?_
          refine T_iast rfl rfl (by omega) (by omega) ?_
          refine R_iload rfl rfl ?_
          refine R_iret rfl ?_
          first
          | (refine hE _ _ rfl ⟨hF.tr (r2 := []) (s2 := []) Fr.rf rfl rfl, ?_⟩
             rw [if_neg (by omega)]; exact hF.fn 49 rfl)
          | (refine hE _ _ rfl ⟨(hF.tr (r2 := []) (s2 := []) (r3 := [49, 50]) (s3 := []) Fr.rf rfl rfl).upr rfl, ?_⟩
             rw [if_pos (by omega), up_row, k2, hF.fn 49 rfl])
    · try simp only [ne_eq, b2i_e, b2i_1, Classical.not_not] at h20
      have hKm := hKm (by omega)
      have hWm := hWm (by omega)
      obtain ⟨hok, hlt⟩ := hWm
      unfold okst isBin at hok
      refine R_aload rfl rfl rfl ?_
      refine T_getr (v := 64) rfl rfl rfl rfl ?_
      refine R_iload rfl rfl ?_
      refine T_ald rfl rfl (by omega) (by omega) ?_
      refine R_push rfl ?_
      refine R_bin rfl ?_
      rw [g4, hKm.1]
      refine R_istore rfl rfl ?_
      refine R_aload rfl rfl rfl ?_
      refine T_getr (v := 64) rfl rfl rfl rfl ?_
      refine R_iload rfl rfl ?_
      refine T_ald rfl rfl (by omega) (by omega) ?_
      refine R_push rfl ?_
      refine R_bin rfl ?_
      rw [g4, hKm.2]
      refine R_istore rfl rfl ?_
      refine R_iload rfl rfl ?_
      refine R_push rfl ?_
      refine R_ic rfl (fun h53 => ?_) (fun h53 => ?_)
      · try simp only [ne_eq, b2i_e, b2i_1, Classical.not_not] at h53
        have J82 : (K m = 2 ∨ K m = 3 ∨ K m = 4) → pCm (Ev d) k_X8_reckon E 82 [(60, 0), (0, i), (67, 0), (0, hgt K m), (0, a + m), (0, K m), (0, W m)] [] (Wd xs t dd rr s1) := by
          intro hk3
          refine R_aload rfl rfl rfl ?_
          refine R_iload rfl rfl ?_
          refine R_aload rfl rfl rfl ?_
          refine R_iload rfl rfl ?_
          refine R_iload rfl rfl ?_
          refine R_aload rfl rfl rfl ?_
          refine R_invv rfl rfl rfl rfl rfl rfl (sp_X8_plainWorth_44 d (by omega) xs t dd rr s1 (K m) (W m) (by omega)) rfl ?_
          show pCm _ _ _ 93 _ [(0, _), (0, _), (60, 0)] _
          rw [hF.fn 49 rfl, hF.fn 51 rfl]
          refine R_invv rfl rfl rfl rfl rfl rfl (sp_X8_put_44 d (by omega) xs t dd rr s1 (hgt K m) _ ⟨by omega, by omega⟩) rfl ?_
          show pCm _ _ _ 96 _ [(0, _)] _
          refine R_istore rfl rfl ?_
          refine R_goto rfl ?_
          generalize hs4 : up2 s1 50 (hgt K m) (pln (σ 49) (σ 51) (K m) (W m)) = s4
          refine R_inc rfl rfl (by omega) (by omega) ?_
          refine R_goto rfl ?_
          refine fgt wc_X8_reckon [1, 1, 1, 1, 1, 0, 0] ?_
          rw [Int.add_assoc]
          have hga : hgt K (m + 1) = hgt K m + 1 := by rw [hgs]; rw [if_neg (by omega), if_pos (by omega)]
          rw [← hga]
          refine ih (m + 1, s4) ⟨by dsimp only; omega, by rw [← hs4]; exact hF.upr rfl, ?_⟩ (by dsimp only; omega)
          dsimp only
          rw [hs, ← hs4, up_row, ← hh]
          exact AG_pln hA (by omega)
        refine R_iload rfl rfl ?_
        refine R_push rfl ?_
        refine R_ic rfl (fun h67 => ?_) (fun h67 => ?_)
        · try simp only [ne_eq, b2i_e, b2i_1, Classical.not_not] at h67
          exact J82 (by omega)
        · try simp only [ne_eq, b2i_e, b2i_1, Classical.not_not] at h67
          refine R_iload rfl rfl ?_
          refine R_push rfl ?_
          refine R_ic rfl (fun h73 => ?_) (fun h73 => ?_)
          · try simp only [ne_eq, b2i_e, b2i_1, Classical.not_not] at h73
            exact J82 (by omega)
          · try simp only [ne_eq, b2i_e, b2i_1, Classical.not_not] at h73
            refine R_iload rfl rfl ?_
            refine R_push rfl ?_
            refine R_ic rfl (fun h79 => ?_) (fun h79 => ?_)
            · try simp only [ne_eq, b2i_e, b2i_1, Classical.not_not] at h79
              refine R_aload rfl rfl rfl ?_
              refine R_iload rfl rfl ?_
              refine R_iload rfl rfl ?_
              refine R_invv rfl rfl rfl rfl rfl rfl (sp_X8_putTogether_44 d (by omega) xs t dd rr s1 (hgt K m) (K m) ⟨by omega, by omega⟩ (by unfold isBin; omega)) rfl ?_
              show pCm _ _ _ 107 _ [(0, _)] _
              refine R_istore rfl rfl ?_
              generalize hs4 : up2 s1 50 (hgt K m - 2) (bino (K m) (s1 50 (hgt K m - 2)) (s1 50 (hgt K m - 1))) = s4
              refine R_inc rfl rfl (by omega) (by omega) ?_
              refine R_goto rfl ?_
              refine fgt wc_X8_reckon [1, 1, 1, 1, 1, 0, 0] ?_
              rw [Int.add_assoc]
              have hga : hgt K (m + 1) = hgt K m - 1 := by rw [hgs]; rw [if_neg (by omega), if_neg (by omega)]
              rw [← hga]
              refine ih (m + 1, s4) ⟨by dsimp only; omega, by rw [← hs4]; exact hF.upr rfl, ?_⟩ (by dsimp only; omega)
              dsimp only
              rw [hs, ← hs4, up_row, ← hh]
              exact AG_bin hA (by unfold isBin; omega) (by omega)
            · try simp only [ne_eq, b2i_e, b2i_1, Classical.not_not] at h79
              exact J82 (by omega)
      · try simp only [ne_eq, b2i_e, b2i_1, Classical.not_not] at h53
        refine R_aload rfl rfl rfl ?_
        refine R_iload rfl rfl ?_
        refine R_invv rfl rfl rfl rfl rfl rfl (sp_X8_turnRound_44 d (by omega) xs t dd rr s1 (hgt K m) ⟨by omega, by omega⟩) rfl ?_
        show pCm _ _ _ 61 _ [] _
        refine R_goto rfl ?_
        generalize hs4 : up2 s1 50 (hgt K m - 1) (nt (s1 50 (hgt K m - 1))) = s4
        refine R_inc rfl rfl (by omega) (by omega) ?_
        refine R_goto rfl ?_
        refine fgt wc_X8_reckon [1, 1, 1, 1, 1, 0, 0] ?_
        rw [Int.add_assoc]
        have hga : hgt K (m + 1) = hgt K m := by rw [hgs]; rw [if_pos (by omega)]
        rw [← hga]
        refine ih (m + 1, s4) ⟨by dsimp only; omega, by rw [← hs4]; exact hF.upr rfl, ?_⟩ (by dsimp only; omega)
        dsimp only
        rw [hs, ← hs4, up_row, ← hh]
        exact AG_not hA (by omega) (by omega)
  · exact ⟨by dsimp only; omega, Fr.rf, fun j j0 j1 => by have : j < 0 := j1; omega⟩

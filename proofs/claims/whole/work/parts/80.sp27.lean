theorem opOf_c {k w h : Int} (hok : okst k w h) : (k = 2 ∧ opOf k = 1) ∨ (k = 4 ∧ opOf k = 2) ∨ (k = 3 ∧ opOf k = 3) ∨ (k = 135 ∧ opOf k = 4) ∨ (isBin k ∧ 5 ≤ opOf k ∧ opOf k ≤ 11) := by
  unfold okst isBin at hok
  unfold isBin opOf
  have : k = 2 ∨ k = 3 ∨ k = 4 ∨ k = 135 ∨ k = 42 ∨ k = 43 ∨ k = 45 ∨ k = 60 ∨ k = 61 ∨ k = 133 ∨ k = 134 := by omega
  rcases this with e | e | e | e | e | e | e | e | e | e | e <;> subst e <;> decide
set_option maxRecDepth 20000 in
set_option maxHeartbeats 2000000 in
theorem sp_X10_worth (d : Nat) (hd : 2 ≤ d) (xs : List (Nat × Nat)) (t dd rr : Nat) (σ : Sg) (a n : Int) (K W : Int → Int) (h0 : 0 ≤ a ∧ 0 ≤ n ∧ a + n < 2200) (hK : ∀ m, 0 ≤ m → m < n → σ 83 (a + m) = opOf (K m) ∧ σ 84 (a + m) = W m) (hend : σ 83 (a + n) = 0) (hW : WF K W n) : ∃ σ', Ev d 60 [(87, 0), (0, a)] (Wd xs t dd rr σ) (0, (erun (σ 86) (σ 85) K W n).2 0) (Wd xs t dd rr σ') ∧ Fr [87] [] σ σ' := by
  obtain ⟨d, rfl⟩ : ∃ e, d = e + 1 := ⟨d - 1, by omega⟩
  refine evS (nL := 5) (code := k_X10_worth) rfl dc_X10_worth rfl (fun E hE => ?_)
  show pCm (Ev d) k_X10_worth E 0 [(87, 0), (0, a), (9, 0), (9, 0), (9, 0)] [] _
  refine R_push rfl ?_
  refine R_istore rfl rfl ?_
  refine R_iload rfl rfl ?_
  refine R_istore rfl rfl ?_
  refine fgt wc_X10_worth [1, 1, 1, 1, 0] ?_
  suffices hh : pCm (Ev d) k_X10_worth E 4 [(87, 0), (0, a), (0, 0), (0, a + 0), (9, 0)] [] (Wd xs t dd rr σ) by rwa [Int.add_zero] at hh
  refine loop (pc := 4) (α := Int × Sg) (fun x => (n - x.1).toNat) (fun x => ([(87, 0), (0, a), (0, hgt K x.1), (0, a + x.1), (9, 0)], Wd xs t dd rr x.2)) (fun x => (0 ≤ x.1 ∧ x.1 ≤ n) ∧ Fr [87] [] σ x.2 ∧ AG (x.2 87) (erun (σ 86) (σ 85) K W x.1)) ?_ (0, σ) ?_
  · intro ⟨m, s1⟩ ⟨hm, hF, hA⟩ ih
    dsimp only at hm hF hA ⊢
    have hs := erun_s (nm := σ 86) (kn := σ 85) (K := K) (W := W) hm.1
    have hh := erun_h (nm := σ 86) (kn := σ 85) (K := K) (W := W) m.toNat
    rw [Int.toNat_of_nonneg hm.1] at hh
    have hgs := hgt_s (K := K) hm.1
    have g83 := hF.row 83 rfl (a + m)
    have g84 := hF.row 84 rfl (a + m)
    have hKm : m < n → _ := hK m hm.1
    have hWm : m < n → _ := hW.1 m hm.1
    have hen : m = n → s1 83 (a + m) = 0 := fun e => by rw [g83, e]; exact hend
    have hop : m < n → 1 ≤ s1 83 (a + m) := fun q => by
      rw [g83, (hKm q).1]
      have := opOf_c (hWm q).1
      omega
    refine R_aload rfl rfl rfl ?_
    refine T_getr (v := 99) rfl rfl rfl rfl ?_
    refine R_iload rfl rfl ?_
    refine T_ald rfl rfl (by omega) (by omega) ?_
    refine R_if rfl (fun h10 => ?_) (fun h10 => ?_)
    · try simp only [ne_eq, b2i_e, b2i_1, Classical.not_not] at h10
      have emn : m = n := by omega
      have hv0 : s1 87 0 = (erun (σ 86) (σ 85) K W n).2 0 := by rw [← emn]; exact hA 0 (Int.le_refl _) (by rw [hh, emn, hW.2]; decide)
      refine R_aload rfl rfl rfl ?_
      refine T_getr (v := 103) rfl rfl rfl rfl ?_
      refine R_push rfl ?_
      refine T_ald rfl rfl (by omega) (by omega) ?_
      rw [hv0]
      refine R_iret rfl ?_
      exact hE _ _ rfl hF
    · try simp only [ne_eq, b2i_e, b2i_1, Classical.not_not] at h10
      have hKm := hKm (by omega)
      have hWm := hWm (by omega)
      obtain ⟨hok, hlt⟩ := hWm
      have hoc := opOf_c hok
      unfold isBin at hoc
      have hok2 := hok
      unfold okst isBin at hok2
      have e83 : s1 83 (a + m) = opOf (K m) := by rw [g83]; exact hKm.1
      have e84 : s1 84 (a + m) = W m := by rw [g84]; exact hKm.2
      refine R_aload rfl rfl rfl ?_
      refine T_getr (v := 99) rfl rfl rfl rfl ?_
      refine R_iload rfl rfl ?_
      refine T_ald rfl rfl (by omega) (by omega) ?_
      rw [e83]
      refine R_istore rfl rfl ?_
      have J39 : (K m = 2 ∨ K m = 3 ∨ K m = 4) → pCm (Ev d) k_X10_worth E 39 [(87, 0), (0, a), (0, hgt K m), (0, a + m), (0, opOf (K m))] [] (Wd xs t dd rr s1) := by
        intro hk3
        refine R_aload rfl rfl rfl ?_
        refine T_getr (v := 103) rfl rfl rfl rfl ?_
        have J90 : ∀ v : Int, v = pln (σ 86) (σ 85) (K m) (W m) → pCm (Ev d) k_X10_worth E 90 [(87, 0), (0, a), (0, hgt K m), (0, a + m), (0, opOf (K m))] [(0, v), (0, hgt K m), (103, 0)] (Wd xs t dd rr s1) := by
          intro v hv
          rw [hv]
          refine T_iast rfl rfl (by omega) (by omega) ?_
          refine R_inc rfl rfl (by omega) (by omega) ?_
          refine R_goto rfl ?_
          generalize hs4 : up2 s1 87 (hgt K m) (pln (σ 86) (σ 85) (K m) (W m)) = s4
          have hga : hgt K (m + 1) = hgt K m + 1 := by rw [hgs]; rw [if_neg (by omega), if_pos (by omega)]
          refine R_inc rfl rfl (by omega) (by omega) ?_
          refine R_goto rfl ?_
          refine fgt wc_X10_worth [1, 1, 1, 1, 0] ?_
          rw [Int.add_assoc, ← hga]
          refine ih (m + 1, s4) ⟨by dsimp only; omega, by rw [← hs4]; exact hF.upr rfl, ?_⟩ (by dsimp only; omega)
          dsimp only
          rw [hs, ← hs4, up_row, ← hh]
          exact AG_pln hA (by omega)
        refine R_iload rfl rfl ?_
        refine R_iload rfl rfl ?_
        refine R_push rfl ?_
        refine R_ic rfl (fun h47 => ?_) (fun h47 => ?_)
        · try simp only [ne_eq, b2i_e, b2i_1, Classical.not_not] at h47
          refine R_iload rfl rfl ?_
          refine R_push rfl ?_
          refine R_ic rfl (fun h62 => ?_) (fun h62 => ?_)
          · try simp only [ne_eq, b2i_e, b2i_1, Classical.not_not] at h62
            refine R_aload rfl rfl rfl ?_
            refine T_getr (v := 102) rfl rfl rfl rfl ?_
            refine R_aload rfl rfl rfl ?_
            refine T_getr (v := 100) rfl rfl rfl rfl ?_
            refine R_iload rfl rfl ?_
            refine T_ald rfl rfl (by omega) (by omega) ?_
            rw [e84]
            refine T_ald rfl rfl (by omega) (by omega) ?_
            exact J90 _ (by
              unfold pln
              first
              | rw [if_neg (by omega), if_neg (by omega)]
              | (rw [if_neg (by omega), if_pos (by omega)]; exact hF.row 85 rfl _)
              | (rw [if_pos (by omega)]; exact hF.row 86 rfl _))
          · try simp only [ne_eq, b2i_e, b2i_1, Classical.not_not] at h62
            refine R_aload rfl rfl rfl ?_
            refine T_getr (v := 101) rfl rfl rfl rfl ?_
            refine R_aload rfl rfl rfl ?_
            refine T_getr (v := 100) rfl rfl rfl rfl ?_
            refine R_iload rfl rfl ?_
            refine T_ald rfl rfl (by omega) (by omega) ?_
            rw [e84]
            refine T_ald rfl rfl (by omega) (by omega) ?_
            refine R_goto rfl ?_
            exact J90 _ (by
              unfold pln
              first
              | rw [if_neg (by omega), if_neg (by omega)]
              | (rw [if_neg (by omega), if_pos (by omega)]; exact hF.row 85 rfl _)
              | (rw [if_pos (by omega)]; exact hF.row 86 rfl _))
        · try simp only [ne_eq, b2i_e, b2i_1, Classical.not_not] at h47
          refine R_aload rfl rfl rfl ?_
          refine T_getr (v := 100) rfl rfl rfl rfl ?_
          refine R_iload rfl rfl ?_
          refine T_ald rfl rfl (by omega) (by omega) ?_
          rw [e84]
          refine R_goto rfl ?_
          exact J90 _ (by
            unfold pln
            first
            | rw [if_neg (by omega), if_neg (by omega)]
            | (rw [if_neg (by omega), if_pos (by omega)]; exact hF.row 85 rfl _)
            | (rw [if_pos (by omega)]; exact hF.row 86 rfl _))
      refine R_iload rfl rfl ?_
      refine R_push rfl ?_
      refine R_ic rfl (fun h24 => ?_) (fun h24 => ?_)
      · try simp only [ne_eq, b2i_e, b2i_1, Classical.not_not] at h24
        exact J39 (by omega)
      · try simp only [ne_eq, b2i_e, b2i_1, Classical.not_not] at h24
        refine R_iload rfl rfl ?_
        refine R_push rfl ?_
        refine R_ic rfl (fun h30 => ?_) (fun h30 => ?_)
        · try simp only [ne_eq, b2i_e, b2i_1, Classical.not_not] at h30
          exact J39 (by omega)
        · try simp only [ne_eq, b2i_e, b2i_1, Classical.not_not] at h30
          refine R_iload rfl rfl ?_
          refine R_push rfl ?_
          refine R_ic rfl (fun h36 => ?_) (fun h36 => ?_)
          · try simp only [ne_eq, b2i_e, b2i_1, Classical.not_not] at h36
            refine R_iload rfl rfl ?_
            refine R_push rfl ?_
            refine R_ic rfl (fun h100 => ?_) (fun h100 => ?_)
            · try simp only [ne_eq, b2i_e, b2i_1, Classical.not_not] at h100
              refine R_inc rfl rfl (by omega) (by omega) ?_
              rw [show hgt K m + -1 = hgt K m - 1 by omega]
              refine R_aload rfl rfl rfl ?_
              refine T_getr (v := 103) rfl rfl rfl rfl ?_
              refine R_iload rfl rfl ?_
              refine R_push rfl ?_
              refine R_sub rfl (by omega) (by omega) ?_
              rw [show hgt K m - 1 - 1 = hgt K m - 2 by omega]
              refine R_iload rfl rfl ?_
              refine R_aload rfl rfl rfl ?_
              refine T_getr (v := 103) rfl rfl rfl rfl ?_
              refine R_iload rfl rfl ?_
              refine R_push rfl ?_
              refine R_sub rfl (by omega) (by omega) ?_
              rw [show hgt K m - 1 - 1 = hgt K m - 2 by omega]
              refine T_ald rfl rfl (by omega) (by omega) ?_
              refine R_aload rfl rfl rfl ?_
              refine T_getr (v := 103) rfl rfl rfl rfl ?_
              refine R_iload rfl rfl ?_
              refine T_ald rfl rfl (by omega) (by omega) ?_
              refine R_inv rfl rfl rfl rfl rfl (sp_X10_both d (by omega) _ (K m) _ _ (by unfold isBin; omega)) rfl ?_
              show pCm _ _ _ 159 _ [(0, _), (0, _), (103, 0)] _
              refine T_iast rfl rfl (by omega) (by omega) ?_
              generalize hs4 : up2 s1 87 (hgt K m - 2) (bino (K m) (s1 87 (hgt K m - 2)) (s1 87 (hgt K m - 1))) = s4
              have hga : hgt K (m + 1) = hgt K m - 1 := by rw [hgs]; rw [if_neg (by omega), if_neg (by omega)]
              refine R_inc rfl rfl (by omega) (by omega) ?_
              refine R_goto rfl ?_
              refine fgt wc_X10_worth [1, 1, 1, 1, 0] ?_
              rw [Int.add_assoc, ← hga]
              refine ih (m + 1, s4) ⟨by dsimp only; omega, by rw [← hs4]; exact hF.upr rfl, ?_⟩ (by dsimp only; omega)
              dsimp only
              rw [hs, ← hs4, up_row, ← hh]
              exact AG_bin hA (by unfold isBin; omega) (by omega)
            · try simp only [ne_eq, b2i_e, b2i_1, Classical.not_not] at h100
              refine R_aload rfl rfl rfl ?_
              refine T_getr (v := 103) rfl rfl rfl rfl ?_
              refine R_iload rfl rfl ?_
              refine R_push rfl ?_
              refine R_sub rfl (by omega) (by omega) ?_
              refine R_aload rfl rfl rfl ?_
              refine T_getr (v := 103) rfl rfl rfl rfl ?_
              refine R_iload rfl rfl ?_
              refine R_push rfl ?_
              refine R_sub rfl (by omega) (by omega) ?_
              have J126 : ∀ v : Int, v = nt (s1 87 (hgt K m - 1)) → pCm (Ev d) k_X10_worth E 126 [(87, 0), (0, a), (0, hgt K m), (0, a + m), (0, opOf (K m))] [(0, v), (0, hgt K m - 1), (103, 0)] (Wd xs t dd rr s1) := by
                intro v hv
                rw [hv]
                refine T_iast rfl rfl (by omega) (by omega) ?_
                refine R_goto rfl ?_
                generalize hs4 : up2 s1 87 (hgt K m - 1) (nt (s1 87 (hgt K m - 1))) = s4
                have hga : hgt K (m + 1) = hgt K m := by rw [hgs]; rw [if_pos (by omega)]
                refine R_inc rfl rfl (by omega) (by omega) ?_
                refine R_goto rfl ?_
                refine fgt wc_X10_worth [1, 1, 1, 1, 0] ?_
                rw [Int.add_assoc, ← hga]
                refine ih (m + 1, s4) ⟨by dsimp only; omega, by rw [← hs4]; exact hF.upr rfl, ?_⟩ (by dsimp only; omega)
                dsimp only
                rw [hs, ← hs4, up_row, ← hh]
                exact AG_not hA (by omega) (by omega)
              refine T_ald rfl rfl (by omega) (by omega) ?_
              refine R_if rfl (fun h118 => ?_) (fun h118 => ?_)
              · try simp only [ne_eq, b2i_e, b2i_1, Classical.not_not] at h118
                refine R_push rfl ?_
                exact J126 _ (by unfold nt; split <;> omega)
              · try simp only [ne_eq, b2i_e, b2i_1, Classical.not_not] at h118
                refine R_push rfl ?_
                refine R_goto rfl ?_
                exact J126 _ (by unfold nt; split <;> omega)
          · try simp only [ne_eq, b2i_e, b2i_1, Classical.not_not] at h36
            exact J39 (by omega)
  · exact ⟨by dsimp only; omega, Fr.rf, fun j j0 j1 => by have : j < 0 := j1; omega⟩

set_option maxRecDepth 20000 in
set_option maxHeartbeats 2000000 in
theorem sp_X2_isLeftAlone (d : Nat) (hd : 6 ≤ d) (xs : List (Nat × Nat)) (t dd rr : Nat) (σ : Sg) (p P f : Int) (hP : σ 1 0 = P) (h0 : 0 ≤ P ∧ P ≤ 40) (hX : XB (σ 4) (σ 5) (σ 3) P) (hp : 0 ≤ p ∧ p < P) (hH : σ 64 10 = σ 29 p → σ 64 11 = 1 → SC σ (seatOut (costZ (σ 29) (σ 4) (σ 5) (σ 3) (σ 29 p) P) 1 100 (-1, 0, 0))) (hf : σ 64 2 = f) (hf0 : 0 ≤ f ∧ f ≤ 20) (hFB : FB (σ 65) (σ 66) (σ 67) f) : ∃ σ', Ev d 173 [(80, 0), (0, p)] (Wd xs t dd rr σ) (0, b2i (dst (σ 4 p) (went (σ 65) (σ 66) (σ 67) (σ 3 p) f (100 * ((seatOut (costZ (σ 29) (σ 4) (σ 5) (σ 3) (σ 29 p) P) 1 100 (-1, 0, 0)).2.1 % 10) + 50, 100 * ((seatOut (costZ (σ 29) (σ 4) (σ 5) (σ 3) (σ 29 p) P) 1 100 (-1, 0, 0)).2.1 / 10) + 50)).1 ≤ 10 + 400 / σ 3 p ∧ dst (σ 5 p) (went (σ 65) (σ 66) (σ 67) (σ 3 p) f (100 * ((seatOut (costZ (σ 29) (σ 4) (σ 5) (σ 3) (σ 29 p) P) 1 100 (-1, 0, 0)).2.1 % 10) + 50, 100 * ((seatOut (costZ (σ 29) (σ 4) (σ 5) (σ 3) (σ 29 p) P) 1 100 (-1, 0, 0)).2.1 / 10) + 50)).2 ≤ 10 + 400 / σ 3 p)) (Wd xs t dd rr σ') ∧ Fr [68, 69, 70] [(64, 9), (64, 10), (64, 11), (64, 12), (64, 13), (64, 14), (64, 15), (64, 16)] σ σ' ∧ (σ' 64 10 = σ 29 p ∧ σ' 64 11 = 1) ∧ SC σ' (seatOut (costZ (σ 29) (σ 4) (σ 5) (σ 3) (σ 29 p) P) 1 100 (-1, 0, 0)) ∧ (σ' 64 15, σ' 64 16) = went (σ 65) (σ 66) (σ 67) (σ 3 p) f (100 * ((seatOut (costZ (σ 29) (σ 4) (σ 5) (σ 3) (σ 29 p) P) 1 100 (-1, 0, 0)).2.1 % 10) + 50, 100 * ((seatOut (costZ (σ 29) (σ 4) (σ 5) (σ 3) (σ 29 p) P) 1 100 (-1, 0, 0)).2.1 / 10) + 50) := by
  obtain ⟨d, rfl⟩ : ∃ e, d = e + 1 := ⟨d - 1, by omega⟩
  have hX3 := (hX p hp.1 hp.2).2.2
  have hX1 := hX p hp.1 hp.2
  have hSB := SB_out (K := (costZ (σ 29) (σ 4) (σ 5) (σ 3) (σ 29 p) P)) (n := 1) (s := (-1, 0, 0)) (fun a b a0 a1 b0 b1 => by
    have := costZ_bd (L := σ 29) (c := σ 29 p) hX (k := P) ⟨h0.1, Int.le_refl _⟩ ⟨a0, a1⟩ ⟨b0, b1⟩
    omega) ⟨by dsimp only; omega, by dsimp only; omega, by dsimp only; omega⟩ 100 (by omega)
  rw [show ((100 : Nat) : Int) = 100 from rfl] at hSB
  have hAb := hSB.1.2.1
  have wb := went_bd (s := (100 * ((seatOut (costZ (σ 29) (σ 4) (σ 5) (σ 3) (σ 29 p) P) 1 100 (-1, 0, 0)).2.1 % 10) + 50, 100 * ((seatOut (costZ (σ 29) (σ 4) (σ 5) (σ 3) (σ 29 p) P) 1 100 (-1, 0, 0)).2.1 / 10) + 50)) hFB hX3 ⟨by dsimp only; omega, by dsimp only; omega⟩ f.toNat (by omega)
  rw [Int.toNat_of_nonneg hf0.1] at wb
  refine evS (nL := 3) (code := k_X2_isLeftAlone) rfl dc_X2_isLeftAlone rfl (fun E hE => ?_)
  show pCm (Ev d) k_X2_isLeftAlone E 0 [(80, 0), (0, p), (9, 0)] [] _
  refine R_aload rfl rfl rfl ?_
  refine R_iload rfl rfl ?_
  obtain ⟨s1, hev, hF, hc, hS, hw⟩ := sp_X2_walk d (by omega) xs t dd rr σ p P f hP h0 hX hp hH hf hf0 hFB
  have g4 := hF.at 4 p rfl
  have g5 := hF.at 5 p rfl
  have g3 := hF.at 3 p rfl
  rw [← hw] at wb
  dsimp only at wb
  refine R_invv rfl rfl rfl rfl rfl rfl (hev) rfl ?_
  show pCm _ _ _ 5 _ [] _
  refine R_aload rfl rfl rfl ?_
  refine T_getr (v := 17) rfl rfl rfl rfl ?_
  refine R_iload rfl rfl ?_
  refine R_invv rfl rfl rfl rfl rfl rfl (sp_X6_loose d (by omega) xs t dd rr s1 p ⟨by omega, by omega⟩ (by rw [g3]; exact hX3)) rfl ?_
  show pCm _ _ _ 13 _ [(0, _)] _
  rw [g3]
  refine R_istore rfl rfl ?_
  refine R_aload rfl rfl rfl ?_
  refine T_getr (v := 17) rfl rfl rfl rfl ?_
  refine T_getr (v := 20) rfl rfl rfl rfl ?_
  refine R_iload rfl rfl ?_
  refine T_ald rfl rfl (by omega) (by omega) ?_
  rw [g4]
  refine R_aload rfl rfl rfl ?_
  refine T_geti rfl rfl rfl ?_
  refine R_inv rfl rfl rfl rfl rfl (sp_X9_apart d (by omega) _ _ _ ⟨by omega, by omega⟩ ⟨by omega, by omega⟩) rfl ?_
  show pCm _ _ _ 30 _ [(0, _)] _
  show pCm _ _ _ _ _ ((0, dst _ _) :: _) _
  refine R_iload rfl rfl ?_
  refine R_ic rfl (fun h31 => ?_) (fun h31 => ?_)
  · try simp only [ne_eq, b2i_e, b2i_1, Classical.not_not] at h31
    refine R_push rfl ?_
    refine R_zret rfl (by first | exact Or.inl rfl | exact Or.inr rfl | omega | grind) ?_
    refine hE _ _ ?_ ⟨hF, hc, hS, hw⟩
    rw [← hw]
    congr 1
    dsimp only
    first
    | rw [b2i_t (by omega)]
    | rw [b2i_f (by omega)]
  · try simp only [ne_eq, b2i_e, b2i_1, Classical.not_not] at h31
    refine R_aload rfl rfl rfl ?_
    refine T_getr (v := 17) rfl rfl rfl rfl ?_
    refine T_getr (v := 21) rfl rfl rfl rfl ?_
    refine R_iload rfl rfl ?_
    refine T_ald rfl rfl (by omega) (by omega) ?_
    rw [g5]
    refine R_aload rfl rfl rfl ?_
    refine T_geti rfl rfl rfl ?_
    refine R_inv rfl rfl rfl rfl rfl (sp_X9_apart d (by omega) _ _ _ ⟨by omega, by omega⟩ ⟨by omega, by omega⟩) rfl ?_
    show pCm _ _ _ 50 _ [(0, _)] _
    show pCm _ _ _ _ _ ((0, dst _ _) :: _) _
    refine R_iload rfl rfl ?_
    refine R_ic rfl (fun h51 => ?_) (fun h51 => ?_)
    · try simp only [ne_eq, b2i_e, b2i_1, Classical.not_not] at h51
      refine R_push rfl ?_
      refine R_zret rfl (by first | exact Or.inl rfl | exact Or.inr rfl | omega | grind) ?_
      refine hE _ _ ?_ ⟨hF, hc, hS, hw⟩
      rw [← hw]
      congr 1
      dsimp only
      first
      | rw [b2i_t (by omega)]
      | rw [b2i_f (by omega)]
    · try simp only [ne_eq, b2i_e, b2i_1, Classical.not_not] at h51
      refine R_push rfl ?_
      refine R_goto rfl ?_
      refine R_zret rfl (by first | exact Or.inl rfl | exact Or.inr rfl | omega | grind) ?_
      refine hE _ _ ?_ ⟨hF, hc, hS, hw⟩
      rw [← hw]
      congr 1
      dsimp only
      first
      | rw [b2i_t (by omega)]
      | rw [b2i_f (by omega)]
theorem costZ_L {L L' X Y S : Int → Int} {c P a b : Int} (h : ∀ p, 0 ≤ p → p < P → L p = L' p) : costZ L X Y S c P a b = costZ L' X Y S c P a b := sumZ_congr (fun i i0 i1 => by rw [h i i0 i1])
theorem seatIn_K {K K' : Int → Int → Int} {a lo m : Int} {s : SS} (h : ∀ t, 0 ≤ t → t < m → K a (lo + t) = K' a (lo + t)) : seatIn K a lo m s = seatIn K' a lo m s := foldZ_congr (fun i i0 i1 x => by unfold sst; rw [h i i0 i1])
theorem seatOut_K {K K' : Int → Int → Int} {n m : Int} {s : SS} (h : ∀ a b, K a b = K' a b) : seatOut K n m s = seatOut K' n m s := by
  have e : K = K' := by funext a b; exact h a b
  rw [e]
set_option maxRecDepth 20000 in
set_option maxHeartbeats 2000000 in
theorem sp_X10_goes (d : Nat) (hd : 5 ≤ d) (xs : List (Nat × Nat)) (t dd rr : Nat) (σ : Sg) (p f : Int) (P J : Int) (hM : MB σ P J) (hX : XB (σ 90) (σ 91) (σ 89) P) (hp : 0 ≤ p ∧ p < P) (hf : σ 71 65 = f) (hf0 : 0 ≤ f ∧ f ≤ 20) (hFB : FB (σ 119) (σ 120) (σ 121) f) : ∃ σ', Ev d 119 [(87, 0), (0, p)] (Wd xs t dd rr σ) (8, 0) (Wd xs t dd rr σ') ∧ Fr [107, 111, 112] [(71, 62), (71, 63), (71, 64), (71, 69), (71, 70)] σ σ' ∧ (∀ p, 0 ≤ p → p < P → σ' 111 p = cobM σ P J p ∧ σ' 112 p = whoM σ P J p) ∧ (σ' 71 69, σ' 71 70) = went (σ 119) (σ 120) (σ 121) (σ 89 p) f (100 * ((seatOut (costZ (cobM σ P J) (σ 90) (σ 91) (σ 89) (cobM σ P J p) P) 1 100 (-1, 0, 0)).2.1 % 10) + 50, 100 * ((seatOut (costZ (cobM σ P J) (σ 90) (σ 91) (σ 89) (cobM σ P J p) P) 1 100 (-1, 0, 0)).2.1 / 10) + 50) := by
  obtain ⟨d, rfl⟩ : ∃ e, d = e + 1 := ⟨d - 1, by omega⟩
  have hM0 := hM
  obtain ⟨h26, h43, hP0, hJ0, hAB⟩ := hM
  have hPJ : 0 ≤ P ∧ P ≤ 40 ∧ 0 ≤ J ∧ J ≤ 80 := ⟨hP0.1, hP0.2, hJ0.1, hJ0.2⟩
  clear hP0 hJ0
  have hX3 := (hX p hp.1 hp.2).2.2
  refine evS (nL := 4) (code := k_X10_goes) rfl dc_X10_goes rfl (fun E hE => ?_)
  show pCm (Ev d) k_X10_goes E 0 [(87, 0), (0, p), (9, 0), (9, 0)] [] _
  refine R_aload rfl rfl rfl ?_
  obtain ⟨s1, hev1, hF1, hc1⟩ := sp_X10_findHeaps d (by omega) xs t dd rr σ P J hM0
  have hcp := (hc1 p hp.1 hp.2).1
  refine R_invv rfl rfl rfl rfl rfl rfl (hev1) rfl ?_
  show pCm _ _ _ 4 _ [] _
  refine R_aload rfl rfl rfl ?_
  refine R_aload rfl rfl rfl ?_
  refine T_getr (v := 127) rfl rfl rfl rfl ?_
  refine R_iload rfl rfl ?_
  refine T_ald rfl rfl (by omega) (by omega) ?_
  rw [hcp]
  refine R_push rfl ?_
  obtain ⟨s2, hev2, hF2, hS2⟩ := sp_X10_findSeats d (by omega) xs t dd rr s1 (cobM σ P J p) 1 P (by rw [hF1.row 71 rfl]; exact h26) ⟨hPJ.1, hPJ.2.1⟩ (by rw [hF1.fn 90 rfl, hF1.fn 91 rfl, hF1.fn 89 rfl]; exact hX) (Or.inl rfl)
  rw [hF1.fn 90 rfl, hF1.fn 91 rfl, hF1.fn 89 rfl, seatOut_K (fun a b => costZ_L (fun q q0 q1 => (hc1 q q0 q1).1))] at hS2
  have hSB := SB_out (K := (costZ (cobM σ P J) (σ 90) (σ 91) (σ 89) (cobM σ P J p) P)) (n := 1) (s := (-1, 0, 0)) (fun a b a0 a1 b0 b1 => by
    have := costZ_bd (L := cobM σ P J) (c := cobM σ P J p) hX (k := P) ⟨hPJ.1, Int.le_refl _⟩ ⟨a0, a1⟩ ⟨b0, b1⟩
    omega) ⟨by dsimp only; omega, by dsimp only; omega, by dsimp only; omega⟩ 100 (by omega)
  rw [show ((100 : Nat) : Int) = 100 from rfl] at hSB
  have hA13 : s2 71 63 = (seatOut (costZ (cobM σ P J) (σ 90) (σ 91) (σ 89) (cobM σ P J p) P) 1 100 (-1, 0, 0)).2.1 := (hS2.2 (hSB.2 (by omega))).1
  have hAb := hSB.1.2.1
  refine R_invv rfl rfl rfl rfl rfl rfl (hev2) rfl ?_
  show pCm _ _ _ 15 _ [] _
  refine R_aload rfl rfl rfl ?_
  refine R_push rfl ?_
  refine R_aload rfl rfl rfl ?_
  refine T_geti rfl rfl rfl ?_
  rw [hA13]
  refine R_push rfl ?_
  refine R_rm rfl (by omega) (by omega) (by omega) ?_
  refine R_mul rfl (by omega) (by omega) ?_
  refine R_push rfl ?_
  refine R_add rfl (by omega) (by omega) ?_
  refine T_puti rfl rfl rfl ?_
  refine R_aload rfl rfl rfl ?_
  refine R_push rfl ?_
  refine R_aload rfl rfl rfl ?_
  refine T_geti rfl rfl rfl ?_
  rw [up_k2 (by decide), hA13]
  refine R_push rfl ?_
  refine R_dv rfl (by omega) (by omega) (by omega) ?_
  refine R_mul rfl (by omega) (by omega) ?_
  refine R_push rfl ?_
  refine R_add rfl (by omega) (by omega) ?_
  refine T_puti rfl rfl rfl ?_
  refine R_push rfl ?_
  refine R_istore rfl rfl ?_
  generalize hA : (seatOut (costZ (cobM σ P J) (σ 90) (σ 91) (σ 89) (cobM σ P J p) P) 1 100 (-1, 0, 0)).2.1 = A at *
  generalize hs3 : up2 (up2 s2 71 69 _) 71 70 _ = s3
  have hF3 : Fr [] [(71, 69), (71, 70)] s2 s3 := by rw [← hs3]; exact (Fr.rf.up rfl).up rfl
  have hFm : Fr [107, 111, 112] [(71, 62), (71, 63), (71, 64), (71, 69), (71, 70)] σ s3 := (hF1.tr (r3 := [107, 111, 112]) (s3 := [(71, 62), (71, 63), (71, 64), (71, 69), (71, 70)]) hF2 rfl rfl).tr hF3 rfl rfl
  have hw3 : (s3 71 69, s3 71 70) = (100 * (A % 10) + 50, 100 * (A / 10) + 50) := by rw [← hs3]; simp [up2]
  clear hs3
  refine fgt wc_X10_goes [1, 1, 1, 0] ?_
  refine loop (pc := 51) (α := Int × Sg) (fun x => (f - x.1).toNat) (fun x => ([(87, 0), (0, p), (0, x.1), (9, 0)], Wd xs t dd rr x.2)) (fun x => (0 ≤ x.1 ∧ x.1 ≤ f) ∧ Fr [] [(71, 69), (71, 70)] s3 x.2 ∧ (x.2 71 69, x.2 71 70) = went (σ 119) (σ 120) (σ 121) (σ 89 p) x.1 (100 * (A % 10) + 50, 100 * (A / 10) + 50)) ?_ (0, s3) ?_
  · intro ⟨k, s4⟩ ⟨hk, hF4, hw⟩ ih
    dsimp only at hk hF4 hw ⊢
    have hFk := hFm.tr (r3 := [107, 111, 112]) (s3 := [(71, 62), (71, 63), (71, 64), (71, 69), (71, 70)]) hF4 rfl rfl
    have g2 := hFk.at 71 65 rfl
    have g65 := hFk.at 119 k rfl
    have g66 := hFk.at 120 k rfl
    have g67 := hFk.at 121 k rfl
    have g3 := hFk.at 89 p rfl
    have wb := went_bd (s := (100 * (A % 10) + 50, 100 * (A / 10) + 50)) hFB hX3 ⟨by dsimp only; omega, by dsimp only; omega⟩ k.toNat (by omega)
    rw [Int.toNat_of_nonneg hk.1, ← hw] at wb
    dsimp only at wb
    have ws := went_s (FX := σ 119) (FY := σ 120) (ST := σ 121) (z := σ 89 p) (s := (100 * (A % 10) + 50, 100 * (A / 10) + 50)) hk.1
    rw [← hw] at ws
    have hfb := hFB k hk.1
    refine R_iload rfl rfl ?_
    refine R_aload rfl rfl rfl ?_
    refine T_geti rfl rfl rfl ?_
    refine R_ic rfl (fun h56 => ?_) (fun h56 => ?_)
    · try simp only [ne_eq, b2i_e, b2i_1, Classical.not_not] at h56
      refine R_vret rfl ?_
      have hFz := (hF2.tr (r3 := []) (s3 := [(71, 62), (71, 63), (71, 64), (71, 69), (71, 70)]) hF3 rfl rfl).tr (r3 := []) (s3 := [(71, 62), (71, 63), (71, 64), (71, 69), (71, 70)]) hF4 rfl rfl
      exact hE _ _ rfl ⟨hFk, fun q q0 q1 => by rw [hFz.row 111 rfl, hFz.row 112 rfl]; exact hc1 q q0 q1, by rw [hw]; congr 1; omega⟩
    · try simp only [ne_eq, b2i_e, b2i_1, Classical.not_not] at h56
      refine R_aload rfl rfl rfl ?_
      refine T_geti rfl rfl rfl ?_
      refine R_aload rfl rfl rfl ?_
      refine T_getr (v := 135) rfl rfl rfl rfl ?_
      refine R_iload rfl rfl ?_
      refine T_ald rfl rfl (by omega) (by omega) ?_
      have hfb := hfb (by omega)
      have hsb := str_bd hfb.2.2 hX3
      rw [g65]
      refine R_inv rfl rfl rfl rfl rfl (sp_X10_far d (by omega) _ _ _ ⟨by omega, by omega⟩ ⟨by omega, by omega⟩) rfl ?_
      show pCm _ _ _ 72 _ [(0, _)] _
      show pCm _ _ _ _ _ ((0, dst _ _) :: _) _
      refine R_push rfl ?_
      refine R_ic rfl (fun h74 => ?_) (fun h74 => ?_)
      · try simp only [ne_eq, b2i_e, b2i_1, Classical.not_not] at h74
        refine R_inc rfl rfl (by omega) (by omega) ?_
        refine R_goto rfl ?_
        refine fgt wc_X10_goes [1, 1, 1, 0] ?_
        exact ih (k + 1, s4) ⟨by dsimp only; omega, hF4, by
          dsimp only
          rw [ws]
          unfold wst
          rw [if_neg]
          dsimp only
          intro z
          first | exact h74 z.1 | exact h92 z.2 | omega⟩ (by dsimp only; omega)
      · try simp only [ne_eq, b2i_e, b2i_1, Classical.not_not] at h74
        refine R_aload rfl rfl rfl ?_
        refine T_geti rfl rfl rfl ?_
        refine R_aload rfl rfl rfl ?_
        refine T_getr (v := 136) rfl rfl rfl rfl ?_
        refine R_iload rfl rfl ?_
        refine T_ald rfl rfl (by omega) (by omega) ?_
        rw [g66]
        refine R_inv rfl rfl rfl rfl rfl (sp_X10_far d (by omega) _ _ _ ⟨by omega, by omega⟩ ⟨by omega, by omega⟩) rfl ?_
        show pCm _ _ _ 90 _ [(0, _)] _
        show pCm _ _ _ _ _ ((0, dst _ _) :: _) _
        refine R_push rfl ?_
        refine R_ic rfl (fun h92 => ?_) (fun h92 => ?_)
        · try simp only [ne_eq, b2i_e, b2i_1, Classical.not_not] at h92
          refine R_inc rfl rfl (by omega) (by omega) ?_
          refine R_goto rfl ?_
          refine fgt wc_X10_goes [1, 1, 1, 0] ?_
          exact ih (k + 1, s4) ⟨by dsimp only; omega, hF4, by
            dsimp only
            rw [ws]
            unfold wst
            rw [if_neg]
            dsimp only
            intro z
            first | exact h74 z.1 | exact h92 z.2 | omega⟩ (by dsimp only; omega)
        · try simp only [ne_eq, b2i_e, b2i_1, Classical.not_not] at h92
          refine R_aload rfl rfl rfl ?_
          refine T_getr (v := 137) rfl rfl rfl rfl ?_
          refine R_iload rfl rfl ?_
          refine T_ald rfl rfl (by omega) (by omega) ?_
          rw [g67]
          refine R_push rfl ?_
          refine R_mul rfl (by omega) (by omega) ?_
          refine R_aload rfl rfl rfl ?_
          refine T_getr (v := 105) rfl rfl rfl rfl ?_
          refine R_iload rfl rfl ?_
          refine T_ald rfl rfl (by omega) (by omega) ?_
          rw [g3]
          refine R_dv rfl (by omega) (by omega) (by omega) ?_
          refine R_istore rfl rfl ?_
          refine R_aload rfl rfl rfl ?_
          refine R_aload rfl rfl rfl ?_
          refine T_geti rfl rfl rfl ?_
          refine R_aload rfl rfl rfl ?_
          refine T_getr (v := 135) rfl rfl rfl rfl ?_
          refine R_iload rfl rfl ?_
          refine T_ald rfl rfl (by omega) (by omega) ?_
          rw [g65]
          refine R_iload rfl rfl ?_
          refine R_inv rfl rfl rfl rfl rfl (sp_X10_pushed d (by omega) _ _ _ _ ⟨by omega, by omega⟩ ⟨by omega, by omega⟩) rfl ?_
          show pCm _ _ _ 127 _ [(0, _), (87, 0)] _
          show pCm _ _ _ _ _ ((0, psh _ _ _) :: _) _
          refine T_puti rfl rfl rfl ?_
          generalize hs5 : up2 s4 71 69 _ = s5
          have f16 : s5 71 70 = s4 71 70 := by rw [← hs5]; simp [up2]
          have f66 : s5 120 k = σ 120 k := by rw [← hs5, up_k (by decide)]; exact g66
          refine R_aload rfl rfl rfl ?_
          refine R_aload rfl rfl rfl ?_
          refine T_geti rfl rfl rfl ?_
          rw [f16]
          refine R_aload rfl rfl rfl ?_
          refine T_getr (v := 136) rfl rfl rfl rfl ?_
          refine R_iload rfl rfl ?_
          refine T_ald rfl rfl (by omega) (by omega) ?_
          rw [f66]
          refine R_iload rfl rfl ?_
          refine R_inv rfl rfl rfl rfl rfl (sp_X10_pushed d (by omega) _ _ _ _ ⟨by omega, by omega⟩ ⟨by omega, by omega⟩) rfl ?_
          show pCm _ _ _ 145 _ [(0, _), (87, 0)] _
          show pCm _ _ _ _ _ ((0, psh _ _ _) :: _) _
          refine T_puti rfl rfl rfl ?_
          generalize hs6 : up2 s5 71 70 _ = s6
          refine R_inc rfl rfl (by omega) (by omega) ?_
          refine R_goto rfl ?_
          refine fgt wc_X10_goes [1, 1, 1, 0] ?_
          exact ih (k + 1, s6) ⟨by dsimp only; omega, by rw [← hs6, ← hs5]; exact (hF4.up rfl).up rfl, by
            dsimp only
            rw [ws]
            unfold wst
            rw [if_pos ⟨by dsimp only; omega, by dsimp only; omega⟩, ← hs6, ← hs5]
            simp [up2]⟩ (by dsimp only; omega)
  · exact ⟨by dsimp only; omega, Fr.rf, hw3⟩

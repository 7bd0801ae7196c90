set_option maxRecDepth 20000 in
set_option maxHeartbeats 2000000 in
theorem sp_X0_tellSure (d : Nat) (hd : 4 ≤ d) (xs : List (Nat × Nat)) (t dd rr : Nat) (σ s : Sg) (c : Int) (P J : Int) (hH : BH σ P J) (hFb0 : Fb σ s) (hR0 : RG s σ P J c) : ∃ σ', Ev d 143 [(73, 0), (0, c)] (Wd xs t dd rr s) (8, 0) (Wd xs t dd rr σ') ∧ Fr [59] [] s σ' ∧ ∀ k, 0 ≤ k → k < (gtS σ P J c (8 * P)).1 → σ' 59 k = sur (gtS σ P J c (8 * P)).2 (gtS σ P J c (8 * P)).1 P (hsS σ) (σ 14) (σ 29) (σ 30) (mtS σ J) k := by
  obtain ⟨d, rfl⟩ : ∃ e, d = e + 1 := ⟨d - 1, by omega⟩
  obtain ⟨⟨hP, hJ, h0, hJ0, hJB⟩, hHH, h32, h17, hcut⟩ := id hH
  have hTb := hR0.2.1
  refine evS (nL := 6) (code := k_X0_tellSure) rfl dc_X0_tellSure rfl (fun E hE => ?_)
  show pCm (Ev d) k_X0_tellSure E 0 [(73, 0), (0, c), (9, 0), (9, 0), (9, 0), (9, 0)] [] _
  refine R_push rfl ?_
  refine R_istore rfl rfl ?_
  refine fgt wc_X0_tellSure [1, 1, 1, 0, 0, 0] ?_
  refine loop (pc := 2) (α := Int × Sg) (fun x => (12 - x.1).toNat) (fun x => ([(73, 0), (0, c), (0, x.1), (9, 0), (9, 0), (9, 0)], Wd xs t dd rr x.2)) (fun x => (0 ≤ x.1 ∧ x.1 ≤ 12) ∧ Fr [59] [] s x.2 ∧ ∀ i, 0 ≤ i → i < x.1 → x.2 59 i = 0) ?_ (0, s) ?_
  · intro ⟨k, s0⟩ ⟨hk, F0, hv⟩ ih
    dsimp only at hk F0 hv ⊢
    refine R_iload rfl rfl ?_
    refine R_push rfl ?_
    refine R_ic rfl (fun h5 => ?_) (fun h5 => ?_)
    · try simp only [ne_eq, b2i_e, b2i_1, Classical.not_not] at h5
      refine R_aload rfl rfl rfl ?_
      refine R_iload rfl rfl ?_
      have hps := sp_X0_placesStruck d (by omega) xs t dd rr σ s0 c P J hH (hFb0.tr F0 rfl rfl) (RT_fr hR0 (F0.row 57 rfl 5) (F0.fn 58 rfl))
      refine R_invv rfl rfl rfl rfl rfl rfl (hps) rfl ?_
      show pCm _ _ _ 26 _ [(0, _)] _
      refine R_istore rfl rfl ?_
      refine R_push rfl ?_
      refine R_istore rfl rfl ?_
      refine fgt wc_X0_tellSure [1, 1, 1, 1, 0, 0] ?_
      refine loop (pc := 29) (α := Int × Sg) (fun x => (8 * P - x.1).toNat) (fun x => ([(73, 0), (0, c), (0, (pstk (gtS σ P J c (8 * P)).2 (gtS σ P J c (8 * P)).1 c (hsS σ) (σ 14) (σ 29) (σ 30) (mtS σ J) (8 * P))), (0, x.1), (9, 0), (9, 0)], Wd xs t dd rr x.2)) (fun x => (0 ≤ x.1 ∧ x.1 ≤ 8 * P) ∧ Fr [59] [] s x.2 ∧ ∀ q, 0 ≤ q → q < 12 → x.2 59 q = if q < (gtS σ P J c (8 * P)).1 ∧ bx (pstk (gtS σ P J c (8 * P)).2 (gtS σ P J c (8 * P)).1 c (hsS σ) (σ 14) (σ 29) (σ 30) (mtS σ J) (8 * P)) q = 1 then srf (gtS σ P J c (8 * P)).2 (gtS σ P J c (8 * P)).1 P (hsS σ) (σ 14) (σ 29) (σ 30) (mtS σ J) q x.1 else 0) ?_ (0, s0) ?_
      · clear ih
        intro ⟨k, s1⟩ ⟨⟨hk0, hk1⟩, hF, hI⟩ ih
        dsimp only at hk0 hk1 hF hI ⊢
        have hFb : Fb σ s1 := hFb0.tr hF rfl rfl
        have hR : RG s1 σ P J c := RT_fr hR0 (hF.row 57 rfl 5) (hF.fn 58 rfl)
        have e1 := hFb.row 1 rfl 0
        have e14 := hFb.row 14 rfl k
        have hsf : ∀ q, 0 ≤ q → q < (gtS σ P J c (8 * P)).1 → k < 8 * P → _ := fun q q0 q1 w1 => srf_st (R := (gtS σ P J c (8 * P)).2) (T := (gtS σ P J c (8 * P)).1) (P := P) (c := c) (hs := hsS σ) (so := σ 14) (co := σ 29) (who := σ 30) (mt := mtS σ J) hR.2.1.1 hR.2.2.2.1 hR.2.2.2.2 ⟨q0, q1⟩ hk0 (RG_co hH q0 q1 (by omega) (by omega)) (fun a b e => (RG_in hH hk0 w1 a b e).1)
        refine R_iload rfl rfl ?_
        refine R_aload rfl rfl rfl ?_
        refine T_getr (v := 17) rfl rfl rfl rfl ?_
        refine T_geti rfl rfl rfl ?_
        refine R_push rfl ?_
        refine R_mul rfl (by omega) (by omega) ?_
        refine R_ic rfl (fun h40 => ?_) (fun h40 => ?_)
        · try simp only [ne_eq, b2i_e, b2i_1, Classical.not_not] at h40
          refine R_vret rfl ?_
          refine hE _ _ rfl ⟨hF, fun q q0 q1 => ?_⟩
          have hIq := hI q q0 (by omega)
          have hpb := pstk_bx (c := c) (hs := hsS σ) (so := σ 14) (co := σ 29) (who := σ 30) (mt := mtS σ J) hTb hR.2.2.2.1 ⟨q0, q1⟩ (8 * P).toNat (fun f f0 f1 => RG_co hH q0 q1 (by omega) (by omega))
          rw [Int.toNat_of_nonneg (by omega)] at hpb
          rw [hIq]
          unfold sur
          by_cases y : bx (pstk (gtS σ P J c (8 * P)).2 (gtS σ P J c (8 * P)).1 c (hsS σ) (σ 14) (σ 29) (σ 30) (mtS σ J) (8 * P)) q = 1
          · have hs1 := hpb.mp y
            have hex := stk_ex (8 * P).toNat (by rw [Int.toNat_of_nonneg (by omega)]; exact hs1)
            obtain ⟨f, f0, f1, f2, f3⟩ := hex
            have := (hHH.2.1 (f / 8) (by omega) (by omega)).2.1
            rw [if_pos ⟨q1, y⟩, if_pos ⟨by omega, hs1⟩, show k = 8 * P by omega]
          · rw [if_neg (fun w => y w.2), if_neg (fun w => y (hpb.mpr w.2))]
        · try simp only [ne_eq, b2i_e, b2i_1, Classical.not_not] at h40
          refine R_aload rfl rfl rfl ?_
          refine R_iload rfl rfl ?_
          refine R_iload rfl rfl ?_
          have hfo := sp_X0_isFaceOf d (by omega) xs t dd rr s1 c P J (BH_fr hH hFb) k ⟨by omega, by omega⟩
          rw [hsS_fr (hFb.fn 13 rfl), hFb.row 29 rfl] at hfo
          refine R_invv rfl rfl rfl rfl rfl rfl (hfo) rfl ?_
          show pCm _ _ _ 49 _ [(0, _)] _
          refine R_if rfl (fun h49 => ?_) (fun h49 => ?_)
          · try simp only [ne_eq, b2i_e, b2i_1, Classical.not_not] at h49
            refine R_inc rfl rfl (by omega) (by omega) ?_
            refine R_goto rfl ?_
            refine fgt wc_X0_tellSure [1, 1, 1, 1, 0, 0] ?_
            first
            | (generalize hs3 : up2 s1 59 _ _ = s3
               refine ih (k + 1, s3) ⟨by dsimp only; omega, by rw [← hs3]; exact hF.upr rfl, fun q q0 q1 => ?_⟩ (by dsimp only; omega)
               dsimp only
               have hIq := hI q q0 q1
               rw [← hs3]
               by_cases z : q = idx (gtS σ P J c (8 * P)).2 (gtS σ P J c (8 * P)).1 (σ 30 (k / 8))
               · have hz := hsf q q0 (by omega) (by omega)
                 rw [if_pos ⟨by omega, by omega, by omega, by omega, by unfold blS at h105; exact h105, by unfold blS at h112; exact h112⟩] at hz
                 rw [if_pos ⟨by omega, by rw [z]; omega⟩, hz, ← z, up_s, hIq, if_pos ⟨by omega, by rw [z]; omega⟩]
                 rfl
               · rw [up_i z, hIq]
                 by_cases y : q < (gtS σ P J c (8 * P)).1 ∧ bx (pstk (gtS σ P J c (8 * P)).2 (gtS σ P J c (8 * P)).1 c (hsS σ) (σ 14) (σ 29) (σ 30) (mtS σ J) (8 * P)) q = 1
                 · rw [if_pos y, if_pos y, hsf q q0 y.1 (by omega), if_neg (fun w => z w.2.2.2.1.symm)]
                 · rw [if_neg y, if_neg y])
            | (refine ih (k + 1, s1) ⟨by dsimp only; omega, hF, fun q q0 q1 => ?_⟩ (by dsimp only; omega)
               dsimp only
               rw [hI q q0 q1]
               by_cases y : q < (gtS σ P J c (8 * P)).1 ∧ bx (pstk (gtS σ P J c (8 * P)).2 (gtS σ P J c (8 * P)).1 c (hsS σ) (σ 14) (σ 29) (σ 30) (mtS σ J) (8 * P)) q = 1
               · rw [if_pos y, if_pos y, hsf q q0 y.1 (by omega), if_neg (fun w => by
                   obtain ⟨y1, y2⟩ := y
                   obtain ⟨w1, w2, w3, w4, w5, w6⟩ := w
                   have w5 : idx (gtS σ P J c (8 * P)).2 (gtS σ P J c (8 * P)).1 (blS σ P J k) ≠ -1 := w5
                   have w6 : idx (gtS σ P J c (8 * P)).2 (gtS σ P J c (8 * P)).1 (blS σ P J k) ≠ idx (gtS σ P J c (8 * P)).2 (gtS σ P J c (8 * P)).1 (σ 30 (k / 8)) := w6
                   rw [← w4] at y2
                   omega)]
               · rw [if_neg y, if_neg y])
          · try simp only [ne_eq, b2i_e, b2i_1, Classical.not_not] at h49
            refine R_aload rfl rfl rfl ?_
            refine T_getr (v := 28) rfl rfl rfl rfl ?_
            refine T_getr (v := 30) rfl rfl rfl rfl ?_
            refine R_iload rfl rfl ?_
            refine T_ald rfl rfl (by omega) (by omega) ?_
            refine R_if rfl (fun h61 => ?_) (fun h61 => ?_)
            · try simp only [ne_eq, b2i_e, b2i_1, Classical.not_not] at h61
              have hidx := RG_who hH (c := c) (p := k / 8) (by omega) (by omega) (by omega)
              have hidb := fun w => (RG_in hH (c := c) hk0 (by omega) (by omega) (by omega) w : _)
              have hb01 := bx_01 (n := (pstk (gtS σ P J c (8 * P)).2 (gtS σ P J c (8 * P)).1 c (hsS σ) (σ 14) (σ 29) (σ 30) (mtS σ J) (8 * P))) (j := idx (gtS σ P J c (8 * P)).2 (gtS σ P J c (8 * P)).1 (σ 30 (k / 8))) ⟨by omega, by omega⟩
              refine R_aload rfl rfl rfl ?_
              refine R_aload rfl rfl rfl ?_
              refine T_getr (v := 44) rfl rfl rfl rfl ?_
              refine T_getr (v := 46) rfl rfl rfl rfl ?_
              refine R_iload rfl rfl ?_
              refine R_push rfl ?_
              refine R_dv rfl (by omega) (by omega) (by omega) ?_
              refine T_ald rfl rfl (by omega) (by omega) ?_
              rw [hFb.row 30 rfl]
              have hpl := sp_X0_placeOf d (by omega) xs t dd rr s1 (σ 30 (k / 8)) (gtS σ P J c (8 * P)).2 (gtS σ P J c (8 * P)).1 hR
              refine R_invv rfl rfl rfl rfl rfl rfl (hpl) rfl ?_
              show pCm _ _ _ 83 _ [(0, _)] _
              refine R_istore rfl rfl ?_
              refine R_aload rfl rfl rfl ?_
              refine R_aload rfl rfl rfl ?_
              refine R_iload rfl rfl ?_
              have hbo := sp_X0_blowOf d (by omega) xs t dd rr s1 P J (BH_fr hH hFb) k ⟨by omega, by omega⟩ (by rw [hsS_fr (hFb.fn 13 rfl)]; omega)
              rw [blS_fr hFb] at hbo
              refine R_invv rfl rfl rfl rfl rfl rfl (hbo) rfl ?_
              show pCm _ _ _ 91 _ [(0, _), (73, 0)] _
              have hpl := sp_X0_placeOf d (by omega) xs t dd rr s1 (blS σ P J k) (gtS σ P J c (8 * P)).2 (gtS σ P J c (8 * P)).1 hR
              refine R_invv rfl rfl rfl rfl rfl rfl (hpl) rfl ?_
              show pCm _ _ _ 94 _ [(0, _)] _
              refine R_istore rfl rfl ?_
              refine R_iload rfl rfl ?_
              refine R_push rfl ?_
              refine R_ic rfl (fun h99 => ?_) (fun h99 => ?_)
              · try simp only [ne_eq, b2i_e, b2i_1, Classical.not_not] at h99
                refine R_inc rfl rfl (by omega) (by omega) ?_
                refine R_goto rfl ?_
                refine fgt wc_X0_tellSure [1, 1, 1, 1, 0, 0] ?_
                first
                | (generalize hs3 : up2 s1 59 _ _ = s3
                   refine ih (k + 1, s3) ⟨by dsimp only; omega, by rw [← hs3]; exact hF.upr rfl, fun q q0 q1 => ?_⟩ (by dsimp only; omega)
                   dsimp only
                   have hIq := hI q q0 q1
                   rw [← hs3]
                   by_cases z : q = idx (gtS σ P J c (8 * P)).2 (gtS σ P J c (8 * P)).1 (σ 30 (k / 8))
                   · have hz := hsf q q0 (by omega) (by omega)
                     rw [if_pos ⟨by omega, by omega, by omega, by omega, by unfold blS at h105; exact h105, by unfold blS at h112; exact h112⟩] at hz
                     rw [if_pos ⟨by omega, by rw [z]; omega⟩, hz, ← z, up_s, hIq, if_pos ⟨by omega, by rw [z]; omega⟩]
                     rfl
                   · rw [up_i z, hIq]
                     by_cases y : q < (gtS σ P J c (8 * P)).1 ∧ bx (pstk (gtS σ P J c (8 * P)).2 (gtS σ P J c (8 * P)).1 c (hsS σ) (σ 14) (σ 29) (σ 30) (mtS σ J) (8 * P)) q = 1
                     · rw [if_pos y, if_pos y, hsf q q0 y.1 (by omega), if_neg (fun w => z w.2.2.2.1.symm)]
                     · rw [if_neg y, if_neg y])
                | (refine ih (k + 1, s1) ⟨by dsimp only; omega, hF, fun q q0 q1 => ?_⟩ (by dsimp only; omega)
                   dsimp only
                   rw [hI q q0 q1]
                   by_cases y : q < (gtS σ P J c (8 * P)).1 ∧ bx (pstk (gtS σ P J c (8 * P)).2 (gtS σ P J c (8 * P)).1 c (hsS σ) (σ 14) (σ 29) (σ 30) (mtS σ J) (8 * P)) q = 1
                   · rw [if_pos y, if_pos y, hsf q q0 y.1 (by omega), if_neg (fun w => by
                       obtain ⟨y1, y2⟩ := y
                       obtain ⟨w1, w2, w3, w4, w5, w6⟩ := w
                       have w5 : idx (gtS σ P J c (8 * P)).2 (gtS σ P J c (8 * P)).1 (blS σ P J k) ≠ -1 := w5
                       have w6 : idx (gtS σ P J c (8 * P)).2 (gtS σ P J c (8 * P)).1 (blS σ P J k) ≠ idx (gtS σ P J c (8 * P)).2 (gtS σ P J c (8 * P)).1 (σ 30 (k / 8)) := w6
                       rw [← w4] at y2
                       omega)]
                   · rw [if_neg y, if_neg y])
              · try simp only [ne_eq, b2i_e, b2i_1, Classical.not_not] at h99
                refine R_iload rfl rfl ?_
                refine R_push rfl ?_
                refine R_ic rfl (fun h105 => ?_) (fun h105 => ?_)
                · try simp only [ne_eq, b2i_e, b2i_1, Classical.not_not] at h105
                  refine R_inc rfl rfl (by omega) (by omega) ?_
                  refine R_goto rfl ?_
                  refine fgt wc_X0_tellSure [1, 1, 1, 1, 0, 0] ?_
                  first
                  | (generalize hs3 : up2 s1 59 _ _ = s3
                     refine ih (k + 1, s3) ⟨by dsimp only; omega, by rw [← hs3]; exact hF.upr rfl, fun q q0 q1 => ?_⟩ (by dsimp only; omega)
                     dsimp only
                     have hIq := hI q q0 q1
                     rw [← hs3]
                     by_cases z : q = idx (gtS σ P J c (8 * P)).2 (gtS σ P J c (8 * P)).1 (σ 30 (k / 8))
                     · have hz := hsf q q0 (by omega) (by omega)
                       rw [if_pos ⟨by omega, by omega, by omega, by omega, by unfold blS at h105; exact h105, by unfold blS at h112; exact h112⟩] at hz
                       rw [if_pos ⟨by omega, by rw [z]; omega⟩, hz, ← z, up_s, hIq, if_pos ⟨by omega, by rw [z]; omega⟩]
                       rfl
                     · rw [up_i z, hIq]
                       by_cases y : q < (gtS σ P J c (8 * P)).1 ∧ bx (pstk (gtS σ P J c (8 * P)).2 (gtS σ P J c (8 * P)).1 c (hsS σ) (σ 14) (σ 29) (σ 30) (mtS σ J) (8 * P)) q = 1
                       · rw [if_pos y, if_pos y, hsf q q0 y.1 (by omega), if_neg (fun w => z w.2.2.2.1.symm)]
                       · rw [if_neg y, if_neg y])
                  | (refine ih (k + 1, s1) ⟨by dsimp only; omega, hF, fun q q0 q1 => ?_⟩ (by dsimp only; omega)
                     dsimp only
                     rw [hI q q0 q1]
                     by_cases y : q < (gtS σ P J c (8 * P)).1 ∧ bx (pstk (gtS σ P J c (8 * P)).2 (gtS σ P J c (8 * P)).1 c (hsS σ) (σ 14) (σ 29) (σ 30) (mtS σ J) (8 * P)) q = 1
                     · rw [if_pos y, if_pos y, hsf q q0 y.1 (by omega), if_neg (fun w => by
                         obtain ⟨y1, y2⟩ := y
                         obtain ⟨w1, w2, w3, w4, w5, w6⟩ := w
                         have w5 : idx (gtS σ P J c (8 * P)).2 (gtS σ P J c (8 * P)).1 (blS σ P J k) ≠ -1 := w5
                         have w6 : idx (gtS σ P J c (8 * P)).2 (gtS σ P J c (8 * P)).1 (blS σ P J k) ≠ idx (gtS σ P J c (8 * P)).2 (gtS σ P J c (8 * P)).1 (σ 30 (k / 8)) := w6
                         rw [← w4] at y2
                         omega)]
                     · rw [if_neg y, if_neg y])
                · try simp only [ne_eq, b2i_e, b2i_1, Classical.not_not] at h105
                  refine R_iload rfl rfl ?_
                  refine R_iload rfl rfl ?_
                  refine R_ic rfl (fun h112 => ?_) (fun h112 => ?_)
                  · try simp only [ne_eq, b2i_e, b2i_1, Classical.not_not] at h112
                    refine R_inc rfl rfl (by omega) (by omega) ?_
                    refine R_goto rfl ?_
                    refine fgt wc_X0_tellSure [1, 1, 1, 1, 0, 0] ?_
                    first
                    | (generalize hs3 : up2 s1 59 _ _ = s3
                       refine ih (k + 1, s3) ⟨by dsimp only; omega, by rw [← hs3]; exact hF.upr rfl, fun q q0 q1 => ?_⟩ (by dsimp only; omega)
                       dsimp only
                       have hIq := hI q q0 q1
                       rw [← hs3]
                       by_cases z : q = idx (gtS σ P J c (8 * P)).2 (gtS σ P J c (8 * P)).1 (σ 30 (k / 8))
                       · have hz := hsf q q0 (by omega) (by omega)
                         rw [if_pos ⟨by omega, by omega, by omega, by omega, by unfold blS at h105; exact h105, by unfold blS at h112; exact h112⟩] at hz
                         rw [if_pos ⟨by omega, by rw [z]; omega⟩, hz, ← z, up_s, hIq, if_pos ⟨by omega, by rw [z]; omega⟩]
                         rfl
                       · rw [up_i z, hIq]
                         by_cases y : q < (gtS σ P J c (8 * P)).1 ∧ bx (pstk (gtS σ P J c (8 * P)).2 (gtS σ P J c (8 * P)).1 c (hsS σ) (σ 14) (σ 29) (σ 30) (mtS σ J) (8 * P)) q = 1
                         · rw [if_pos y, if_pos y, hsf q q0 y.1 (by omega), if_neg (fun w => z w.2.2.2.1.symm)]
                         · rw [if_neg y, if_neg y])
                    | (refine ih (k + 1, s1) ⟨by dsimp only; omega, hF, fun q q0 q1 => ?_⟩ (by dsimp only; omega)
                       dsimp only
                       rw [hI q q0 q1]
                       by_cases y : q < (gtS σ P J c (8 * P)).1 ∧ bx (pstk (gtS σ P J c (8 * P)).2 (gtS σ P J c (8 * P)).1 c (hsS σ) (σ 14) (σ 29) (σ 30) (mtS σ J) (8 * P)) q = 1
                       · rw [if_pos y, if_pos y, hsf q q0 y.1 (by omega), if_neg (fun w => by
                           obtain ⟨y1, y2⟩ := y
                           obtain ⟨w1, w2, w3, w4, w5, w6⟩ := w
                           have w5 : idx (gtS σ P J c (8 * P)).2 (gtS σ P J c (8 * P)).1 (blS σ P J k) ≠ -1 := w5
                           have w6 : idx (gtS σ P J c (8 * P)).2 (gtS σ P J c (8 * P)).1 (blS σ P J k) ≠ idx (gtS σ P J c (8 * P)).2 (gtS σ P J c (8 * P)).1 (σ 30 (k / 8)) := w6
                           rw [← w4] at y2
                           omega)]
                       · rw [if_neg y, if_neg y])
                  · try simp only [ne_eq, b2i_e, b2i_1, Classical.not_not] at h112
                    refine R_iload rfl rfl ?_
                    refine R_iload rfl rfl ?_
                    refine R_bin rfl ?_
                    refine R_push rfl ?_
                    refine R_bin rfl ?_
                    show pCm _ _ _ _ _ ((0, bx (pstk (gtS σ P J c (8 * P)).2 (gtS σ P J c (8 * P)).1 c (hsS σ) (σ 14) (σ 29) (σ 30) (mtS σ J) (8 * P)) (idx (gtS σ P J c (8 * P)).2 (gtS σ P J c (8 * P)).1 (σ 30 (k / 8)))) :: _) _
                    refine R_if rfl (fun h121 => ?_) (fun h121 => ?_)
                    · try simp only [ne_eq, b2i_e, b2i_1, Classical.not_not] at h121
                      refine R_inc rfl rfl (by omega) (by omega) ?_
                      refine R_goto rfl ?_
                      refine fgt wc_X0_tellSure [1, 1, 1, 1, 0, 0] ?_
                      first
                      | (generalize hs3 : up2 s1 59 _ _ = s3
                         refine ih (k + 1, s3) ⟨by dsimp only; omega, by rw [← hs3]; exact hF.upr rfl, fun q q0 q1 => ?_⟩ (by dsimp only; omega)
                         dsimp only
                         have hIq := hI q q0 q1
                         rw [← hs3]
                         by_cases z : q = idx (gtS σ P J c (8 * P)).2 (gtS σ P J c (8 * P)).1 (σ 30 (k / 8))
                         · have hz := hsf q q0 (by omega) (by omega)
                           rw [if_pos ⟨by omega, by omega, by omega, by omega, by unfold blS at h105; exact h105, by unfold blS at h112; exact h112⟩] at hz
                           rw [if_pos ⟨by omega, by rw [z]; omega⟩, hz, ← z, up_s, hIq, if_pos ⟨by omega, by rw [z]; omega⟩]
                           rfl
                         · rw [up_i z, hIq]
                           by_cases y : q < (gtS σ P J c (8 * P)).1 ∧ bx (pstk (gtS σ P J c (8 * P)).2 (gtS σ P J c (8 * P)).1 c (hsS σ) (σ 14) (σ 29) (σ 30) (mtS σ J) (8 * P)) q = 1
                           · rw [if_pos y, if_pos y, hsf q q0 y.1 (by omega), if_neg (fun w => z w.2.2.2.1.symm)]
                           · rw [if_neg y, if_neg y])
                      | (refine ih (k + 1, s1) ⟨by dsimp only; omega, hF, fun q q0 q1 => ?_⟩ (by dsimp only; omega)
                         dsimp only
                         rw [hI q q0 q1]
                         by_cases y : q < (gtS σ P J c (8 * P)).1 ∧ bx (pstk (gtS σ P J c (8 * P)).2 (gtS σ P J c (8 * P)).1 c (hsS σ) (σ 14) (σ 29) (σ 30) (mtS σ J) (8 * P)) q = 1
                         · rw [if_pos y, if_pos y, hsf q q0 y.1 (by omega), if_neg (fun w => by
                             obtain ⟨y1, y2⟩ := y
                             obtain ⟨w1, w2, w3, w4, w5, w6⟩ := w
                             have w5 : idx (gtS σ P J c (8 * P)).2 (gtS σ P J c (8 * P)).1 (blS σ P J k) ≠ -1 := w5
                             have w6 : idx (gtS σ P J c (8 * P)).2 (gtS σ P J c (8 * P)).1 (blS σ P J k) ≠ idx (gtS σ P J c (8 * P)).2 (gtS σ P J c (8 * P)).1 (σ 30 (k / 8)) := w6
                             rw [← w4] at y2
                             omega)]
                         · rw [if_neg y, if_neg y])
                    · try simp only [ne_eq, b2i_e, b2i_1, Classical.not_not] at h121
                      refine R_aload rfl rfl rfl ?_
                      refine T_getr (v := 75) rfl rfl rfl rfl ?_
                      refine R_iload rfl rfl ?_
                      refine R_dup2 rfl rfl rfl ?_
                      refine T_ald rfl rfl (by omega) (by omega) ?_
                      refine R_push rfl ?_
                      refine R_iload rfl rfl ?_
                      refine R_bin rfl ?_
                      refine R_bin rfl ?_
                      refine T_iast rfl rfl (by omega) (by omega) ?_
                      refine R_inc rfl rfl (by omega) (by omega) ?_
                      refine R_goto rfl ?_
                      refine fgt wc_X0_tellSure [1, 1, 1, 1, 0, 0] ?_
                      first
                      | (generalize hs3 : up2 s1 59 _ _ = s3
                         refine ih (k + 1, s3) ⟨by dsimp only; omega, by rw [← hs3]; exact hF.upr rfl, fun q q0 q1 => ?_⟩ (by dsimp only; omega)
                         dsimp only
                         have hIq := hI q q0 q1
                         rw [← hs3]
                         by_cases z : q = idx (gtS σ P J c (8 * P)).2 (gtS σ P J c (8 * P)).1 (σ 30 (k / 8))
                         · have hz := hsf q q0 (by omega) (by omega)
                           rw [if_pos ⟨by omega, by omega, by omega, by omega, by unfold blS at h105; exact h105, by unfold blS at h112; exact h112⟩] at hz
                           rw [if_pos ⟨by omega, by rw [z]; omega⟩, hz, ← z, up_s, hIq, if_pos ⟨by omega, by rw [z]; omega⟩]
                           rfl
                         · rw [up_i z, hIq]
                           by_cases y : q < (gtS σ P J c (8 * P)).1 ∧ bx (pstk (gtS σ P J c (8 * P)).2 (gtS σ P J c (8 * P)).1 c (hsS σ) (σ 14) (σ 29) (σ 30) (mtS σ J) (8 * P)) q = 1
                           · rw [if_pos y, if_pos y, hsf q q0 y.1 (by omega), if_neg (fun w => z w.2.2.2.1.symm)]
                           · rw [if_neg y, if_neg y])
                      | (refine ih (k + 1, s1) ⟨by dsimp only; omega, hF, fun q q0 q1 => ?_⟩ (by dsimp only; omega)
                         dsimp only
                         rw [hI q q0 q1]
                         by_cases y : q < (gtS σ P J c (8 * P)).1 ∧ bx (pstk (gtS σ P J c (8 * P)).2 (gtS σ P J c (8 * P)).1 c (hsS σ) (σ 14) (σ 29) (σ 30) (mtS σ J) (8 * P)) q = 1
                         · rw [if_pos y, if_pos y, hsf q q0 y.1 (by omega), if_neg (fun w => by
                             obtain ⟨y1, y2⟩ := y
                             obtain ⟨w1, w2, w3, w4, w5, w6⟩ := w
                             have w5 : idx (gtS σ P J c (8 * P)).2 (gtS σ P J c (8 * P)).1 (blS σ P J k) ≠ -1 := w5
                             have w6 : idx (gtS σ P J c (8 * P)).2 (gtS σ P J c (8 * P)).1 (blS σ P J k) ≠ idx (gtS σ P J c (8 * P)).2 (gtS σ P J c (8 * P)).1 (σ 30 (k / 8)) := w6
                             rw [← w4] at y2
                             omega)]
                         · rw [if_neg y, if_neg y])
            · try simp only [ne_eq, b2i_e, b2i_1, Classical.not_not] at h61
              refine R_goto rfl ?_
              refine R_inc rfl rfl (by omega) (by omega) ?_
              refine R_goto rfl ?_
              refine fgt wc_X0_tellSure [1, 1, 1, 1, 0, 0] ?_
              first
              | (generalize hs3 : up2 s1 59 _ _ = s3
                 refine ih (k + 1, s3) ⟨by dsimp only; omega, by rw [← hs3]; exact hF.upr rfl, fun q q0 q1 => ?_⟩ (by dsimp only; omega)
                 dsimp only
                 have hIq := hI q q0 q1
                 rw [← hs3]
                 by_cases z : q = idx (gtS σ P J c (8 * P)).2 (gtS σ P J c (8 * P)).1 (σ 30 (k / 8))
                 · have hz := hsf q q0 (by omega) (by omega)
                   rw [if_pos ⟨by omega, by omega, by omega, by omega, by unfold blS at h105; exact h105, by unfold blS at h112; exact h112⟩] at hz
                   rw [if_pos ⟨by omega, by rw [z]; omega⟩, hz, ← z, up_s, hIq, if_pos ⟨by omega, by rw [z]; omega⟩]
                   rfl
                 · rw [up_i z, hIq]
                   by_cases y : q < (gtS σ P J c (8 * P)).1 ∧ bx (pstk (gtS σ P J c (8 * P)).2 (gtS σ P J c (8 * P)).1 c (hsS σ) (σ 14) (σ 29) (σ 30) (mtS σ J) (8 * P)) q = 1
                   · rw [if_pos y, if_pos y, hsf q q0 y.1 (by omega), if_neg (fun w => z w.2.2.2.1.symm)]
                   · rw [if_neg y, if_neg y])
              | (refine ih (k + 1, s1) ⟨by dsimp only; omega, hF, fun q q0 q1 => ?_⟩ (by dsimp only; omega)
                 dsimp only
                 rw [hI q q0 q1]
                 by_cases y : q < (gtS σ P J c (8 * P)).1 ∧ bx (pstk (gtS σ P J c (8 * P)).2 (gtS σ P J c (8 * P)).1 c (hsS σ) (σ 14) (σ 29) (σ 30) (mtS σ J) (8 * P)) q = 1
                 · rw [if_pos y, if_pos y, hsf q q0 y.1 (by omega), if_neg (fun w => by
                     obtain ⟨y1, y2⟩ := y
                     obtain ⟨w1, w2, w3, w4, w5, w6⟩ := w
                     have w5 : idx (gtS σ P J c (8 * P)).2 (gtS σ P J c (8 * P)).1 (blS σ P J k) ≠ -1 := w5
                     have w6 : idx (gtS σ P J c (8 * P)).2 (gtS σ P J c (8 * P)).1 (blS σ P J k) ≠ idx (gtS σ P J c (8 * P)).2 (gtS σ P J c (8 * P)).1 (σ 30 (k / 8)) := w6
                     rw [← w4] at y2
                     omega)]
                 · rw [if_neg y, if_neg y])
      · exact ⟨⟨Int.le_refl _, by dsimp only; omega⟩, F0, fun q q0 q1 => by
          dsimp only
          rw [hv q q0 (by omega)]
          split <;> rfl⟩
    · try simp only [ne_eq, b2i_e, b2i_1, Classical.not_not] at h5
      refine R_aload rfl rfl rfl ?_
      refine T_getr (v := 75) rfl rfl rfl rfl ?_
      refine R_iload rfl rfl ?_
      refine R_push rfl ?_
      refine T_iast rfl rfl (by omega) (by omega) ?_
      refine R_inc rfl rfl (by omega) (by omega) ?_
      refine R_goto rfl ?_
      generalize hs3 : up2 s0 59 k _ = s3
      refine fgt wc_X0_tellSure [1, 1, 1, 0, 0, 0] ?_
      refine ih (k + 1, s3) ⟨by dsimp only; omega, by rw [← hs3]; exact F0.upr rfl, fun i i0 i1 => ?_⟩ (by dsimp only; omega)
      dsimp only at i1 ⊢
      rw [← hs3]
      by_cases q : i = k
      · rw [q, up_s]
      · rw [up_i q]; exact hv i i0 (by omega)
  · exact ⟨by dsimp only; omega, Fr.rf, fun i i0 i1 => by dsimp only at i1; omega⟩

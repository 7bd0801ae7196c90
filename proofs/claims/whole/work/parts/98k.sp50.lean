theorem RM_in {σ : Sg} {P J c : Int} (hH : MH σ P J) {f : Int} (f0 : 0 ≤ f) (f1 : f < 8 * P) (hf : hsM σ f = 1) (hc : σ 111 (f / 8) = c) (hb : 0 ≤ blM σ P J f) : 0 ≤ idx (gtM σ P J c (8 * P)).2 (gtM σ P J c (8 * P)).1 (blM σ P J f) ∧ idx (gtM σ P J c (8 * P)).2 (gtM σ P J c (8 * P)).1 (blM σ P J f) < (gtM σ P J c (8 * P)).1 := by
  have := idx_in (c := c) hH.2.1.1 (bl_in (so := σ 99) hH.2.1 f0 f1 hf hc hb)
  exact ⟨this.1, this.2.1⟩
theorem RM_hi {σ : Sg} {P J c : Int} (hH : MH σ P J) (hT : (gtM σ P J c (8 * P)).1 ≤ 12) : ∀ f, 0 ≤ f → f < 8 * P → ∀ g, 0 ≤ g → g < 8 → hsM σ f = 1 → σ 111 (f / 8) = c → 0 < σ 116 (8 * f + g) → 0 ≤ bl P (σ 99) (σ 111) (σ 112) (mtM σ J) f → 0 ≤ bl P (σ 99) (σ 111) (σ 112) (mtM σ J) (f / 8 * 8 + g) → (0 ≤ idx (gtM σ P J c (8 * P)).2 (gtM σ P J c (8 * P)).1 (bl P (σ 99) (σ 111) (σ 112) (mtM σ J) f) ∧ idx (gtM σ P J c (8 * P)).2 (gtM σ P J c (8 * P)).1 (bl P (σ 99) (σ 111) (σ 112) (mtM σ J) f) < 12) ∧ 0 ≤ idx (gtM σ P J c (8 * P)).2 (gtM σ P J c (8 * P)).1 (bl P (σ 99) (σ 111) (σ 112) (mtM σ J) (f / 8 * 8 + g)) ∧ idx (gtM σ P J c (8 * P)).2 (gtM σ P J c (8 * P)).1 (bl P (σ 99) (σ 111) (σ 112) (mtM σ J) (f / 8 * 8 + g)) < 12 := by
  intro f f0 f1 g g0 g1 hf hc hw b1 b2
  have h := (hH.2.2.1 f g f0 f1 g0 g1).2 hw
  have e1 : 0 ≤ idx (gtM σ P J c (8 * P)).2 (gtM σ P J c (8 * P)).1 (bl P (σ 99) (σ 111) (σ 112) (mtM σ J) f) ∧ idx (gtM σ P J c (8 * P)).2 (gtM σ P J c (8 * P)).1 (bl P (σ 99) (σ 111) (σ 112) (mtM σ J) f) < (gtM σ P J c (8 * P)).1 := RM_in hH f0 f1 hf hc b1
  have e2 : 0 ≤ idx (gtM σ P J c (8 * P)).2 (gtM σ P J c (8 * P)).1 (bl P (σ 99) (σ 111) (σ 112) (mtM σ J) (f / 8 * 8 + g)) ∧ idx (gtM σ P J c (8 * P)).2 (gtM σ P J c (8 * P)).1 (bl P (σ 99) (σ 111) (σ 112) (mtM σ J) (f / 8 * 8 + g)) < (gtM σ P J c (8 * P)).1 := RM_in hH (by omega) (by omega) h.2 (by rw [show (f / 8 * 8 + g) / 8 = f / 8 by omega]; exact hc) b2
  exact ⟨⟨e1.1, by omega⟩, e2.1, by omega⟩
set_option maxRecDepth 20000 in
set_option maxHeartbeats 2000000 in
theorem sp_X10_findWeights (d : Nat) (hd : 4 ≤ d) (xs : List (Nat × Nat)) (t dd rr : Nat) (σ s : Sg) (c P J : Int) (hH : MH σ P J) (hFm0 : Fm σ s) (hR0 : RM s σ P J c) : ∃ σ', Ev d 98 [(87, 0), (0, c)] (Wd xs t dd rr s) (8, 0) (Wd xs t dd rr σ') ∧ Fr [115] [] s σ' ∧ ∀ i, 0 ≤ i → i < 144 → σ' 115 i = wgt (gtM σ P J c (8 * P)).2 (gtM σ P J c (8 * P)).1 P c (hsM σ) (σ 99) (σ 111) (σ 112) (mtM σ J) (fun f g => σ 116 (8 * f + g)) (8 * P) i := by
  obtain ⟨d, rfl⟩ : ∃ e, d = e + 1 := ⟨d - 1, by omega⟩
  obtain ⟨⟨hP, hJ, h0, hJ0, hJB⟩, hHH, hcut, hHJ⟩ := id hH
  obtain ⟨hR1, hT12, hR3⟩ := id hR0
  refine evS (nL := 7) (code := k_X10_findWeights) rfl dc_X10_findWeights rfl (fun E hE => ?_)
  show pCm (Ev d) k_X10_findWeights E 0 [(87, 0), (0, c), (9, 0), (9, 0), (9, 0), (9, 0), (9, 0)] [] _
  refine R_push rfl ?_
  refine R_istore rfl rfl ?_
  show pCm _ _ _ _ [_, _, _, _, _, _, _] _ _
  refine fgt wc_X10_findWeights [1, 1, 1, 0, 0, 0, 0] ?_
  refine loop (pc := 2) (α := Int × Sg) (fun x => (144 - x.1).toNat) (fun x => ([(87, 0), (0, c), (0, x.1), (9, 0), (9, 0), (9, 0), (9, 0)], Wd xs t dd rr x.2)) (fun x => (0 ≤ x.1 ∧ x.1 ≤ 144) ∧ Fr [115] [] s x.2 ∧ ∀ i, 0 ≤ i → i < x.1 → x.2 115 i = 0) ?_ (0, s) ?_
  · intro ⟨k, s0⟩ ⟨hk, F0, hv⟩ ih
    dsimp only at hk F0 hv ⊢
    refine R_iload rfl rfl ?_
    refine R_push rfl ?_
    refine R_ic rfl (fun h6 => ?_) (fun h6 => ?_)
    · try simp only [ne_eq, b2i_e, b2i_1, Classical.not_not] at h6
      refine R_push rfl ?_
      refine R_istore rfl rfl ?_
      show pCm _ _ _ _ [_, _, _, _, _, _, _] _ _
      refine fgt wc_X10_findWeights [1, 1, 1, 0, 0, 0, 0] ?_
      refine loop (pc := 24) (α := Int × Sg) (fun x => (8 * P - x.1).toNat) (fun x => ([(87, 0), (0, c), (0, x.1), (9, 0), (9, 0), (9, 0), (9, 0)], Wd xs t dd rr x.2)) (fun x => (0 ≤ x.1 ∧ x.1 ≤ 8 * P) ∧ Fr [115] [] s x.2 ∧ ∀ i, 0 ≤ i → i < 144 → x.2 115 i = wgt (gtM σ P J c (8 * P)).2 (gtM σ P J c (8 * P)).1 P c (hsM σ) (σ 99) (σ 111) (σ 112) (mtM σ J) (fun f g => σ 116 (8 * f + g)) x.1 i) ?_ (0, s0) ?_
      · clear ih
        intro ⟨f, s1⟩ ⟨⟨hk0, hk1⟩, hF, hK⟩ ih
        dsimp only at hk0 hk1 hF hK ⊢
        have hFm : Fm σ s1 := hFm0.tr hF rfl rfl
        have e26 := hFm.at 71 26 rfl
        have hgs : wgt (gtM σ P J c (8 * P)).2 (gtM σ P J c (8 * P)).1 P c (hsM σ) (σ 99) (σ 111) (σ 112) (mtM σ J) (fun f g => σ 116 (8 * f + g)) (f + 1) = _ := wgt_s hk0
        have hwo := wgt_ok (R := (gtM σ P J c (8 * P)).2) (T := (gtM σ P J c (8 * P)).1) (P := P) (c := c) (hs := hsM σ) (so := σ 99) (co := σ 111) (who := σ 112) (mt := mtM σ J) (cw := (fun f g => σ 116 (8 * f + g))) h0 (RM_hi hH hT12.2) (fun f f0 f1 g g0 g1 => (hcut f g f0 f1 g0 g1).1.2) f.toNat (by omega)
        rw [Int.toNat_of_nonneg hk0] at hwo
        have hs01 : hsM σ f = 0 ∨ hsM σ f = 1 := by have := (b2i_bd (p := f % 8 < σ 98 (f / 8))); unfold hsM; omega
        refine R_iload rfl rfl ?_
        refine R_push rfl ?_
        refine R_aload rfl rfl rfl ?_
        refine T_geti rfl rfl rfl ?_
        refine R_mul rfl (by omega) (by omega) ?_
        refine R_ic rfl (fun h32 => ?_) (fun h32 => ?_)
        · try simp only [ne_eq, b2i_e, b2i_1, Classical.not_not] at h32
          refine R_vret rfl ?_
          exact hE _ _ rfl ⟨hF, by
            have e : f = 8 * P := by omega
            rw [e] at hK
            exact hK⟩
        · try simp only [ne_eq, b2i_e, b2i_1, Classical.not_not] at h32
          refine R_push rfl ?_
          refine R_istore rfl rfl ?_
          show pCm _ _ _ _ [_, _, _, _, _, _, _] _ _
          refine fgt wc_X10_findWeights [1, 1, 1, 1, 0, 0, 0] ?_
          refine loop (pc := 37) (α := Int × Sg) (fun x => (8 - x.1).toNat) (fun x => ([(87, 0), (0, c), (0, f), (0, x.1), (9, 0), (9, 0), (9, 0)], Wd xs t dd rr x.2)) (fun x => (0 ≤ x.1 ∧ x.1 ≤ 8) ∧ Fr [115] [] s x.2 ∧ ∀ i, 0 ≤ i → i < 144 → x.2 115 i = wsf (gtM σ P J c (8 * P)).2 (gtM σ P J c (8 * P)).1 P c (hsM σ) (σ 99) (σ 111) (σ 112) (mtM σ J) (fun f g => σ 116 (8 * f + g)) f x.1 (wgt (gtM σ P J c (8 * P)).2 (gtM σ P J c (8 * P)).1 P c (hsM σ) (σ 99) (σ 111) (σ 112) (mtM σ J) (fun f g => σ 116 (8 * f + g)) f) i) ?_ (0, s1) ?_
          · intro ⟨g, s2⟩ ⟨⟨hg0, hg1⟩, hFi, hKi⟩ ihi
            dsimp only at hg0 hg1 hFi hKi ⊢
            have hFmi : Fm σ s2 := hFm0.tr hFi rfl rfl
            have hHi := MH_fr hH hFmi
            have e26i := hFmi.at 71 26 rfl
            have e111 := hFmi.row 111 rfl (f / 8)
            have hRi : RM s2 σ P J c := RM_fr hR0 (hFi.row 71 rfl 55) (hFi.fn 113 rfl)
            have hws : wsf (gtM σ P J c (8 * P)).2 (gtM σ P J c (8 * P)).1 P c (hsM σ) (σ 99) (σ 111) (σ 112) (mtM σ J) (fun f g => σ 116 (8 * f + g)) f (g + 1) (wgt (gtM σ P J c (8 * P)).2 (gtM σ P J c (8 * P)).1 P c (hsM σ) (σ 99) (σ 111) (σ 112) (mtM σ J) (fun f g => σ 116 (8 * f + g)) f) = _ := wsf_s hg0
            have hcf : g < 8 → _ := fun w => hcut f g hk0 (by omega) hg0 w
            refine R_aload rfl rfl rfl ?_
            refine R_iload rfl rfl ?_
            have hfo := sp_X10_isFace d (by omega) xs t dd rr s2 f P (by rw [e26i]; exact hP) h0 (by omega)
            rw [show b2i (0 ≤ f ∧ f / 8 < P ∧ f % 8 < s2 98 (f / 8)) = hsM σ f by rw [hFmi.row 98 rfl]; exact b2i_iff ⟨fun w => w.2.2, fun w => ⟨by omega, by omega, w⟩⟩] at hfo
            refine R_invv rfl rfl rfl rfl rfl rfl (hfo) rfl ?_
            show pCm _ _ _ 42 _ [(0, _)] _
            refine R_if rfl (fun h42 => ?_) (fun h42 => ?_)
            · try simp only [ne_eq, b2i_e, b2i_1, Classical.not_not] at h42
              refine R_inc rfl rfl (by omega) (by omega) ?_
              show pCm _ _ _ _ [_, _, _, _, _, _, _] _ _
              refine R_goto rfl ?_
              refine fgt wc_X10_findWeights [1, 1, 1, 0, 0, 0, 0] ?_
              refine ih (f + 1, s2) ⟨by dsimp only; omega, hFi, ?_⟩ (by dsimp only; omega)
              dsimp only
              rw [hgs]
              first
              | (have hg8 : g = 8 := by omega
                 rw [hg8] at hKi
                 exact hKi)
              | (have hsk := wsf_skip (R := (gtM σ P J c (8 * P)).2) (T := (gtM σ P J c (8 * P)).1) (P := P) (c := c) (hs := hsM σ) (so := σ 99) (co := σ 111) (who := σ 112) (mt := mtM σ J) (cw := (fun f g => σ 116 (8 * f + g))) (f := f) (U := wgt (gtM σ P J c (8 * P)).2 (gtM σ P J c (8 * P)).1 P c (hsM σ) (σ 99) (σ 111) (σ 112) (mtM σ J) (fun f g => σ 116 (8 * f + g)) f) (fun w => by omega) g.toNat
                 rw [Int.toNat_of_nonneg hg0] at hsk
                 rw [hsk] at hKi
                 rw [wsf_skip8 (fun w => by omega)]
                 exact hKi)
            · try simp only [ne_eq, b2i_e, b2i_1, Classical.not_not] at h42
              refine R_aload rfl rfl rfl ?_
              refine T_getr (v := 127) rfl rfl rfl rfl ?_
              refine R_iload rfl rfl ?_
              refine R_push rfl ?_
              refine R_dv rfl (by omega) (by omega) (by omega) ?_
              refine T_ald rfl rfl (by omega) (by omega) ?_
              refine R_iload rfl rfl ?_
              refine R_ic rfl (fun h55 => ?_) (fun h55 => ?_)
              · try simp only [ne_eq, b2i_e, b2i_1, Classical.not_not] at h55
                refine R_inc rfl rfl (by omega) (by omega) ?_
                show pCm _ _ _ _ [_, _, _, _, _, _, _] _ _
                refine R_goto rfl ?_
                refine fgt wc_X10_findWeights [1, 1, 1, 0, 0, 0, 0] ?_
                refine ih (f + 1, s2) ⟨by dsimp only; omega, hFi, ?_⟩ (by dsimp only; omega)
                dsimp only
                rw [hgs]
                first
                | (have hg8 : g = 8 := by omega
                   rw [hg8] at hKi
                   exact hKi)
                | (have hsk := wsf_skip (R := (gtM σ P J c (8 * P)).2) (T := (gtM σ P J c (8 * P)).1) (P := P) (c := c) (hs := hsM σ) (so := σ 99) (co := σ 111) (who := σ 112) (mt := mtM σ J) (cw := (fun f g => σ 116 (8 * f + g))) (f := f) (U := wgt (gtM σ P J c (8 * P)).2 (gtM σ P J c (8 * P)).1 P c (hsM σ) (σ 99) (σ 111) (σ 112) (mtM σ J) (fun f g => σ 116 (8 * f + g)) f) (fun w => by omega) g.toNat
                   rw [Int.toNat_of_nonneg hg0] at hsk
                   rw [hsk] at hKi
                   rw [wsf_skip8 (fun w => by omega)]
                   exact hKi)
              · try simp only [ne_eq, b2i_e, b2i_1, Classical.not_not] at h55
                refine R_iload rfl rfl ?_
                refine R_push rfl ?_
                refine R_ic rfl (fun h61 => ?_) (fun h61 => ?_)
                · try simp only [ne_eq, b2i_e, b2i_1, Classical.not_not] at h61
                  refine R_inc rfl rfl (by omega) (by omega) ?_
                  show pCm _ _ _ _ [_, _, _, _, _, _, _] _ _
                  refine R_goto rfl ?_
                  refine fgt wc_X10_findWeights [1, 1, 1, 0, 0, 0, 0] ?_
                  refine ih (f + 1, s2) ⟨by dsimp only; omega, hFi, ?_⟩ (by dsimp only; omega)
                  dsimp only
                  rw [hgs]
                  first
                  | (have hg8 : g = 8 := by omega
                     rw [hg8] at hKi
                     exact hKi)
                  | (have hsk := wsf_skip (R := (gtM σ P J c (8 * P)).2) (T := (gtM σ P J c (8 * P)).1) (P := P) (c := c) (hs := hsM σ) (so := σ 99) (co := σ 111) (who := σ 112) (mt := mtM σ J) (cw := (fun f g => σ 116 (8 * f + g))) (f := f) (U := wgt (gtM σ P J c (8 * P)).2 (gtM σ P J c (8 * P)).1 P c (hsM σ) (σ 99) (σ 111) (σ 112) (mtM σ J) (fun f g => σ 116 (8 * f + g)) f) (fun w => by omega) g.toNat
                     rw [Int.toNat_of_nonneg hg0] at hsk
                     rw [hsk] at hKi
                     rw [wsf_skip8 (fun w => by omega)]
                     exact hKi)
                · try simp only [ne_eq, b2i_e, b2i_1, Classical.not_not] at h61
                  have hcf := hcf (by omega)
                  refine R_aload rfl rfl rfl ?_
                  refine T_getr (v := 132) rfl rfl rfl rfl ?_
                  refine R_push rfl ?_
                  refine R_iload rfl rfl ?_
                  refine R_mul rfl (by omega) (by omega) ?_
                  refine R_iload rfl rfl ?_
                  refine R_add rfl (by omega) (by omega) ?_
                  refine T_ald rfl rfl (by omega) (by omega) ?_
                  rw [hFmi.row 116 rfl]
                  refine R_istore rfl rfl ?_
                  show pCm _ _ _ _ [_, _, _, _, _, _, _] _ _
                  refine R_iload rfl rfl ?_
                  refine R_if rfl (fun h79 => ?_) (fun h79 => ?_)
                  · try simp only [ne_eq, b2i_e, b2i_1, Classical.not_not] at h79
                    refine R_inc rfl rfl (by omega) (by omega) ?_
                    show pCm _ _ _ _ [_, _, _, _, _, _, _] _ _
                    refine R_goto rfl ?_
                    refine fgt wc_X10_findWeights [1, 1, 1, 1, 0, 0, 0] ?_
                    first
                    | exact ihi (g + 1, s3) ⟨by dsimp only; omega, by rw [← hs3]; exact hFi.upr rfl, fun i i0 i1 => by
                        dsimp only
                        rw [hws]
                        unfold wcs
                        rw [if_pos ⟨by omega, by omega, by show 0 < σ 116 (8 * f + g); omega, by show 0 ≤ blM σ P J f; omega, by show 0 ≤ blM σ P J (f / 8 * 8 + g); omega, by show blM σ P J f ≠ blM σ P J (f / 8 * 8 + g); omega⟩, ← hs3]
                        by_cases q : i = 12 * idx (gtM σ P J c (8 * P)).2 (gtM σ P J c (8 * P)).1 (blM σ P J f) + idx (gtM σ P J c (8 * P)).2 (gtM σ P J c (8 * P)).1 (blM σ P J (f / 8 * 8 + g))
                        · have q' : i = 12 * idx (gtM σ P J c (8 * P)).2 (gtM σ P J c (8 * P)).1 (bl P (σ 99) (σ 111) (σ 112) (mtM σ J) f) + idx (gtM σ P J c (8 * P)).2 (gtM σ P J c (8 * P)).1 (bl P (σ 99) (σ 111) (σ 112) (mtM σ J) (f / 8 * 8 + g)) := q
                          rw [← q', fup_s, ← q, up_s, hKi i i0 i1]
                        · have q' : i ≠ 12 * idx (gtM σ P J c (8 * P)).2 (gtM σ P J c (8 * P)).1 (bl P (σ 99) (σ 111) (σ 112) (mtM σ J) f) + idx (gtM σ P J c (8 * P)).2 (gtM σ P J c (8 * P)).1 (bl P (σ 99) (σ 111) (σ 112) (mtM σ J) (f / 8 * 8 + g)) := q
                          rw [fup_o q', up_i q]; exact hKi i i0 i1⟩ (by dsimp only; omega)
                    | exact ihi (g + 1, s2) ⟨by dsimp only; omega, hFi, by
                        dsimp only
                        rw [hws]
                        unfold wcs
                        rw [if_neg (fun w => by
                          obtain ⟨w1, w2, w3, w4, w5, w6⟩ := w
                          have w3 : 0 < σ 116 (8 * f + g) := w3
                          have w4 : 0 ≤ blM σ P J f := w4
                          have w5 : 0 ≤ blM σ P J (f / 8 * 8 + g) := w5
                          have w6 : blM σ P J f ≠ blM σ P J (f / 8 * 8 + g) := w6
                          omega)]
                        exact hKi⟩ (by dsimp only; omega)
                  · try simp only [ne_eq, b2i_e, b2i_1, Classical.not_not] at h79
                    have hc2 := hcf.2 (by omega)
                    refine R_aload rfl rfl rfl ?_
                    refine R_iload rfl rfl ?_
                    have hbo := sp_X10_blowOf d (by omega) xs t dd rr s2 P J hHi (f) ⟨by omega, by omega⟩ (by rw [hsM_fr (hFmi.fn 98 rfl)]; exact hc2.1)
                    rw [blM_fr hFmi] at hbo
                    refine R_invv rfl rfl rfl rfl rfl rfl (hbo) rfl ?_
                    show pCm _ _ _ 87 _ [(0, _)] _
                    refine R_istore rfl rfl ?_
                    show pCm _ _ _ _ [_, _, _, _, _, _, _] _ _
                    refine R_aload rfl rfl rfl ?_
                    refine R_iload rfl rfl ?_
                    refine R_push rfl ?_
                    refine R_dv rfl (by omega) (by omega) (by omega) ?_
                    refine R_push rfl ?_
                    refine R_mul rfl (by omega) (by omega) ?_
                    refine R_iload rfl rfl ?_
                    refine R_add rfl (by omega) (by omega) ?_
                    have hbo := sp_X10_blowOf d (by omega) xs t dd rr s2 P J hHi (f / 8 * 8 + g) ⟨by omega, by omega⟩ (by rw [hsM_fr (hFmi.fn 98 rfl)]; exact hc2.2)
                    rw [blM_fr hFmi] at hbo
                    refine R_invv rfl rfl rfl rfl rfl rfl (hbo) rfl ?_
                    show pCm _ _ _ 102 _ [(0, _)] _
                    refine R_istore rfl rfl ?_
                    show pCm _ _ _ _ [_, _, _, _, _, _, _] _ _
                    refine R_iload rfl rfl ?_
                    refine R_if rfl (fun h106 => ?_) (fun h106 => ?_)
                    · try simp only [ne_eq, b2i_e, b2i_1, Classical.not_not] at h106
                      refine R_inc rfl rfl (by omega) (by omega) ?_
                      show pCm _ _ _ _ [_, _, _, _, _, _, _] _ _
                      refine R_goto rfl ?_
                      refine fgt wc_X10_findWeights [1, 1, 1, 1, 0, 0, 0] ?_
                      first
                      | exact ihi (g + 1, s3) ⟨by dsimp only; omega, by rw [← hs3]; exact hFi.upr rfl, fun i i0 i1 => by
                          dsimp only
                          rw [hws]
                          unfold wcs
                          rw [if_pos ⟨by omega, by omega, by show 0 < σ 116 (8 * f + g); omega, by show 0 ≤ blM σ P J f; omega, by show 0 ≤ blM σ P J (f / 8 * 8 + g); omega, by show blM σ P J f ≠ blM σ P J (f / 8 * 8 + g); omega⟩, ← hs3]
                          by_cases q : i = 12 * idx (gtM σ P J c (8 * P)).2 (gtM σ P J c (8 * P)).1 (blM σ P J f) + idx (gtM σ P J c (8 * P)).2 (gtM σ P J c (8 * P)).1 (blM σ P J (f / 8 * 8 + g))
                          · have q' : i = 12 * idx (gtM σ P J c (8 * P)).2 (gtM σ P J c (8 * P)).1 (bl P (σ 99) (σ 111) (σ 112) (mtM σ J) f) + idx (gtM σ P J c (8 * P)).2 (gtM σ P J c (8 * P)).1 (bl P (σ 99) (σ 111) (σ 112) (mtM σ J) (f / 8 * 8 + g)) := q
                            rw [← q', fup_s, ← q, up_s, hKi i i0 i1]
                          · have q' : i ≠ 12 * idx (gtM σ P J c (8 * P)).2 (gtM σ P J c (8 * P)).1 (bl P (σ 99) (σ 111) (σ 112) (mtM σ J) f) + idx (gtM σ P J c (8 * P)).2 (gtM σ P J c (8 * P)).1 (bl P (σ 99) (σ 111) (σ 112) (mtM σ J) (f / 8 * 8 + g)) := q
                            rw [fup_o q', up_i q]; exact hKi i i0 i1⟩ (by dsimp only; omega)
                      | exact ihi (g + 1, s2) ⟨by dsimp only; omega, hFi, by
                          dsimp only
                          rw [hws]
                          unfold wcs
                          rw [if_neg (fun w => by
                            obtain ⟨w1, w2, w3, w4, w5, w6⟩ := w
                            have w3 : 0 < σ 116 (8 * f + g) := w3
                            have w4 : 0 ≤ blM σ P J f := w4
                            have w5 : 0 ≤ blM σ P J (f / 8 * 8 + g) := w5
                            have w6 : blM σ P J f ≠ blM σ P J (f / 8 * 8 + g) := w6
                            omega)]
                          exact hKi⟩ (by dsimp only; omega)
                    · try simp only [ne_eq, b2i_e, b2i_1, Classical.not_not] at h106
                      refine R_iload rfl rfl ?_
                      refine R_if rfl (fun h111 => ?_) (fun h111 => ?_)
                      · try simp only [ne_eq, b2i_e, b2i_1, Classical.not_not] at h111
                        refine R_inc rfl rfl (by omega) (by omega) ?_
                        show pCm _ _ _ _ [_, _, _, _, _, _, _] _ _
                        refine R_goto rfl ?_
                        refine fgt wc_X10_findWeights [1, 1, 1, 1, 0, 0, 0] ?_
                        first
                        | exact ihi (g + 1, s3) ⟨by dsimp only; omega, by rw [← hs3]; exact hFi.upr rfl, fun i i0 i1 => by
                            dsimp only
                            rw [hws]
                            unfold wcs
                            rw [if_pos ⟨by omega, by omega, by show 0 < σ 116 (8 * f + g); omega, by show 0 ≤ blM σ P J f; omega, by show 0 ≤ blM σ P J (f / 8 * 8 + g); omega, by show blM σ P J f ≠ blM σ P J (f / 8 * 8 + g); omega⟩, ← hs3]
                            by_cases q : i = 12 * idx (gtM σ P J c (8 * P)).2 (gtM σ P J c (8 * P)).1 (blM σ P J f) + idx (gtM σ P J c (8 * P)).2 (gtM σ P J c (8 * P)).1 (blM σ P J (f / 8 * 8 + g))
                            · have q' : i = 12 * idx (gtM σ P J c (8 * P)).2 (gtM σ P J c (8 * P)).1 (bl P (σ 99) (σ 111) (σ 112) (mtM σ J) f) + idx (gtM σ P J c (8 * P)).2 (gtM σ P J c (8 * P)).1 (bl P (σ 99) (σ 111) (σ 112) (mtM σ J) (f / 8 * 8 + g)) := q
                              rw [← q', fup_s, ← q, up_s, hKi i i0 i1]
                            · have q' : i ≠ 12 * idx (gtM σ P J c (8 * P)).2 (gtM σ P J c (8 * P)).1 (bl P (σ 99) (σ 111) (σ 112) (mtM σ J) f) + idx (gtM σ P J c (8 * P)).2 (gtM σ P J c (8 * P)).1 (bl P (σ 99) (σ 111) (σ 112) (mtM σ J) (f / 8 * 8 + g)) := q
                              rw [fup_o q', up_i q]; exact hKi i i0 i1⟩ (by dsimp only; omega)
                        | exact ihi (g + 1, s2) ⟨by dsimp only; omega, hFi, by
                            dsimp only
                            rw [hws]
                            unfold wcs
                            rw [if_neg (fun w => by
                              obtain ⟨w1, w2, w3, w4, w5, w6⟩ := w
                              have w3 : 0 < σ 116 (8 * f + g) := w3
                              have w4 : 0 ≤ blM σ P J f := w4
                              have w5 : 0 ≤ blM σ P J (f / 8 * 8 + g) := w5
                              have w6 : blM σ P J f ≠ blM σ P J (f / 8 * 8 + g) := w6
                              omega)]
                            exact hKi⟩ (by dsimp only; omega)
                      · try simp only [ne_eq, b2i_e, b2i_1, Classical.not_not] at h111
                        refine R_iload rfl rfl ?_
                        refine R_iload rfl rfl ?_
                        refine R_ic rfl (fun h118 => ?_) (fun h118 => ?_)
                        · try simp only [ne_eq, b2i_e, b2i_1, Classical.not_not] at h118
                          refine R_inc rfl rfl (by omega) (by omega) ?_
                          show pCm _ _ _ _ [_, _, _, _, _, _, _] _ _
                          refine R_goto rfl ?_
                          refine fgt wc_X10_findWeights [1, 1, 1, 1, 0, 0, 0] ?_
                          first
                          | exact ihi (g + 1, s3) ⟨by dsimp only; omega, by rw [← hs3]; exact hFi.upr rfl, fun i i0 i1 => by
                              dsimp only
                              rw [hws]
                              unfold wcs
                              rw [if_pos ⟨by omega, by omega, by show 0 < σ 116 (8 * f + g); omega, by show 0 ≤ blM σ P J f; omega, by show 0 ≤ blM σ P J (f / 8 * 8 + g); omega, by show blM σ P J f ≠ blM σ P J (f / 8 * 8 + g); omega⟩, ← hs3]
                              by_cases q : i = 12 * idx (gtM σ P J c (8 * P)).2 (gtM σ P J c (8 * P)).1 (blM σ P J f) + idx (gtM σ P J c (8 * P)).2 (gtM σ P J c (8 * P)).1 (blM σ P J (f / 8 * 8 + g))
                              · have q' : i = 12 * idx (gtM σ P J c (8 * P)).2 (gtM σ P J c (8 * P)).1 (bl P (σ 99) (σ 111) (σ 112) (mtM σ J) f) + idx (gtM σ P J c (8 * P)).2 (gtM σ P J c (8 * P)).1 (bl P (σ 99) (σ 111) (σ 112) (mtM σ J) (f / 8 * 8 + g)) := q
                                rw [← q', fup_s, ← q, up_s, hKi i i0 i1]
                              · have q' : i ≠ 12 * idx (gtM σ P J c (8 * P)).2 (gtM σ P J c (8 * P)).1 (bl P (σ 99) (σ 111) (σ 112) (mtM σ J) f) + idx (gtM σ P J c (8 * P)).2 (gtM σ P J c (8 * P)).1 (bl P (σ 99) (σ 111) (σ 112) (mtM σ J) (f / 8 * 8 + g)) := q
                                rw [fup_o q', up_i q]; exact hKi i i0 i1⟩ (by dsimp only; omega)
                          | exact ihi (g + 1, s2) ⟨by dsimp only; omega, hFi, by
                              dsimp only
                              rw [hws]
                              unfold wcs
                              rw [if_neg (fun w => by
                                obtain ⟨w1, w2, w3, w4, w5, w6⟩ := w
                                have w3 : 0 < σ 116 (8 * f + g) := w3
                                have w4 : 0 ≤ blM σ P J f := w4
                                have w5 : 0 ≤ blM σ P J (f / 8 * 8 + g) := w5
                                have w6 : blM σ P J f ≠ blM σ P J (f / 8 * 8 + g) := w6
                                omega)]
                              exact hKi⟩ (by dsimp only; omega)
                        · try simp only [ne_eq, b2i_e, b2i_1, Classical.not_not] at h118
                          have hia := RM_in hH (c := c) hk0 (by omega) hc2.1 (by omega) (by omega)
                          have hib := RM_in hH (c := c) (f := f / 8 * 8 + g) (by omega) (by omega) hc2.2 (by rw [show (f / 8 * 8 + g) / 8 = f / 8 by omega]; omega) (by omega)
                          have hwi := wsf_ok (R := (gtM σ P J c (8 * P)).2) (T := (gtM σ P J c (8 * P)).1) (P := P) (c := c) (hs := hsM σ) (so := σ 99) (co := σ 111) (who := σ 112) (mt := mtM σ J) (cw := (fun f g => σ 116 (8 * f + g))) (f := f) (B := 120 * f) (RM_hi hH hT12.2 f hk0 (by omega)) (fun g g0 g1 => (hcut f g hk0 (by omega) g0 g1).1.2) hwo g.toNat (by omega)
                          rw [Int.toNat_of_nonneg hg0] at hwi
                          have hwe := WB_e hwi (k := idx (gtM σ P J c (8 * P)).2 (gtM σ P J c (8 * P)).1 (blM σ P J f)) (j := idx (gtM σ P J c (8 * P)).2 (gtM σ P J c (8 * P)).1 (blM σ P J (f / 8 * 8 + g))) ⟨by omega, by omega⟩ ⟨by omega, by omega⟩
                          rw [← hKi _ (by omega) (by omega)] at hwe
                          refine R_aload rfl rfl rfl ?_
                          refine T_getr (v := 131) rfl rfl rfl rfl ?_
                          refine R_push rfl ?_
                          refine R_aload rfl rfl rfl ?_
                          refine R_iload rfl rfl ?_
                          have hix := sp_X10_indexOf d (by omega) xs t dd rr s2 (blM σ P J (f)) (gtM σ P J c (8 * P)).2 (gtM σ P J c (8 * P)).1 hRi.1 ⟨by omega, by omega⟩ hRi.2.2
                          refine R_invv rfl rfl rfl rfl rfl rfl (hix) rfl ?_
                          show pCm _ _ _ 133 _ [(0, _), (0, _), (131, 0)] _
                          refine R_mul rfl (by omega) (by omega) ?_
                          refine R_aload rfl rfl rfl ?_
                          refine R_iload rfl rfl ?_
                          have hix := sp_X10_indexOf d (by omega) xs t dd rr s2 (blM σ P J (f / 8 * 8 + g)) (gtM σ P J c (8 * P)).2 (gtM σ P J c (8 * P)).1 hRi.1 ⟨by omega, by omega⟩ hRi.2.2
                          refine R_invv rfl rfl rfl rfl rfl rfl (hix) rfl ?_
                          show pCm _ _ _ 140 _ [(0, _), (0, _), (131, 0)] _
                          refine R_add rfl (by omega) (by omega) ?_
                          refine R_dup2 rfl rfl rfl ?_
                          refine T_ald rfl rfl (by omega) (by omega) ?_
                          refine R_iload rfl rfl ?_
                          refine R_add rfl (by omega) (by omega) ?_
                          refine T_iast rfl rfl (by omega) (by omega) ?_
                          generalize hs3 : up2 s2 115 _ _ = s3
                          refine R_inc rfl rfl (by omega) (by omega) ?_
                          show pCm _ _ _ _ [_, _, _, _, _, _, _] _ _
                          refine R_goto rfl ?_
                          refine fgt wc_X10_findWeights [1, 1, 1, 1, 0, 0, 0] ?_
                          first
                          | exact ihi (g + 1, s3) ⟨by dsimp only; omega, by rw [← hs3]; exact hFi.upr rfl, fun i i0 i1 => by
                              dsimp only
                              rw [hws]
                              unfold wcs
                              rw [if_pos ⟨by omega, by omega, by show 0 < σ 116 (8 * f + g); omega, by show 0 ≤ blM σ P J f; omega, by show 0 ≤ blM σ P J (f / 8 * 8 + g); omega, by show blM σ P J f ≠ blM σ P J (f / 8 * 8 + g); omega⟩, ← hs3]
                              by_cases q : i = 12 * idx (gtM σ P J c (8 * P)).2 (gtM σ P J c (8 * P)).1 (blM σ P J f) + idx (gtM σ P J c (8 * P)).2 (gtM σ P J c (8 * P)).1 (blM σ P J (f / 8 * 8 + g))
                              · have q' : i = 12 * idx (gtM σ P J c (8 * P)).2 (gtM σ P J c (8 * P)).1 (bl P (σ 99) (σ 111) (σ 112) (mtM σ J) f) + idx (gtM σ P J c (8 * P)).2 (gtM σ P J c (8 * P)).1 (bl P (σ 99) (σ 111) (σ 112) (mtM σ J) (f / 8 * 8 + g)) := q
                                rw [← q', fup_s, ← q, up_s, hKi i i0 i1]
                              · have q' : i ≠ 12 * idx (gtM σ P J c (8 * P)).2 (gtM σ P J c (8 * P)).1 (bl P (σ 99) (σ 111) (σ 112) (mtM σ J) f) + idx (gtM σ P J c (8 * P)).2 (gtM σ P J c (8 * P)).1 (bl P (σ 99) (σ 111) (σ 112) (mtM σ J) (f / 8 * 8 + g)) := q
                                rw [fup_o q', up_i q]; exact hKi i i0 i1⟩ (by dsimp only; omega)
                          | exact ihi (g + 1, s2) ⟨by dsimp only; omega, hFi, by
                              dsimp only
                              rw [hws]
                              unfold wcs
                              rw [if_neg (fun w => by
                                obtain ⟨w1, w2, w3, w4, w5, w6⟩ := w
                                have w3 : 0 < σ 116 (8 * f + g) := w3
                                have w4 : 0 ≤ blM σ P J f := w4
                                have w5 : 0 ≤ blM σ P J (f / 8 * 8 + g) := w5
                                have w6 : blM σ P J f ≠ blM σ P J (f / 8 * 8 + g) := w6
                                omega)]
                              exact hKi⟩ (by dsimp only; omega)
          · exact ⟨by dsimp only; omega, hF, hK⟩
      · exact ⟨⟨Int.le_refl _, by dsimp only; omega⟩, F0, fun i i0 i1 => hv i i0 (by omega)⟩
    · try simp only [ne_eq, b2i_e, b2i_1, Classical.not_not] at h6
      refine R_aload rfl rfl rfl ?_
      refine T_getr (v := 131) rfl rfl rfl rfl ?_
      refine R_iload rfl rfl ?_
      refine R_push rfl ?_
      refine T_iast rfl rfl (by omega) (by omega) ?_
      refine R_inc rfl rfl (by omega) (by omega) ?_
      show pCm _ _ _ _ [_, _, _, _, _, _, _] _ _
      refine R_goto rfl ?_
      generalize hs3 : up2 s0 115 k _ = s3
      refine fgt wc_X10_findWeights [1, 1, 1, 0, 0, 0, 0] ?_
      refine ih (k + 1, s3) ⟨by dsimp only; omega, by rw [← hs3]; exact F0.upr rfl, fun i i0 i1 => ?_⟩ (by dsimp only; omega)
      dsimp only at i1 ⊢
      rw [← hs3]
      by_cases q : i = k
      · rw [q, up_s]
      · rw [up_i q]; exact hv i i0 (by omega)
  · exact ⟨by dsimp only; omega, Fr.rf, fun i i0 i1 => by dsimp only at i1; omega⟩

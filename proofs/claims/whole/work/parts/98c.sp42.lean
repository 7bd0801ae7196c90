theorem nib_le {x k : Int} (hk : 0 ≤ k ∧ k < 8) : 0 ≤ nib x k ∧ nib x k ≤ 15 := by
  obtain ⟨k', rfl⟩ : ∃ n : Nat, k = n := ⟨k.toNat, by omega⟩
  rw [nib_eq (by omega)]
  have h : ((((i32 x).toBitVec >>> (4 * k')) &&& 15#32).toNat) ≤ 15 := by
    rw [BitVec.toNat_and]
    exact Nat.and_le_right
  rw [BitVec.toInt_eq_toNat_of_lt (by omega)]
  omega
theorem RG_hi {σ : Sg} {P J c : Int} (hH : BH σ P J) (hT : (gtS σ P J c (8 * P)).1 ≤ 12) : ∀ f, 0 ≤ f → f < 8 * P → ∀ g, 0 ≤ g → g < 8 → hsS σ f = 1 → σ 29 (f / 8) = c → 0 < nib (σ 18 f) g → 0 ≤ bl P (σ 14) (σ 29) (σ 30) (mtS σ J) f → 0 ≤ bl P (σ 14) (σ 29) (σ 30) (mtS σ J) (f / 8 * 8 + g) → (0 ≤ idx (gtS σ P J c (8 * P)).2 (gtS σ P J c (8 * P)).1 (bl P (σ 14) (σ 29) (σ 30) (mtS σ J) f) ∧ idx (gtS σ P J c (8 * P)).2 (gtS σ P J c (8 * P)).1 (bl P (σ 14) (σ 29) (σ 30) (mtS σ J) f) < 12) ∧ 0 ≤ idx (gtS σ P J c (8 * P)).2 (gtS σ P J c (8 * P)).1 (bl P (σ 14) (σ 29) (σ 30) (mtS σ J) (f / 8 * 8 + g)) ∧ idx (gtS σ P J c (8 * P)).2 (gtS σ P J c (8 * P)).1 (bl P (σ 14) (σ 29) (σ 30) (mtS σ J) (f / 8 * 8 + g)) < 12 := by
  intro f f0 f1 g g0 g1 hf hc hw b1 b2
  have h := hH.2.2.2.2 f g f0 f1 g0 g1 hw
  have e1 : 0 ≤ idx (gtS σ P J c (8 * P)).2 (gtS σ P J c (8 * P)).1 (bl P (σ 14) (σ 29) (σ 30) (mtS σ J) f) ∧ idx (gtS σ P J c (8 * P)).2 (gtS σ P J c (8 * P)).1 (bl P (σ 14) (σ 29) (σ 30) (mtS σ J) f) < (gtS σ P J c (8 * P)).1 := RG_in hH f0 f1 hf hc b1
  have e2 : 0 ≤ idx (gtS σ P J c (8 * P)).2 (gtS σ P J c (8 * P)).1 (bl P (σ 14) (σ 29) (σ 30) (mtS σ J) (f / 8 * 8 + g)) ∧ idx (gtS σ P J c (8 * P)).2 (gtS σ P J c (8 * P)).1 (bl P (σ 14) (σ 29) (σ 30) (mtS σ J) (f / 8 * 8 + g)) < (gtS σ P J c (8 * P)).1 := RG_in hH (by omega) (by omega) h.2 (by rw [show (f / 8 * 8 + g) / 8 = f / 8 by omega]; exact hc) b2
  exact ⟨⟨e1.1, by omega⟩, e2.1, by omega⟩
theorem bx_orl {a b j : Int} (hj : 0 ≤ j ∧ j < 12) (h : bx a j = 1) : bx (pOr a b) j = 1 := by rw [bx_or hj, if_pos (Or.inl h)]
theorem bx_ors {a k : Int} (hk : 0 ≤ k ∧ k < 12) : bx (pOr a (pShl 1 k)) k = 1 := by rw [bx_or hk, if_pos (Or.inr (by rw [bx_shl hk hk, if_pos rfl]))]
/-- rows of cuts as they are told -/
def KC (s : Sg) (U : Int → Int) : Prop := (∀ i, 0 ≤ i → i < 144 → s 60 i = U i) ∧ ∀ k j, 0 ≤ k → k < 12 → 0 ≤ j → j < 12 → U (12 * k + j) ≠ 0 → bx (s 61 k) j = 1
theorem KC_up {s s' : Sg} {U : Int → Int} {a b w : Int} (h : KC s U) (ha : 0 ≤ a ∧ a < 12) (hb : 0 ≤ b ∧ b < 12) (hs : s' = up2 (up2 s 60 (12 * a + b) (s 60 (12 * a + b) + w)) 61 a (pOr (s 61 a) (pShl 1 b))) : KC s' (fup U (12 * a + b) (U (12 * a + b) + w)) := by
  have e60 : ∀ i, s' 60 i = if i = 12 * a + b then s 60 (12 * a + b) + w else s 60 i := fun i => by rw [hs]; simp [up2]
  have e61 : ∀ i, s' 61 i = if i = a then pOr (s 61 a) (pShl 1 b) else s 61 i := fun i => by rw [hs]; simp [up2]
  refine ⟨fun i i0 i1 => ?_, fun k j k0 k1 j0 j1 hn => ?_⟩
  · rw [e60]
    unfold fup
    split
    · rw [h.1 _ (by omega) (by omega)]
    · exact h.1 i i0 i1
  · rw [e61]
    by_cases q : k = a
    · rw [if_pos q]
      by_cases z : j = b
      · rw [z]; exact bx_ors hb
      · rw [fup_o (by omega)] at hn
        rw [← q]
        exact bx_orl ⟨j0, j1⟩ (h.2 k j k0 k1 j0 j1 hn)
    · rw [if_neg q]
      rw [fup_o (by omega)] at hn
      exact h.2 k j k0 k1 j0 j1 hn
set_option maxRecDepth 20000 in
set_option maxHeartbeats 2000000 in
theorem sp_X0_tellCuts (d : Nat) (hd : 4 ≤ d) (xs : List (Nat × Nat)) (t dd rr : Nat) (σ s : Sg) (c : Int) (P J : Int) (hH : BH σ P J) (hFb0 : Fb σ s) (hR0 : RG s σ P J c) : ∃ σ', Ev d 145 [(73, 0), (0, c)] (Wd xs t dd rr s) (8, 0) (Wd xs t dd rr σ') ∧ Fr [60, 61] [] s σ' ∧ KC σ' (wgt (gtS σ P J c (8 * P)).2 (gtS σ P J c (8 * P)).1 P c (hsS σ) (σ 14) (σ 29) (σ 30) (mtS σ J) (fun f g => nib (σ 18 f) g) (8 * P)) := by
  obtain ⟨d, rfl⟩ : ∃ e, d = e + 1 := ⟨d - 1, by omega⟩
  obtain ⟨⟨hP, hJ, h0, hJ0, hJB⟩, hHH, h32, h17, hcut⟩ := id hH
  have hTb := hR0.2.1
  refine evS (nL := 5) (code := k_X0_tellCuts) rfl dc_X0_tellCuts rfl (fun E hE => ?_)
  show pCm (Ev d) k_X0_tellCuts E 0 [(73, 0), (0, c), (9, 0), (9, 0), (9, 0)] [] _
  refine R_push rfl ?_
  refine R_istore rfl rfl ?_
  refine fgt wc_X0_tellCuts [1, 1, 1, 0, 0] ?_
  refine loop (pc := 2) (α := Int × Sg) (fun x => (12 - x.1).toNat) (fun x => ([(73, 0), (0, c), (0, x.1), (9, 0), (9, 0)], Wd xs t dd rr x.2)) (fun x => (0 ≤ x.1 ∧ x.1 ≤ 12) ∧ Fr [60, 61] [] s x.2 ∧ ∀ i, 0 ≤ i → i < x.1 → x.2 61 i = 0) ?_ (0, s) ?_
  · intro ⟨k, s0⟩ ⟨hk, F0, hv⟩ ih
    dsimp only at hk F0 hv ⊢
    refine R_iload rfl rfl ?_
    refine R_push rfl ?_
    refine R_ic rfl (fun h5 => ?_) (fun h5 => ?_)
    · try simp only [ne_eq, b2i_e, b2i_1, Classical.not_not] at h5
      refine R_push rfl ?_
      refine R_istore rfl rfl ?_
      refine fgt wc_X0_tellCuts [1, 1, 1, 0, 0] ?_
      refine loop (pc := 23) (α := Int × Sg) (fun x => (144 - x.1).toNat) (fun x => ([(73, 0), (0, c), (0, x.1), (9, 0), (9, 0)], Wd xs t dd rr x.2)) (fun x => (0 ≤ x.1 ∧ x.1 ≤ 144) ∧ Fr [60, 61] [] s x.2 ∧ ∀ i, 0 ≤ i → i < x.1 → x.2 60 i = 0) ?_ (0, s0) ?_
      · clear ih hv
        intro ⟨k, s0⟩ ⟨hk, F0, hv⟩ ih
        dsimp only at hk F0 hv ⊢
        refine R_iload rfl rfl ?_
        refine R_push rfl ?_
        refine R_ic rfl (fun h27 => ?_) (fun h27 => ?_)
        · try simp only [ne_eq, b2i_e, b2i_1, Classical.not_not] at h27
          refine R_push rfl ?_
          refine R_istore rfl rfl ?_
          refine fgt wc_X0_tellCuts [1, 1, 1, 0, 0] ?_
          refine loop (pc := 45) (α := Int × Sg) (fun x => (8 * P - x.1).toNat) (fun x => ([(73, 0), (0, c), (0, x.1), (9, 0), (9, 0)], Wd xs t dd rr x.2)) (fun x => (0 ≤ x.1 ∧ x.1 ≤ 8 * P) ∧ Fr [60, 61] [] s x.2 ∧ KC x.2 (wgt (gtS σ P J c (8 * P)).2 (gtS σ P J c (8 * P)).1 P c (hsS σ) (σ 14) (σ 29) (σ 30) (mtS σ J) (fun f g => nib (σ 18 f) g) x.1)) ?_ (0, s0) ?_
          · clear ih
            intro ⟨f, s1⟩ ⟨⟨hk0, hk1⟩, hF, hK⟩ ih
            dsimp only at hk0 hk1 hF hK ⊢
            have hFb : Fb σ s1 := hFb0.tr hF rfl rfl
            have e1 := hFb.row 1 rfl 0
            have e14 := hFb.row 14 rfl f
            have hgs : wgt (gtS σ P J c (8 * P)).2 (gtS σ P J c (8 * P)).1 P c (hsS σ) (σ 14) (σ 29) (σ 30) (mtS σ J) (fun f g => nib (σ 18 f) g) (f + 1) = _ := wgt_s hk0
            have hwo := wgt_ok (R := (gtS σ P J c (8 * P)).2) (T := (gtS σ P J c (8 * P)).1) (P := P) (c := c) (hs := hsS σ) (so := σ 14) (co := σ 29) (who := σ 30) (mt := mtS σ J) (cw := (fun f g => nib (σ 18 f) g)) h0 (RG_hi hH hTb.2) (fun f _ _ g g0 g1 => (nib_le ⟨g0, g1⟩).2) f.toNat (by omega)
            rw [Int.toNat_of_nonneg hk0] at hwo
            refine R_iload rfl rfl ?_
            refine R_aload rfl rfl rfl ?_
            refine T_getr (v := 17) rfl rfl rfl rfl ?_
            refine T_geti rfl rfl rfl ?_
            refine R_push rfl ?_
            refine R_mul rfl (by omega) (by omega) ?_
            refine R_ic rfl (fun h56 => ?_) (fun h56 => ?_)
            · try simp only [ne_eq, b2i_e, b2i_1, Classical.not_not] at h56
              refine R_vret rfl ?_
              exact hE _ _ rfl ⟨hF, by
                have e : f = 8 * P := by omega
                rw [e] at hK
                exact hK⟩
            · try simp only [ne_eq, b2i_e, b2i_1, Classical.not_not] at h56
              refine R_aload rfl rfl rfl ?_
              refine R_iload rfl rfl ?_
              refine R_iload rfl rfl ?_
              have hfo := sp_X0_isFaceOf d (by omega) xs t dd rr s1 c P J (BH_fr hH hFb) f ⟨by omega, by omega⟩
              rw [hsS_fr (hFb.fn 13 rfl), hFb.row 29 rfl] at hfo
              refine R_invv rfl rfl rfl rfl rfl rfl (hfo) rfl ?_
              show pCm _ _ _ 65 _ [(0, _)] _
              refine R_if rfl (fun h65 => ?_) (fun h65 => ?_)
              · try simp only [ne_eq, b2i_e, b2i_1, Classical.not_not] at h65
                refine R_inc rfl rfl (by omega) (by omega) ?_
                refine R_goto rfl ?_
                refine fgt wc_X0_tellCuts [1, 1, 1, 0, 0] ?_
                first
                | (have hg8 : g = 8 := by omega
                   rw [hg8] at hKi
                   exact ih (f + 1, s2) ⟨by dsimp only; omega, hFi, by dsimp only; rw [hgs]; exact hKi⟩ (by dsimp only; omega))
                | exact ih (f + 1, s1) ⟨by dsimp only; omega, hF, by
                    dsimp only
                    rw [hgs, wsf_skip8 (fun w => by
                      have w3 := w.2.2
                      rw [bl_e] at w3
                      by_cases z : σ 14 f = 0 ∧ 2 ≤ mny (σ 29) P (σ 29 (f / 8))
                      · omega
                      · rw [if_neg z] at w3; omega)]
                    exact hK⟩ (by dsimp only; omega)
              · try simp only [ne_eq, b2i_e, b2i_1, Classical.not_not] at h65
                refine R_aload rfl rfl rfl ?_
                refine T_getr (v := 28) rfl rfl rfl rfl ?_
                refine T_getr (v := 30) rfl rfl rfl rfl ?_
                refine R_iload rfl rfl ?_
                refine T_ald rfl rfl (by omega) (by omega) ?_
                refine R_if rfl (fun h77 => ?_) (fun h77 => ?_)
                · try simp only [ne_eq, b2i_e, b2i_1, Classical.not_not] at h77
                  refine R_push rfl ?_
                  refine R_istore rfl rfl ?_
                  refine fgt wc_X0_tellCuts [1, 1, 1, 1, 0] ?_
                  refine loop (pc := 85) (α := Int × Sg) (fun x => (8 - x.1).toNat) (fun x => ([(73, 0), (0, c), (0, f), (0, x.1), (9, 0)], Wd xs t dd rr x.2)) (fun x => (0 ≤ x.1 ∧ x.1 ≤ 8) ∧ Fr [60, 61] [] s x.2 ∧ KC x.2 (wsf (gtS σ P J c (8 * P)).2 (gtS σ P J c (8 * P)).1 P c (hsS σ) (σ 14) (σ 29) (σ 30) (mtS σ J) (fun f g => nib (σ 18 f) g) f x.1 (wgt (gtS σ P J c (8 * P)).2 (gtS σ P J c (8 * P)).1 P c (hsS σ) (σ 14) (σ 29) (σ 30) (mtS σ J) (fun f g => nib (σ 18 f) g) f))) ?_ (0, s1) ?_
                  · intro ⟨g, s2⟩ ⟨⟨hg0, hg1⟩, hFi, hKi⟩ ihi
                    dsimp only at hg0 hg1 hFi hKi ⊢
                    have hFbi : Fb σ s2 := hFb0.tr hFi rfl rfl
                    have hRi : RG s2 σ P J c := RT_fr hR0 (hFi.row 57 rfl 5) (hFi.fn 58 rfl)
                    have hws : wsf (gtS σ P J c (8 * P)).2 (gtS σ P J c (8 * P)).1 P c (hsS σ) (σ 14) (σ 29) (σ 30) (mtS σ J) (fun f g => nib (σ 18 f) g) f (g + 1) (wgt (gtS σ P J c (8 * P)).2 (gtS σ P J c (8 * P)).1 P c (hsS σ) (σ 14) (σ 29) (σ 30) (mtS σ J) (fun f g => nib (σ 18 f) g) f) = _ := wsf_s hg0
                    have hwi := wsf_ok (R := (gtS σ P J c (8 * P)).2) (T := (gtS σ P J c (8 * P)).1) (P := P) (c := c) (hs := hsS σ) (so := σ 14) (co := σ 29) (who := σ 30) (mt := mtS σ J) (cw := (fun f g => nib (σ 18 f) g)) (f := f) (B := 120 * f) (RG_hi hH hTb.2 f hk0 (by omega)) (fun g g0 g1 => (nib_le ⟨g0, g1⟩).2) hwo g.toNat (by omega)
                    rw [Int.toNat_of_nonneg hg0] at hwi
                    have hnb : g < 8 → _ := fun w => nib_le (x := σ 18 f) ⟨hg0, w⟩
                    have hsk : ¬ (0 < nib (σ 18 f) g) → wcs (gtS σ P J c (8 * P)).2 (gtS σ P J c (8 * P)).1 P c (hsS σ) (σ 14) (σ 29) (σ 30) (mtS σ J) (fun f g => nib (σ 18 f) g) f g (wsf (gtS σ P J c (8 * P)).2 (gtS σ P J c (8 * P)).1 P c (hsS σ) (σ 14) (σ 29) (σ 30) (mtS σ J) (fun f g => nib (σ 18 f) g) f g (wgt (gtS σ P J c (8 * P)).2 (gtS σ P J c (8 * P)).1 P c (hsS σ) (σ 14) (σ 29) (σ 30) (mtS σ J) (fun f g => nib (σ 18 f) g) f)) = wsf (gtS σ P J c (8 * P)).2 (gtS σ P J c (8 * P)).1 P c (hsS σ) (σ 14) (σ 29) (σ 30) (mtS σ J) (fun f g => nib (σ 18 f) g) f g (wgt (gtS σ P J c (8 * P)).2 (gtS σ P J c (8 * P)).1 P c (hsS σ) (σ 14) (σ 29) (σ 30) (mtS σ J) (fun f g => nib (σ 18 f) g) f) := fun w => by
                      unfold wcs
                      rw [if_neg (fun q => w q.2.2.1)]
                    refine R_iload rfl rfl ?_
                    refine R_push rfl ?_
                    refine R_ic rfl (fun h88 => ?_) (fun h88 => ?_)
                    · try simp only [ne_eq, b2i_e, b2i_1, Classical.not_not] at h88
                      refine R_inc rfl rfl (by omega) (by omega) ?_
                      refine R_goto rfl ?_
                      refine fgt wc_X0_tellCuts [1, 1, 1, 0, 0] ?_
                      first
                      | (have hg8 : g = 8 := by omega
                         rw [hg8] at hKi
                         exact ih (f + 1, s2) ⟨by dsimp only; omega, hFi, by dsimp only; rw [hgs]; exact hKi⟩ (by dsimp only; omega))
                      | exact ih (f + 1, s1) ⟨by dsimp only; omega, hF, by
                          dsimp only
                          rw [hgs, wsf_skip8 (fun w => by
                            have w3 := w.2.2
                            rw [bl_e] at w3
                            by_cases z : σ 14 f = 0 ∧ 2 ≤ mny (σ 29) P (σ 29 (f / 8))
                            · omega
                            · rw [if_neg z] at w3; omega)]
                          exact hK⟩ (by dsimp only; omega)
                    · try simp only [ne_eq, b2i_e, b2i_1, Classical.not_not] at h88
                      refine R_aload rfl rfl rfl ?_
                      refine T_getr (v := 28) rfl rfl rfl rfl ?_
                      refine R_iload rfl rfl ?_
                      refine R_iload rfl rfl ?_
                      have hcu := sp_X1_cutWeight d (by omega) xs t dd rr s2 f g ⟨by omega, by omega⟩ ⟨by omega, by omega⟩
                      rw [hFbi.row 18 rfl] at hcu
                      refine R_invv rfl rfl rfl rfl rfl rfl (hcu) rfl ?_
                      show pCm _ _ _ 100 _ [(0, _)] _
                      refine R_istore rfl rfl ?_
                      refine R_iload rfl rfl ?_
                      refine R_if rfl (fun h104 => ?_) (fun h104 => ?_)
                      · try simp only [ne_eq, b2i_e, b2i_1, Classical.not_not] at h104
                        refine R_inc rfl rfl (by omega) (by omega) ?_
                        refine R_goto rfl ?_
                        refine fgt wc_X0_tellCuts [1, 1, 1, 1, 0] ?_
                        first
                        | exact ihi (g + 1, s3) ⟨by dsimp only; omega, hF3, hK3⟩ (by dsimp only; omega)
                        | exact ihi (g + 1, s2) ⟨by dsimp only; omega, hFi, by dsimp only; rw [hws, hsk (by omega)]; exact hKi⟩ (by dsimp only; omega)
                      · try simp only [ne_eq, b2i_e, b2i_1, Classical.not_not] at h104
                        refine R_aload rfl rfl rfl ?_
                        refine R_iload rfl rfl ?_
                        refine R_iload rfl rfl ?_
                        refine R_iload rfl rfl ?_
                        refine R_push rfl ?_
                        refine R_rm rfl (by omega) (by omega) (by omega) ?_
                        refine R_sub rfl (by omega) (by omega) ?_
                        refine R_iload rfl rfl ?_
                        refine R_add rfl (by omega) (by omega) ?_
                        refine R_iload rfl rfl ?_
                        have hcw := hcut f g hk0 (by omega) hg0 (by omega) (by omega)
                        have hdv : (f / 8 * 8 + g) / 8 = f / 8 := by omega
                        obtain ⟨s3, hev, hs3⟩ := sp_X0_addCut d (by omega) xs t dd rr σ s2 c f (f / 8 * 8 + g) (nib (σ 18 f) g) P J hH hFbi hRi ⟨by omega, by omega⟩ ⟨by omega, by omega⟩ hcw.1 hcw.2 (by omega) (by rw [hdv]; omega) (hnb (by omega)) (fun i i0 i1 => by
                          rw [hKi.1 i i0 i1]
                          have := WB_e hwi (k := i / 12) (j := i % 12) ⟨by omega, by omega⟩ ⟨by omega, by omega⟩
                          rw [show 12 * (i / 12) + i % 12 = i by omega] at this
                          omega)
                        have hF3 : Fr [60, 61] [] s s3 := by
                          rw [hs3]
                          split
                          · exact (hFi.upr rfl).upr rfl
                          · exact hFi
                        have hK3 : KC s3 (wsf (gtS σ P J c (8 * P)).2 (gtS σ P J c (8 * P)).1 P c (hsS σ) (σ 14) (σ 29) (σ 30) (mtS σ J) (fun f g => nib (σ 18 f) g) f (g + 1) (wgt (gtS σ P J c (8 * P)).2 (gtS σ P J c (8 * P)).1 P c (hsS σ) (σ 14) (σ 29) (σ 30) (mtS σ J) (fun f g => nib (σ 18 f) g) f)) := by
                          rw [hws]
                          unfold wcs
                          by_cases q : 0 ≤ blS σ P J f ∧ 0 ≤ blS σ P J (f / 8 * 8 + g) ∧ blS σ P J f ≠ blS σ P J (f / 8 * 8 + g)
                          · rw [if_pos q] at hs3
                            rw [if_pos ⟨hcw.1, by omega, by show 0 < nib (σ 18 f) g; omega, q.1, q.2⟩]
                            have hh := RG_hi hH hTb.2 f hk0 (by omega) g hg0 (by omega) hcw.1 (by omega) (by omega) q.1 q.2.1
                            exact KC_up hKi hh.1 hh.2 hs3
                          · rw [if_neg q] at hs3
                            rw [if_neg (fun w => q w.2.2.2), hs3]
                            exact hKi
                        rw [show f - f % 8 + g = f / 8 * 8 + g by omega]
                        refine R_invv rfl rfl rfl rfl rfl rfl (hev) rfl ?_
                        show pCm _ _ _ 122 _ [] _
                        refine R_inc rfl rfl (by omega) (by omega) ?_
                        refine R_goto rfl ?_
                        refine fgt wc_X0_tellCuts [1, 1, 1, 1, 0] ?_
                        first
                        | exact ihi (g + 1, s3) ⟨by dsimp only; omega, hF3, hK3⟩ (by dsimp only; omega)
                        | exact ihi (g + 1, s2) ⟨by dsimp only; omega, hFi, by dsimp only; rw [hws, hsk (by omega)]; exact hKi⟩ (by dsimp only; omega)
                  · exact ⟨by dsimp only; omega, hF, hK⟩
                · try simp only [ne_eq, b2i_e, b2i_1, Classical.not_not] at h77
                  refine R_goto rfl ?_
                  refine R_inc rfl rfl (by omega) (by omega) ?_
                  refine R_goto rfl ?_
                  refine fgt wc_X0_tellCuts [1, 1, 1, 0, 0] ?_
                  first
                  | (have hg8 : g = 8 := by omega
                     rw [hg8] at hKi
                     exact ih (f + 1, s2) ⟨by dsimp only; omega, hFi, by dsimp only; rw [hgs]; exact hKi⟩ (by dsimp only; omega))
                  | exact ih (f + 1, s1) ⟨by dsimp only; omega, hF, by
                      dsimp only
                      rw [hgs, wsf_skip8 (fun w => by
                        have w3 := w.2.2
                        rw [bl_e] at w3
                        by_cases z : σ 14 f = 0 ∧ 2 ≤ mny (σ 29) P (σ 29 (f / 8))
                        · omega
                        · rw [if_neg z] at w3; omega)]
                      exact hK⟩ (by dsimp only; omega)
          · exact ⟨⟨Int.le_refl _, by dsimp only; omega⟩, F0, fun i i0 i1 => hv i i0 (by omega), fun k j _ _ _ _ hn => absurd rfl hn⟩
        · try simp only [ne_eq, b2i_e, b2i_1, Classical.not_not] at h27
          refine R_aload rfl rfl rfl ?_
          refine T_getr (v := 76) rfl rfl rfl rfl ?_
          refine R_iload rfl rfl ?_
          refine R_push rfl ?_
          refine T_iast rfl rfl (by omega) (by omega) ?_
          refine R_inc rfl rfl (by omega) (by omega) ?_
          refine R_goto rfl ?_
          generalize hs3 : up2 s0 60 k _ = s3
          refine fgt wc_X0_tellCuts [1, 1, 1, 0, 0] ?_
          refine ih (k + 1, s3) ⟨by dsimp only; omega, by rw [← hs3]; exact F0.upr rfl, fun i i0 i1 => ?_⟩ (by dsimp only; omega)
          dsimp only at i1 ⊢
          rw [← hs3]
          by_cases q : i = k
          · rw [q, up_s]
          · rw [up_i q]; exact hv i i0 (by omega)
      · exact ⟨by dsimp only; omega, F0, fun i i0 i1 => by dsimp only at i1; omega⟩
    · try simp only [ne_eq, b2i_e, b2i_1, Classical.not_not] at h5
      refine R_aload rfl rfl rfl ?_
      refine T_getr (v := 77) rfl rfl rfl rfl ?_
      refine R_iload rfl rfl ?_
      refine R_push rfl ?_
      refine T_iast rfl rfl (by omega) (by omega) ?_
      refine R_inc rfl rfl (by omega) (by omega) ?_
      refine R_goto rfl ?_
      generalize hs3 : up2 s0 61 k _ = s3
      refine fgt wc_X0_tellCuts [1, 1, 1, 0, 0] ?_
      refine ih (k + 1, s3) ⟨by dsimp only; omega, by rw [← hs3]; exact F0.upr rfl, fun i i0 i1 => ?_⟩ (by dsimp only; omega)
      dsimp only at i1 ⊢
      rw [← hs3]
      by_cases q : i = k
      · rw [q, up_s]
      · rw [up_i q]; exact hv i i0 (by omega)
  · exact ⟨by dsimp only; omega, Fr.rf, fun i i0 i1 => by dsimp only at i1; omega⟩

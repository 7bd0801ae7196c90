theorem or_0 (x : Int32) : pOr x.toInt 0 = x.toInt := by
  unfold pOr
  rw [i32_ti]
  congr 1
  apply Int32.toBitVec_inj.mp
  rw [Int32.toBitVec_or, show (i32 0).toBitVec = 0#32 from rfl, BitVec.or_zero]
theorem srf_or {R : Int → Int} {T P : Int} {hs so co who mt : Int → Int} {k : Int} : ∀ n : Nat, pOr (srf R T P hs so co who mt k n) 0 = srf R T P hs so co who mt k n := by
  intro n
  induction n with
  | zero => exact or_0 0
  | succ n ih =>
    have e : srf R T P hs so co who mt k ((n + 1 : Nat) : Int) = _ := srf_s (n := n) (by omega)
    rw [e]
    split
    · exact or_0 _
    · exact ih
/-- the reference's blows of the cobble c are told -/
def RM (s σ : Sg) (P J c : Int) : Prop := s 71 55 = (gtM σ P J c (8 * P)).1 ∧ (0 ≤ (gtM σ P J c (8 * P)).1 ∧ (gtM σ P J c (8 * P)).1 ≤ 12) ∧ ∀ i, 0 ≤ i → i < (gtM σ P J c (8 * P)).1 → s 113 i = (gtM σ P J c (8 * P)).2 i
theorem RM_fr {s s' σ : Sg} {P J c : Int} (h : RM s σ P J c) (h5 : s' 71 55 = s 71 55) (hr : s' 113 = s 113) : RM s' σ P J c := by
  unfold RM; rw [h5, hr]; exact h
set_option maxRecDepth 20000 in
set_option maxHeartbeats 2000000 in
theorem sp_X10_findSure (d : Nat) (hd : 4 ≤ d) (xs : List (Nat × Nat)) (t dd rr : Nat) (σ s : Sg) (c P J : Int) (hH : MH σ P J) (hFm0 : Fm σ s) (hR0 : RM s σ P J c) : ∃ σ', Ev d 97 [(87, 0)] (Wd xs t dd rr s) (8, 0) (Wd xs t dd rr σ') ∧ Fr [114] [] s σ' ∧ ∀ k, 0 ≤ k → k < (gtM σ P J c (8 * P)).1 → σ' 114 k = sur (gtM σ P J c (8 * P)).2 (gtM σ P J c (8 * P)).1 P (hsM σ) (σ 99) (σ 111) (σ 112) (mtM σ J) k := by
  obtain ⟨d, rfl⟩ : ∃ e, d = e + 1 := ⟨d - 1, by omega⟩
  obtain ⟨⟨hP, hJ, h0, hJ0, hJB⟩, hHH, hcut, hHJ⟩ := id hH
  obtain ⟨hR1, hT12, hR3⟩ := id hR0
  refine evS (nL := 4) (code := k_X10_findSure) rfl dc_X10_findSure rfl (fun E hE => ?_)
  show pCm (Ev d) k_X10_findSure E 0 [(87, 0), (9, 0), (9, 0), (9, 0)] [] _
  refine R_push rfl ?_
  refine R_istore rfl rfl ?_
  refine fgt wc_X10_findSure [1, 1, 0, 0] ?_
  refine loop (pc := 2) (α := Int × Sg) (fun x => ((gtM σ P J c (8 * P)).1 - x.1).toNat) (fun x => ([(87, 0), (0, x.1), (9, 0), (9, 0)], Wd xs t dd rr x.2)) (fun x => (0 ≤ x.1 ∧ x.1 ≤ (gtM σ P J c (8 * P)).1) ∧ Fr [114] [] s x.2 ∧ ∀ q, 0 ≤ q → q < x.1 → x.2 114 q = sur (gtM σ P J c (8 * P)).2 (gtM σ P J c (8 * P)).1 P (hsM σ) (σ 99) (σ 111) (σ 112) (mtM σ J) q) ?_ (0, s) ?_
  · intro ⟨k, s1⟩ ⟨⟨hk0, hk1⟩, hF, hv⟩ ih
    dsimp only at hk0 hk1 hF hv ⊢
    have e55 := hF.row 71 rfl 55
    have hRk : k < (gtM σ P J c (8 * P)).1 → _ := hR3 k hk0
    have h01 := stk_01 (hs := hsM σ) (so := σ 99) (who := σ 112) (mt := mtM σ J) (w := (gtM σ P J c (8 * P)).2 k) (8 * P).toNat
    rw [Int.toNat_of_nonneg (by omega)] at h01
    have hsu : sur (gtM σ P J c (8 * P)).2 (gtM σ P J c (8 * P)).1 P (hsM σ) (σ 99) (σ 111) (σ 112) (mtM σ J) k = if (gtM σ P J c (8 * P)).2 k < 100 ∧ stk (hsM σ) (σ 99) (σ 112) (mtM σ J) ((gtM σ P J c (8 * P)).2 k) (8 * P) = 1 then srf (gtM σ P J c (8 * P)).2 (gtM σ P J c (8 * P)).1 P (hsM σ) (σ 99) (σ 111) (σ 112) (mtM σ J) k (8 * P) else 0 := rfl
    refine R_iload rfl rfl ?_
    refine R_aload rfl rfl rfl ?_
    refine T_geti rfl rfl rfl ?_
    rw [e55, hR1]
    refine R_ic rfl (fun h7 => ?_) (fun h7 => ?_)
    · try simp only [ne_eq, b2i_e, b2i_1, Classical.not_not] at h7
      refine R_vret rfl ?_
      exact hE _ _ rfl ⟨hF, fun q q0 q1 => hv q q0 (by omega)⟩
    · try simp only [ne_eq, b2i_e, b2i_1, Classical.not_not] at h7
      have hRk := hRk (by omega)
      have e113 := hF.row 113 rfl k
      refine R_aload rfl rfl rfl ?_
      refine T_getr (v := 130) rfl rfl rfl rfl ?_
      refine R_iload rfl rfl ?_
      refine R_push rfl ?_
      refine T_iast rfl rfl (by omega) (by omega) ?_
      generalize hs2 : up2 s1 114 k 0 = s2
      have hF2 : Fr [114] [] s s2 := by rw [← hs2]; exact hF.upr rfl
      have e113 := hF2.row 113 rfl k
      refine R_aload rfl rfl rfl ?_
      refine T_getr (v := 129) rfl rfl rfl rfl ?_
      refine R_iload rfl rfl ?_
      refine T_ald rfl rfl (by omega) (by omega) ?_
      rw [hF2.row 113 rfl, hRk]
      refine R_push rfl ?_
      refine R_ic rfl (fun h25 => ?_) (fun h25 => ?_)
      · try simp only [ne_eq, b2i_e, b2i_1, Classical.not_not] at h25
        refine R_inc rfl rfl (by omega) (by omega) ?_
        refine R_goto rfl ?_
        refine fgt wc_X10_findSure [1, 1, 0, 0] ?_
        first
        | exact ih (k + 1, s3) ⟨by dsimp only; omega, hF3, fun q q0 q1 => by
            dsimp only at q1 ⊢
            by_cases z : q = k
            · have hf8 : f = 8 * P := by omega
              rw [z, hv3, hf8, hsu, if_pos ⟨by omega, by omega⟩]
            · rw [hq3 q z]; exact hv q q0 (by omega)⟩ (by dsimp only; omega)
        | exact ih (k + 1, s2) ⟨by dsimp only; omega, hF2, fun q q0 q1 => by
            dsimp only at q1 ⊢
            by_cases z : q = k
            · rw [z, ← hs2, up_s, hsu, if_neg (by omega)]
            · rw [← hs2, up_i z]; exact hv q q0 (by omega)⟩ (by dsimp only; omega)
      · try simp only [ne_eq, b2i_e, b2i_1, Classical.not_not] at h25
        refine R_aload rfl rfl rfl ?_
        refine R_aload rfl rfl rfl ?_
        refine T_getr (v := 129) rfl rfl rfl rfl ?_
        refine R_iload rfl rfl ?_
        refine T_ald rfl rfl (by omega) (by omega) ?_
        rw [hF2.row 113 rfl, hRk]
        have hFm2 : Fm σ s2 := hFm0.tr hF2 rfl rfl
        have hsb := sp_X10_hasStruckBelly d (by omega) xs t dd rr s2 ((gtM σ P J c (8 * P)).2 k) P J (MH_fr hH hFm2)
        rw [hsM_fr (hFm2.fn 98 rfl), mtM_fr (hFm2.fn 106 rfl) (hFm2.fn 102 rfl) (hFm2.fn 103 rfl), hFm2.fn 99 rfl, hFm2.fn 112 rfl] at hsb
        refine R_invv rfl rfl rfl rfl rfl rfl (hsb) rfl ?_
        show pCm _ _ _ 38 _ [(0, _)] _
        refine R_if rfl (fun h38 => ?_) (fun h38 => ?_)
        · try simp only [ne_eq, b2i_e, b2i_1, Classical.not_not] at h38
          refine R_inc rfl rfl (by omega) (by omega) ?_
          refine R_goto rfl ?_
          refine fgt wc_X10_findSure [1, 1, 0, 0] ?_
          first
          | exact ih (k + 1, s3) ⟨by dsimp only; omega, hF3, fun q q0 q1 => by
              dsimp only at q1 ⊢
              by_cases z : q = k
              · have hf8 : f = 8 * P := by omega
                rw [z, hv3, hf8, hsu, if_pos ⟨by omega, by omega⟩]
              · rw [hq3 q z]; exact hv q q0 (by omega)⟩ (by dsimp only; omega)
          | exact ih (k + 1, s2) ⟨by dsimp only; omega, hF2, fun q q0 q1 => by
              dsimp only at q1 ⊢
              by_cases z : q = k
              · rw [z, ← hs2, up_s, hsu, if_neg (by omega)]
              · rw [← hs2, up_i z]; exact hv q q0 (by omega)⟩ (by dsimp only; omega)
        · try simp only [ne_eq, b2i_e, b2i_1, Classical.not_not] at h38
          refine R_push rfl ?_
          refine R_istore rfl rfl ?_
          refine fgt wc_X10_findSure [1, 1, 1, 0] ?_
          refine loop (pc := 43) (α := Int × Sg) (fun x => (8 * P - x.1).toNat) (fun x => ([(87, 0), (0, k), (0, x.1), (9, 0)], Wd xs t dd rr x.2)) (fun x => (0 ≤ x.1 ∧ x.1 ≤ 8 * P) ∧ Fr [114] [] s x.2 ∧ x.2 114 k = srf (gtM σ P J c (8 * P)).2 (gtM σ P J c (8 * P)).1 P (hsM σ) (σ 99) (σ 111) (σ 112) (mtM σ J) k x.1 ∧ ∀ q, q ≠ k → x.2 114 q = s1 114 q) ?_ (0, s2) ?_
          · intro ⟨f, s3⟩ ⟨⟨hf0, hf1⟩, hF3, hv3, hq3⟩ ihi
            dsimp only at hf0 hf1 hF3 hv3 hq3 ⊢
            have hFm3 : Fm σ s3 := hFm0.tr hF3 rfl rfl
            have hH3 := MH_fr hH hFm3
            have e26 := hFm3.at 71 26 rfl
            have e112 := hFm3.row 112 rfl (f / 8)
            have e113 := hF3.row 113 rfl k
            have hR3' : RM s3 σ P J c := RM_fr hR0 (hF3.row 71 rfl 55) (hF3.fn 113 rfl)
            have hs01 : hsM σ f = 0 ∨ hsM σ f = 1 := by have := (b2i_bd (p := f % 8 < σ 98 (f / 8))); unfold hsM; omega
            have hor := srf_or (R := (gtM σ P J c (8 * P)).2) (T := (gtM σ P J c (8 * P)).1) (P := P) (hs := hsM σ) (so := σ 99) (co := σ 111) (who := σ 112) (mt := mtM σ J) (k := k) f.toNat
            rw [Int.toNat_of_nonneg hf0] at hor
            have hss := srf_s (R := (gtM σ P J c (8 * P)).2) (T := (gtM σ P J c (8 * P)).1) (P := P) (hs := hsM σ) (so := σ 99) (co := σ 111) (who := σ 112) (mt := mtM σ J) (k := k) hf0
            refine R_iload rfl rfl ?_
            refine R_push rfl ?_
            refine R_aload rfl rfl rfl ?_
            refine T_geti rfl rfl rfl ?_
            refine R_mul rfl (by omega) (by omega) ?_
            refine R_ic rfl (fun h51 => ?_) (fun h51 => ?_)
            · try simp only [ne_eq, b2i_e, b2i_1, Classical.not_not] at h51
              refine R_inc rfl rfl (by omega) (by omega) ?_
              refine R_goto rfl ?_
              refine fgt wc_X10_findSure [1, 1, 0, 0] ?_
              first
              | exact ih (k + 1, s3) ⟨by dsimp only; omega, hF3, fun q q0 q1 => by
                  dsimp only at q1 ⊢
                  by_cases z : q = k
                  · have hf8 : f = 8 * P := by omega
                    rw [z, hv3, hf8, hsu, if_pos ⟨by omega, by omega⟩]
                  · rw [hq3 q z]; exact hv q q0 (by omega)⟩ (by dsimp only; omega)
              | exact ih (k + 1, s2) ⟨by dsimp only; omega, hF2, fun q q0 q1 => by
                  dsimp only at q1 ⊢
                  by_cases z : q = k
                  · rw [z, ← hs2, up_s, hsu, if_neg (by omega)]
                  · rw [← hs2, up_i z]; exact hv q q0 (by omega)⟩ (by dsimp only; omega)
            · try simp only [ne_eq, b2i_e, b2i_1, Classical.not_not] at h51
              have J89 : ∀ v : Int, (v = blM σ P J f ∧ hsM σ f = 1 ∧ σ 112 (f / 8) = (gtM σ P J c (8 * P)).2 k ∨ v = -1 ∧ ¬ (hsM σ f = 1 ∧ σ 112 (f / 8) = (gtM σ P J c (8 * P)).2 k)) → pCm (Ev d) k_X10_findSure E 89 [(87, 0), (0, k), (0, f), (9, 0)] [(0, v)] (Wd xs t dd rr s3) := by
                intro v hv89
                refine R_istore rfl rfl ?_
                refine R_aload rfl rfl rfl ?_
                refine T_getr (v := 130) rfl rfl rfl rfl ?_
                refine R_iload rfl rfl ?_
                refine R_dup2 rfl rfl rfl ?_
                refine T_ald rfl rfl (by omega) (by omega) ?_
                refine R_iload rfl rfl ?_
                refine R_if rfl (fun h98 => ?_) (fun h98 => ?_)
                · try simp only [ne_eq, b2i_e, b2i_1, Classical.not_not] at h98
                  refine R_push rfl ?_
                  refine R_bin rfl ?_
                  refine T_iast rfl rfl (by omega) (by omega) ?_
                  refine R_inc rfl rfl (by omega) (by omega) ?_
                  refine R_goto rfl ?_
                  generalize hs4 : up2 s3 114 k _ = s4
                  refine fgt wc_X10_findSure [1, 1, 1, 0] ?_
                  refine ihi (f + 1, s4) ⟨by dsimp only; omega, by rw [← hs4]; exact hF3.upr rfl, ?_, fun q z => by show s4 114 q = _; rw [← hs4, up_i z]; exact hq3 q z⟩ (by dsimp only; omega)
                  show s4 114 k = _
                  rw [← hs4, up_s, hv3, hss]
                  first
                  | (rw [if_neg (fun w => by
                      obtain ⟨w1, w2, w3, w4⟩ := w
                      have w3 : 0 ≤ blM σ P J f := w3
                      have w4 : blM σ P J f ≠ (gtM σ P J c (8 * P)).2 k := w4
                      omega)]
                     exact hor)
                  | (rw [if_pos ⟨by omega, by omega, by show 0 ≤ blM σ P J f; omega, by show blM σ P J f ≠ _; omega⟩]
                     rw [show v = blM σ P J f by omega]
                     rfl)
                · try simp only [ne_eq, b2i_e, b2i_1, Classical.not_not] at h98
                  refine R_iload rfl rfl ?_
                  refine R_aload rfl rfl rfl ?_
                  refine T_getr (v := 129) rfl rfl rfl rfl ?_
                  refine R_iload rfl rfl ?_
                  refine T_ald rfl rfl (by omega) (by omega) ?_
                  rw [e113, hRk]
                  refine R_ic rfl (fun h108 => ?_) (fun h108 => ?_)
                  · try simp only [ne_eq, b2i_e, b2i_1, Classical.not_not] at h108
                    refine R_push rfl ?_
                    refine R_bin rfl ?_
                    refine T_iast rfl rfl (by omega) (by omega) ?_
                    refine R_inc rfl rfl (by omega) (by omega) ?_
                    refine R_goto rfl ?_
                    generalize hs4 : up2 s3 114 k _ = s4
                    refine fgt wc_X10_findSure [1, 1, 1, 0] ?_
                    refine ihi (f + 1, s4) ⟨by dsimp only; omega, by rw [← hs4]; exact hF3.upr rfl, ?_, fun q z => by show s4 114 q = _; rw [← hs4, up_i z]; exact hq3 q z⟩ (by dsimp only; omega)
                    show s4 114 k = _
                    rw [← hs4, up_s, hv3, hss]
                    first
                    | (rw [if_neg (fun w => by
                        obtain ⟨w1, w2, w3, w4⟩ := w
                        have w3 : 0 ≤ blM σ P J f := w3
                        have w4 : blM σ P J f ≠ (gtM σ P J c (8 * P)).2 k := w4
                        omega)]
                       exact hor)
                    | (rw [if_pos ⟨by omega, by omega, by show 0 ≤ blM σ P J f; omega, by show blM σ P J f ≠ _; omega⟩]
                       rw [show v = blM σ P J f by omega]
                       rfl)
                  · try simp only [ne_eq, b2i_e, b2i_1, Classical.not_not] at h108
                    refine R_push rfl ?_
                    refine R_aload rfl rfl rfl ?_
                    refine R_iload rfl rfl ?_
                    have hix := sp_X10_indexOf d (by omega) xs t dd rr s3 v (gtM σ P J c (8 * P)).2 (gtM σ P J c (8 * P)).1 hR3'.1 ⟨by omega, by omega⟩ hR3'.2.2
                    refine R_invv rfl rfl rfl rfl rfl rfl (hix) rfl ?_
                    show pCm _ _ _ 117 _ [(0, _), (0, _), (0, _), (0, _), (130, 0)] _
                    refine R_bin rfl ?_
                    refine R_goto rfl ?_
                    refine R_bin rfl ?_
                    refine T_iast rfl rfl (by omega) (by omega) ?_
                    refine R_inc rfl rfl (by omega) (by omega) ?_
                    refine R_goto rfl ?_
                    generalize hs4 : up2 s3 114 k _ = s4
                    refine fgt wc_X10_findSure [1, 1, 1, 0] ?_
                    refine ihi (f + 1, s4) ⟨by dsimp only; omega, by rw [← hs4]; exact hF3.upr rfl, ?_, fun q z => by show s4 114 q = _; rw [← hs4, up_i z]; exact hq3 q z⟩ (by dsimp only; omega)
                    show s4 114 k = _
                    rw [← hs4, up_s, hv3, hss]
                    first
                    | (rw [if_neg (fun w => by
                        obtain ⟨w1, w2, w3, w4⟩ := w
                        have w3 : 0 ≤ blM σ P J f := w3
                        have w4 : blM σ P J f ≠ (gtM σ P J c (8 * P)).2 k := w4
                        omega)]
                       exact hor)
                    | (rw [if_pos ⟨by omega, by omega, by show 0 ≤ blM σ P J f; omega, by show blM σ P J f ≠ _; omega⟩]
                       rw [show v = blM σ P J f by omega]
                       rfl)
              refine R_aload rfl rfl rfl ?_
              refine R_iload rfl rfl ?_
              have hfo := sp_X10_isFace d (by omega) xs t dd rr s3 f P (by rw [e26]; exact hP) h0 (by omega)
              rw [show b2i (0 ≤ f ∧ f / 8 < P ∧ f % 8 < s3 98 (f / 8)) = hsM σ f by rw [hFm3.row 98 rfl]; exact b2i_iff ⟨fun w => w.2.2, fun w => ⟨by omega, by omega, w⟩⟩] at hfo
              refine R_invv rfl rfl rfl rfl rfl rfl (hfo) rfl ?_
              show pCm _ _ _ 59 _ [(0, _)] _
              refine R_if rfl (fun h59 => ?_) (fun h59 => ?_)
              · try simp only [ne_eq, b2i_e, b2i_1, Classical.not_not] at h59
                refine R_push rfl ?_
                exact J89 _ (by omega)
              · try simp only [ne_eq, b2i_e, b2i_1, Classical.not_not] at h59
                refine R_aload rfl rfl rfl ?_
                refine T_getr (v := 128) rfl rfl rfl rfl ?_
                refine R_iload rfl rfl ?_
                refine R_push rfl ?_
                refine R_dv rfl (by omega) (by omega) (by omega) ?_
                refine T_ald rfl rfl (by omega) (by omega) ?_
                refine R_aload rfl rfl rfl ?_
                refine T_getr (v := 129) rfl rfl rfl rfl ?_
                refine R_iload rfl rfl ?_
                refine T_ald rfl rfl (by omega) (by omega) ?_
                rw [e113, hRk, e112]
                refine R_ic rfl (fun h77 => ?_) (fun h77 => ?_)
                · try simp only [ne_eq, b2i_e, b2i_1, Classical.not_not] at h77
                  refine R_push rfl ?_
                  exact J89 _ (by omega)
                · try simp only [ne_eq, b2i_e, b2i_1, Classical.not_not] at h77
                  refine R_aload rfl rfl rfl ?_
                  refine R_iload rfl rfl ?_
                  have hbo := sp_X10_blowOf d (by omega) xs t dd rr s3 P J hH3 f ⟨by omega, by omega⟩ (by rw [hsM_fr (hFm3.fn 98 rfl)]; omega)
                  rw [blM_fr hFm3] at hbo
                  refine R_invv rfl rfl rfl rfl rfl rfl (hbo) rfl ?_
                  show pCm _ _ _ 85 _ [(0, _)] _
                  refine R_goto rfl ?_
                  exact J89 _ (by omega)
          · exact ⟨⟨Int.le_refl _, by dsimp only; omega⟩, hF2, by
              show s2 114 k = 0
              rw [← hs2, up_s], fun q z => by
              show s2 114 q = _
              rw [← hs2, up_i z]⟩
  · exact ⟨⟨Int.le_refl _, by dsimp only; omega⟩, Fr.rf, fun q q0 q1 => by dsimp only at q1; omega⟩
set_option maxRecDepth 20000 in
set_option maxHeartbeats 2000000 in
theorem sp_X10_loses (d : Nat) (hd : 1 ≤ d) (xs : List (Nat × Nat)) (t dd rr : Nat) (σ : Sg) (k dn : Int) (U : Int → Int) (T : Int) (h5 : σ 71 55 = T) (hT : 0 ≤ T ∧ T ≤ 12) (hU : ∀ i, 0 ≤ i → i < 144 → σ 115 i = U i) (hW : WB U) (hk : 0 ≤ k ∧ k < T) : Ev d 99 [(87, 0), (0, k), (0, dn)] (Wd xs t dd rr σ) (0, los U T k dn) (Wd xs t dd rr σ) := by
  obtain ⟨d, rfl⟩ : ∃ e, d = e + 1 := ⟨d - 1, by omega⟩
  refine evP (nL := 5) (code := k_X10_loses) rfl pb0 rfl (fun E hE => ?_)
  show pCm (Ev d) k_X10_loses E 0 [(87, 0), (0, k), (0, dn), (9, 0), (9, 0)] [] _
  refine R_push rfl ?_
  refine R_istore rfl rfl ?_
  refine R_push rfl ?_
  refine R_istore rfl rfl ?_
  refine loop (pc := 5) (α := Int × Int) (fun x => (T - x.2).toNat) (fun x => ([(87, 0), (0, k), (0, dn), (0, x.1), (0, x.2)], Wd xs t dd rr σ)) (fun x => (0 ≤ x.2 ∧ x.2 ≤ T) ∧ x.1 = los U x.2 k dn) ?_ (0, 0) ?_
  · intro ⟨n, j⟩ ⟨⟨hj0, hj1⟩, hn⟩ ih
    dsimp only at hj0 hj1 hn ⊢
    have hls : los U (j + 1) k dn = los U j k dn + (if bx dn j = 0 ∧ j ≠ k then U (12 * k + j) else 0) := sumZ_s hj0
    have hlb := los_bd (dn := dn) hW hT ⟨hk.1, by omega⟩ j hj0 hj1
    have hUj : j < T → σ 115 (12 * k + j) = U (12 * k + j) := fun w => hU _ (by omega) (by omega)
    have hUb : j < T → _ := fun w => WB_e hW (k := k) (j := j) ⟨by omega, by omega⟩ ⟨by omega, by omega⟩
    refine R_iload rfl rfl ?_
    refine R_aload rfl rfl rfl ?_
    refine T_geti rfl rfl rfl ?_
    refine R_ic rfl (fun h11 => ?_) (fun h11 => ?_)
    · try simp only [ne_eq, b2i_e, b2i_1, Classical.not_not] at h11
      refine R_iload rfl rfl ?_
      refine R_iret rfl ?_
      exact hE _ (by rw [hn, show j = T by omega])
    · try simp only [ne_eq, b2i_e, b2i_1, Classical.not_not] at h11
      refine R_iload rfl rfl ?_
      refine R_iload rfl rfl ?_
      refine R_iload rfl rfl ?_
      refine R_bin rfl ?_
      refine R_push rfl ?_
      refine R_bin rfl ?_
      show pCm _ _ _ _ _ ((0, bx dn j) :: _) _
      refine R_if rfl (fun h21 => ?_) (fun h21 => ?_)
      · try simp only [ne_eq, b2i_e, b2i_1, Classical.not_not] at h21
        refine R_push rfl ?_
        refine R_add rfl (by omega) (by omega) ?_
        refine R_istore rfl rfl ?_
        refine R_inc rfl rfl (by omega) (by omega) ?_
        refine R_goto rfl ?_
        first
        | (have hUj := hUj (by omega)
           exact ih (n + σ 115 (12 * k + j), j + 1) ⟨by dsimp only; omega, by show n + σ 115 (12 * k + j) = _; rw [hls, if_pos (by omega), hn, hUj]⟩ (by dsimp only; omega))
        | exact ih (n + 0, j + 1) ⟨by dsimp only; omega, by show n + 0 = _; rw [hls, if_neg (by omega), hn]⟩ (by dsimp only; omega)
      · try simp only [ne_eq, b2i_e, b2i_1, Classical.not_not] at h21
        refine R_iload rfl rfl ?_
        refine R_iload rfl rfl ?_
        refine R_ic rfl (fun h27 => ?_) (fun h27 => ?_)
        · try simp only [ne_eq, b2i_e, b2i_1, Classical.not_not] at h27
          refine R_push rfl ?_
          refine R_add rfl (by omega) (by omega) ?_
          refine R_istore rfl rfl ?_
          refine R_inc rfl rfl (by omega) (by omega) ?_
          refine R_goto rfl ?_
          first
          | (have hUj := hUj (by omega)
             exact ih (n + σ 115 (12 * k + j), j + 1) ⟨by dsimp only; omega, by show n + σ 115 (12 * k + j) = _; rw [hls, if_pos (by omega), hn, hUj]⟩ (by dsimp only; omega))
          | exact ih (n + 0, j + 1) ⟨by dsimp only; omega, by show n + 0 = _; rw [hls, if_neg (by omega), hn]⟩ (by dsimp only; omega)
        · try simp only [ne_eq, b2i_e, b2i_1, Classical.not_not] at h27
          have hUj1 := hUj (by omega)
          have hUb1 := hUb (by omega)
          refine R_aload rfl rfl rfl ?_
          refine T_getr (v := 131) rfl rfl rfl rfl ?_
          refine R_push rfl ?_
          refine R_iload rfl rfl ?_
          refine R_mul rfl (by omega) (by omega) ?_
          refine R_iload rfl rfl ?_
          refine R_add rfl (by omega) (by omega) ?_
          refine T_ald rfl rfl (by omega) (by omega) ?_
          refine R_goto rfl ?_
          refine R_add rfl (by omega) (by omega) ?_
          refine R_istore rfl rfl ?_
          refine R_inc rfl rfl (by omega) (by omega) ?_
          refine R_goto rfl ?_
          first
          | (have hUj := hUj (by omega)
             exact ih (n + σ 115 (12 * k + j), j + 1) ⟨by dsimp only; omega, by show n + σ 115 (12 * k + j) = _; rw [hls, if_pos (by omega), hn, hUj]⟩ (by dsimp only; omega))
          | exact ih (n + 0, j + 1) ⟨by dsimp only; omega, by show n + 0 = _; rw [hls, if_neg (by omega), hn]⟩ (by dsimp only; omega)
  · exact ⟨⟨Int.le_refl _, by dsimp only; omega⟩, rfl⟩
set_option maxRecDepth 20000 in
set_option maxHeartbeats 2000000 in
theorem sp_X10_mayComeA (d : Nat) (hd : 1 ≤ d) (xs : List (Nat × Nat)) (t dd rr : Nat) (σ : Sg) (k dn : Int) (A : Int → Int) (hk : 0 ≤ k ∧ k < 12) (hA : σ 114 k = A k) : Ev d 100 [(87, 0), (0, k), (0, dn)] (Wd xs t dd rr σ) (0, mc A k dn) (Wd xs t dd rr σ) := by
  obtain ⟨d, rfl⟩ : ∃ e, d = e + 1 := ⟨d - 1, by omega⟩
  refine evP (nL := 3) (code := k_X10_mayCome) rfl pb0 rfl (fun E hE => ?_)
  show pCm (Ev d) k_X10_mayCome E 0 [(87, 0), (0, k), (0, dn)] [] _
  refine R_iload rfl rfl ?_
  refine R_iload rfl rfl ?_
  refine R_bin rfl ?_
  refine R_push rfl ?_
  refine R_bin rfl ?_
  show pCm _ _ _ _ _ ((0, bx dn k) :: _) _
  refine R_if rfl (fun h5 => ?_) (fun h5 => ?_)
  · try simp only [ne_eq, b2i_e, b2i_1, Classical.not_not] at h5
    refine R_push rfl ?_
    refine R_zret rfl (by first | exact Or.inl rfl | exact Or.inr rfl | omega | grind) ?_
    exact hE _ (by unfold mc; first | rw [b2i_t (by omega)] | rw [b2i_f (by omega)])
  · try simp only [ne_eq, b2i_e, b2i_1, Classical.not_not] at h5
    refine R_aload rfl rfl rfl ?_
    refine T_getr (v := 130) rfl rfl rfl rfl ?_
    refine R_iload rfl rfl ?_
    refine T_ald rfl rfl (by omega) (by omega) ?_
    rw [hA]
    refine R_iload rfl rfl ?_
    refine R_push rfl ?_
    refine R_bin rfl ?_
    refine R_bin rfl ?_
    show pCm _ _ _ _ _ ((0, pAnd (A k) (pXor dn (-1))) :: _) _
    refine R_if rfl (fun h18 => ?_) (fun h18 => ?_)
    · try simp only [ne_eq, b2i_e, b2i_1, Classical.not_not] at h18
      refine R_push rfl ?_
      refine R_zret rfl (by first | exact Or.inl rfl | exact Or.inr rfl | omega | grind) ?_
      exact hE _ (by unfold mc; first | rw [b2i_t (by omega)] | rw [b2i_f (by omega)])
    · try simp only [ne_eq, b2i_e, b2i_1, Classical.not_not] at h18
      refine R_push rfl ?_
      refine R_goto rfl ?_
      refine R_zret rfl (by first | exact Or.inl rfl | exact Or.inr rfl | omega | grind) ?_
      exact hE _ (by unfold mc; first | rw [b2i_t (by omega)] | rw [b2i_f (by omega)])

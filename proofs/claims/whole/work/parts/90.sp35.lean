/-- how two faces measure, for the reference -/
def fitM (σ : Sg) (a b : Int) : Int := fitZ (fun k => σ 100 (8 * a + k)) (fun k => σ 100 (8 * b + k)) (σ 101 a) (σ 101 b) 8
def kmM (σ : Sg) (a b : Int) : Int → Int := kMt (σ 99) (σ 89) (σ 90) (σ 91) (σ 92) (σ 96) (σ 93) (σ 94) (σ 95) a b (fitM σ a b / 8)
def smt (x y : Int) : Prop := x = 0 ∧ y = 1 ∨ x = 1 ∧ y = 0 ∨ x = 3 ∧ y = 3
def mayM (σ : Sg) (N : Int) (kd nu len : Int → Int) (K W : Int → Int → Int) (a b : Int) : Int := b2i (a / 8 ≠ b / 8 ∧ (σ 99 a = 0 ∧ σ 99 b = 1 ∨ σ 99 a = 1 ∧ σ 99 b = 0 ∨ σ 99 a = 3 ∧ σ 99 b = 3) ∧ fitM σ a b / 8 ≤ σ 71 25 + 10 * (σ 96 (a / 8) + σ 96 (b / 8)) ∧ (stnM σ N kd nu len K W (a / 8) = stnM σ N kd nu len K W (b / 8) ∨ stnM σ N kd nu len K W (a / 8) = -1 ∨ stnM σ N kd nu len K W (b / 8) = -1) ∧ frst (hld (kmM σ a b) kd nu len K W 1) nu N = -1)
set_option maxRecDepth 20000 in
set_option maxHeartbeats 2000000 in
theorem sp_X10_meets (d : Nat) (hd : 4 ≤ d) (xs : List (Nat × Nat)) (t dd rr : Nat) (σ : Sg) (f g P : Int) (h0 : P ≤ 40) (hB : PBm σ P) (hf : 0 ≤ f ∧ f / 8 < P) (hg : 0 ≤ g ∧ g / 8 < P) (hf2 : ∀ k, 0 ≤ k → k < 8 → 0 ≤ σ 100 (8 * f + k) ∧ σ 100 (8 * f + k) ≤ 255) (hg2 : ∀ k, 0 ≤ k → k < 8 → 0 ≤ σ 100 (8 * g + k) ∧ σ 100 (8 * g + k) ≤ 255) (hra : 0 ≤ σ 101 f ∧ σ 101 f ≤ 7) (hrb : 0 ≤ σ 101 g ∧ σ 101 g ≤ 7) (hsm : σ 99 f = 0 ∧ σ 99 g = 1 ∨ σ 99 f = 1 ∧ σ 99 g = 0 ∨ σ 99 f = 3 ∧ σ 99 g = 3) (h N : Int) (kd nu len : Int → Int) (K W : Int → Int → Int) (hT : WT N kd nu len K W) (hC : MT σ h N kd nu len K W)  : ∃ σ', Ev d 74 [(87, 0), (0, f), (0, g)] (Wd xs t dd rr σ) (8, 0) (Wd xs t dd rr σ') ∧ Fr [85, 86, 87] [(71, 41), (71, 42)] σ σ' ∧ σ' 71 41 = fitM σ f g / 8 ∧ σ' 71 42 = fitM σ f g % 8 ∧ (∀ i, 0 ≤ i → i < 12 → σ' 85 i = kmM σ f g i) ∧ ∀ w, 0 ≤ w → w < letc kd N → σ' 86 w = nms (σ' 85) kd nu len K W N w := by
  obtain ⟨d, rfl⟩ : ∃ e, d = e + 1 := ⟨d - 1, by omega⟩
  have ba := hB (f / 8) (by omega) hf.2
  have bb := hB (g / 8) (by omega) hg.2
  refine evS (nL := 9) (code := k_X10_meets) rfl dc_X10_meets rfl (fun E hE => ?_)
  show pCm (Ev d) k_X10_meets E 0 [(87, 0), (0, f), (0, g), (9, 0), (9, 0), (9, 0), (9, 0), (9, 0), (9, 0)] [] _
  refine R_iload rfl rfl ?_
  refine R_push rfl ?_
  refine R_dv rfl (by omega) (by omega) (by omega) ?_
  refine R_istore rfl rfl ?_
  refine R_iload rfl rfl ?_
  refine R_push rfl ?_
  refine R_dv rfl (by omega) (by omega) (by omega) ?_
  refine R_istore rfl rfl ?_
  refine R_aload rfl rfl rfl ?_
  refine R_iload rfl rfl ?_
  refine R_iload rfl rfl ?_
  obtain ⟨s0, hev0, F0a, hg1, hg2'⟩ := sp_X10_measures d (by omega) xs t dd rr σ f g ⟨by omega, by omega⟩ ⟨by omega, by omega⟩ hf2 hg2 hra hrb
  have F0 : Fr [85, 86, 87] [(71, 41), (71, 42)] σ s0 := F0a.tr (r2 := []) (s2 := []) Fr.rf rfl rfl
  have hg1 : s0 71 41 = fitM σ f g / 8 := hg1
  have hg2' : s0 71 42 = fitM σ f g % 8 := hg2'
  refine R_invv rfl rfl rfl rfl rfl rfl (hev0) rfl ?_
  show pCm _ _ _ 17 _ [] _
  have J58 : ∀ v : Int, v = b2i (σ 99 f = 1 ∨ σ 99 g ≠ 1 ∧ σ 89 (f / 8) ≤ σ 89 (g / 8)) → pCm (Ev d) k_X10_meets E 58 [(87, 0), (0, f), (0, g), (0, f / 8), (0, g / 8), (9, 0), (9, 0), (9, 0), (9, 0)] [(0, v)] (Wd xs t dd rr s0) := by
    intro v hq58
    have hv : v = 1 ∧ (σ 99 f = 1 ∨ σ 99 g ≠ 1 ∧ σ 89 (f / 8) ≤ σ 89 (g / 8)) ∨ v = 0 ∧ ¬ (σ 99 f = 1 ∨ σ 99 g ≠ 1 ∧ σ 89 (f / 8) ≤ σ 89 (g / 8)) := by
      rw [hq58]; unfold b2i; split <;> omega
    clear hq58
    refine R_istore rfl rfl ?_
    have J74 : ∀ u : Int, u = σ 96 (f / 8) → pCm (Ev d) k_X10_meets E 74 [(87, 0), (0, f), (0, g), (0, f / 8), (0, g / 8), (0, v), (9, 0), (9, 0), (9, 0)] [(0, u)] (Wd xs t dd rr s0) := by
      intro u hq74
      rw [hq74]
      have J89 : ∀ u : Int, u = σ 96 (g / 8) → pCm (Ev d) k_X10_meets E 89 [(87, 0), (0, f), (0, g), (0, f / 8), (0, g / 8), (0, v), (9, 0), (9, 0), (9, 0)] [(0, u), (0, σ 96 (f / 8))] (Wd xs t dd rr s0) := by
        intro u hq89
        rw [hq89]
        refine R_add rfl (by omega) (by omega) ?_
        refine R_istore rfl rfl ?_
        refine R_aload rfl rfl rfl ?_
        refine T_getr (v := 106) rfl rfl rfl rfl ?_
        refine R_iload rfl rfl ?_
        refine T_ald rfl rfl (by omega) (by omega) ?_
        rw [F0.row 90 rfl]
        refine R_aload rfl rfl rfl ?_
        refine T_getr (v := 106) rfl rfl rfl rfl ?_
        refine R_iload rfl rfl ?_
        refine T_ald rfl rfl (by omega) (by omega) ?_
        rw [F0.row 90 rfl]
        refine R_inv rfl rfl rfl rfl rfl (sp_X10_far d (by omega) _ _ _ ⟨by omega, by omega⟩ ⟨by omega, by omega⟩) rfl ?_
        show pCm _ _ _ 108 _ [(0, _)] _
        show pCm _ _ _ _ _ ((0, dst _ _) :: _) _
        refine R_istore rfl rfl ?_
        refine R_aload rfl rfl rfl ?_
        refine T_getr (v := 107) rfl rfl rfl rfl ?_
        refine R_iload rfl rfl ?_
        refine T_ald rfl rfl (by omega) (by omega) ?_
        rw [F0.row 91 rfl]
        refine R_aload rfl rfl rfl ?_
        refine T_getr (v := 107) rfl rfl rfl rfl ?_
        refine R_iload rfl rfl ?_
        refine T_ald rfl rfl (by omega) (by omega) ?_
        rw [F0.row 91 rfl]
        refine R_inv rfl rfl rfl rfl rfl (sp_X10_far d (by omega) _ _ _ ⟨by omega, by omega⟩ ⟨by omega, by omega⟩) rfl ?_
        show pCm _ _ _ 126 _ [(0, _)] _
        show pCm _ _ _ _ _ ((0, dst _ _) :: _) _
        refine R_istore rfl rfl ?_
        refine R_aload rfl rfl rfl ?_
        refine T_getr (v := 101) rfl rfl rfl rfl ?_
        refine R_push rfl ?_
        refine R_aload rfl rfl rfl ?_
        refine T_geti rfl rfl rfl ?_
        rw [hg1]
        refine T_iast rfl rfl (by omega) (by omega) ?_
        generalize hs1 : up2 s0 85 _ _ = s1
        have F1 : Fr [85, 86, 87] [(71, 41), (71, 42)] σ s1 := by rw [← hs1]; exact F0.upr rfl
        have J158 : ∀ u : Int, u = (if (σ 99 f = 1 ∨ σ 99 g ≠ 1 ∧ σ 89 (f / 8) ≤ σ 89 (g / 8)) then f / 8 else g / 8) → pCm (Ev d) k_X10_meets E 158 [(87, 0), (0, f), (0, g), (0, f / 8), (0, g / 8), (0, v), (0, σ 96 (f / 8) + σ 96 (g / 8)), (0, dst (σ 90 (f / 8)) (σ 90 (g / 8))), (0, dst (σ 91 (f / 8)) (σ 91 (g / 8)))] [(0, u), (105, 0), (0, 1), (101, 0)] (Wd xs t dd rr s1) := by
          intro u hq158
          have hu158 : 0 ≤ u ∧ u < 40 := by rw [hq158]; split <;> omega
          refine T_ald rfl rfl (by omega) (by omega) ?_
          rw [F1.row 89 rfl]
          refine T_iast rfl rfl (by omega) (by omega) ?_
          generalize hs2 : up2 s1 85 _ _ = s2
          have F2 : Fr [85, 86, 87] [(71, 41), (71, 42)] σ s2 := by rw [← hs2]; exact F1.upr rfl
          have J180 : ∀ u2 : Int, u2 = (if (σ 99 f = 1 ∨ σ 99 g ≠ 1 ∧ σ 89 (f / 8) ≤ σ 89 (g / 8)) then g / 8 else f / 8) → pCm (Ev d) k_X10_meets E 180 [(87, 0), (0, f), (0, g), (0, f / 8), (0, g / 8), (0, v), (0, σ 96 (f / 8) + σ 96 (g / 8)), (0, dst (σ 90 (f / 8)) (σ 90 (g / 8))), (0, dst (σ 91 (f / 8)) (σ 91 (g / 8)))] [(0, u2), (105, 0), (0, 2), (101, 0)] (Wd xs t dd rr s2) := by
            intro u2 hq180
            have hu180 : 0 ≤ u2 ∧ u2 < 40 := by rw [hq180]; split <;> omega
            refine T_ald rfl rfl (by omega) (by omega) ?_
            rw [F2.row 89 rfl]
            refine T_iast rfl rfl (by omega) (by omega) ?_
            generalize hs3 : up2 s2 85 _ _ = s3
            have F3 : Fr [85, 86, 87] [(71, 41), (71, 42)] σ s3 := by rw [← hs3]; exact F2.upr rfl
            have J201 : ∀ m : Int, m = max (dst (σ 90 (f / 8)) (σ 90 (g / 8))) (dst (σ 91 (f / 8)) (σ 91 (g / 8))) → pCm (Ev d) k_X10_meets E 201 [(87, 0), (0, f), (0, g), (0, f / 8), (0, g / 8), (0, v), (0, σ 96 (f / 8) + σ 96 (g / 8)), (0, dst (σ 90 (f / 8)) (σ 90 (g / 8))), (0, dst (σ 91 (f / 8)) (σ 91 (g / 8)))] [(0, m), (0, 3), (101, 0)] (Wd xs t dd rr s3) := by
              intro m hq201
              rw [hq201]
              refine T_iast rfl rfl (by omega) (by omega) ?_
              generalize hs4 : up2 s3 85 _ _ = s4
              have F4 : Fr [85, 86, 87] [(71, 41), (71, 42)] σ s4 := by rw [← hs4]; exact F3.upr rfl
              refine R_aload rfl rfl rfl ?_
              refine T_getr (v := 101) rfl rfl rfl rfl ?_
              refine R_push rfl ?_
              refine R_aload rfl rfl rfl ?_
              refine T_getr (v := 108) rfl rfl rfl rfl ?_
              refine R_iload rfl rfl ?_
              refine T_ald rfl rfl (by omega) (by omega) ?_
              rw [F4.row 92 rfl]
              refine R_aload rfl rfl rfl ?_
              refine T_getr (v := 108) rfl rfl rfl rfl ?_
              refine R_iload rfl rfl ?_
              refine T_ald rfl rfl (by omega) (by omega) ?_
              rw [F4.row 92 rfl]
              refine R_inv rfl rfl rfl rfl rfl (sp_X10_far d (by omega) _ _ _ ⟨by omega, by omega⟩ ⟨by omega, by omega⟩) rfl ?_
              show pCm _ _ _ 223 _ [(0, _), (0, _), (101, 0)] _
              show pCm _ _ _ _ _ ((0, dst _ _) :: _) _
              refine T_iast rfl rfl (by omega) (by omega) ?_
              generalize hs5 : up2 s4 85 _ _ = s5
              have F5 : Fr [85, 86, 87] [(71, 41), (71, 42)] σ s5 := by rw [← hs5]; exact F4.upr rfl
              refine R_aload rfl rfl rfl ?_
              refine T_getr (v := 101) rfl rfl rfl rfl ?_
              refine R_push rfl ?_
              refine R_iload rfl rfl ?_
              refine T_iast rfl rfl (by omega) (by omega) ?_
              generalize hs6 : up2 s5 85 _ _ = s6
              have F6 : Fr [85, 86, 87] [(71, 41), (71, 42)] σ s6 := by rw [← hs6]; exact F5.upr rfl
              have J263 : ∀ m : Int, m = b2i (σ 99 f = 3) → pCm (Ev d) k_X10_meets E 263 [(87, 0), (0, f), (0, g), (0, f / 8), (0, g / 8), (0, v), (0, σ 96 (f / 8) + σ 96 (g / 8)), (0, dst (σ 90 (f / 8)) (σ 90 (g / 8))), (0, dst (σ 91 (f / 8)) (σ 91 (g / 8)))] [(0, m), (0, 6), (101, 0)] (Wd xs t dd rr s6) := by
                intro m hq263
                rw [hq263]
                refine T_iast rfl rfl (by omega) (by omega) ?_
                generalize hs7 : up2 s6 85 _ _ = s7
                have F7 : Fr [85, 86, 87] [(71, 41), (71, 42)] σ s7 := by rw [← hs7]; exact F6.upr rfl
                refine R_aload rfl rfl rfl ?_
                refine T_getr (v := 101) rfl rfl rfl rfl ?_
                refine R_push rfl ?_
                refine R_aload rfl rfl rfl ?_
                refine T_getr (v := 109) rfl rfl rfl rfl ?_
                refine R_iload rfl rfl ?_
                refine T_ald rfl rfl (by omega) (by omega) ?_
                rw [F7.row 93 rfl]
                refine R_aload rfl rfl rfl ?_
                refine T_getr (v := 109) rfl rfl rfl rfl ?_
                refine R_iload rfl rfl ?_
                refine T_ald rfl rfl (by omega) (by omega) ?_
                rw [F7.row 93 rfl]
                refine R_inv rfl rfl rfl rfl rfl (sp_X10_far d (by omega) _ _ _ ⟨by omega, by omega⟩ ⟨by omega, by omega⟩) rfl ?_
                show pCm _ _ _ 286 _ [(0, _), (0, _), (101, 0)] _
                show pCm _ _ _ _ _ ((0, dst _ _) :: _) _
                refine T_iast rfl rfl (by omega) (by omega) ?_
                generalize hs8 : up2 s7 85 _ _ = s8
                have F8 : Fr [85, 86, 87] [(71, 41), (71, 42)] σ s8 := by rw [← hs8]; exact F7.upr rfl
                refine R_aload rfl rfl rfl ?_
                refine T_getr (v := 101) rfl rfl rfl rfl ?_
                refine R_push rfl ?_
                refine R_aload rfl rfl rfl ?_
                refine T_getr (v := 110) rfl rfl rfl rfl ?_
                refine R_iload rfl rfl ?_
                refine T_ald rfl rfl (by omega) (by omega) ?_
                rw [F8.row 94 rfl]
                refine R_aload rfl rfl rfl ?_
                refine T_getr (v := 110) rfl rfl rfl rfl ?_
                refine R_iload rfl rfl ?_
                refine T_ald rfl rfl (by omega) (by omega) ?_
                rw [F8.row 94 rfl]
                refine R_inv rfl rfl rfl rfl rfl (sp_X10_far d (by omega) _ _ _ ⟨by omega, by omega⟩ ⟨by omega, by omega⟩) rfl ?_
                show pCm _ _ _ 309 _ [(0, _), (0, _), (101, 0)] _
                show pCm _ _ _ _ _ ((0, dst _ _) :: _) _
                refine T_iast rfl rfl (by omega) (by omega) ?_
                generalize hs9 : up2 s8 85 _ _ = s9
                have F9 : Fr [85, 86, 87] [(71, 41), (71, 42)] σ s9 := by rw [← hs9]; exact F8.upr rfl
                refine R_aload rfl rfl rfl ?_
                refine T_getr (v := 101) rfl rfl rfl rfl ?_
                refine R_push rfl ?_
                refine R_aload rfl rfl rfl ?_
                refine T_getr (v := 111) rfl rfl rfl rfl ?_
                refine R_iload rfl rfl ?_
                refine T_ald rfl rfl (by omega) (by omega) ?_
                rw [F9.row 95 rfl]
                refine R_aload rfl rfl rfl ?_
                refine T_getr (v := 111) rfl rfl rfl rfl ?_
                refine R_iload rfl rfl ?_
                refine T_ald rfl rfl (by omega) (by omega) ?_
                rw [F9.row 95 rfl]
                refine R_inv rfl rfl rfl rfl rfl (sp_X10_far d (by omega) _ _ _ ⟨by omega, by omega⟩ ⟨by omega, by omega⟩) rfl ?_
                show pCm _ _ _ 332 _ [(0, _), (0, _), (101, 0)] _
                show pCm _ _ _ _ _ ((0, dst _ _) :: _) _
                refine T_iast rfl rfl (by omega) (by omega) ?_
                generalize hs10 : up2 s9 85 _ _ = s10
                have F10 : Fr [85, 86, 87] [(71, 41), (71, 42)] σ s10 := by rw [← hs10]; exact F9.upr rfl
                refine R_aload rfl rfl rfl ?_
                refine T_getr (v := 101) rfl rfl rfl rfl ?_
                refine R_push rfl ?_
                refine R_iload rfl rfl ?_
                refine T_iast rfl rfl (by omega) (by omega) ?_
                generalize hs11 : up2 s10 85 _ _ = s11
                have F11 : Fr [85, 86, 87] [(71, 41), (71, 42)] σ s11 := by rw [← hs11]; exact F10.upr rfl
                refine R_aload rfl rfl rfl ?_
                refine T_getr (v := 101) rfl rfl rfl rfl ?_
                refine R_push rfl ?_
                refine R_aload rfl rfl rfl ?_
                refine T_getr (v := 105) rfl rfl rfl rfl ?_
                refine R_iload rfl rfl ?_
                refine T_ald rfl rfl (by omega) (by omega) ?_
                rw [F11.row 89 rfl]
                refine R_aload rfl rfl rfl ?_
                refine T_getr (v := 105) rfl rfl rfl rfl ?_
                refine R_iload rfl rfl ?_
                refine T_ald rfl rfl (by omega) (by omega) ?_
                rw [F11.row 89 rfl]
                refine R_inv rfl rfl rfl rfl rfl (sp_X10_far d (by omega) _ _ _ ⟨by omega, by omega⟩ ⟨by omega, by omega⟩) rfl ?_
                show pCm _ _ _ 364 _ [(0, _), (0, _), (101, 0)] _
                show pCm _ _ _ _ _ ((0, dst _ _) :: _) _
                refine T_iast rfl rfl (by omega) (by omega) ?_
                generalize hs12 : up2 s11 85 _ _ = s12
                have F12 : Fr [85, 86, 87] [(71, 41), (71, 42)] σ s12 := by rw [← hs12]; exact F11.upr rfl
                have hkn : ∀ i, 0 ≤ i → i < 12 → s12 85 i = kmM σ f g i := by
                  intro i i0 i1
                  rw [← hs12, ← hs11, ← hs10, ← hs9, ← hs8, ← hs7, ← hs6, ← hs5, ← hs4, ← hs3, ← hs2, ← hs1]
                  unfold kmM kMt
                  rw [hq158, hq180]
                  simp only [up2, true_and]
                  have : i = 0 ∨ i = 1 ∨ i = 2 ∨ i = 3 ∨ i = 4 ∨ i = 5 ∨ i = 6 ∨ i = 7 ∨ i = 8 ∨ i = 9 ∨ i = 10 ∨ i = 11 := by omega
                  rcases this with e | e | e | e | e | e | e | e | e | e | e | e <;> subst e <;> first | rfl | (simp <;> (repeat' split) <;> first | omega | rfl | (congr 1; omega))
                refine R_aload rfl rfl rfl ?_
                have hCs := MT_fr hC F12 rfl rfl rfl rfl rfl rfl rfl
                obtain ⟨sT, hevT, hFT, hnT⟩ := sp_X10_tellsNames d (by omega) xs t dd rr s12 h N kd nu len K W hT hCs
                have FT : Fr [85, 86, 87] [(71, 41), (71, 42)] σ sT := F12.tr hFT rfl rfl
                have hCT := MT_fr hC FT rfl rfl rfl rfl rfl rfl rfl
                have e85 : sT 85 = s12 85 := hFT.fn 85 rfl
                have hkT : ∀ i, 0 ≤ i → i < 12 → sT 85 i = kmM σ f g i := by
                  rw [e85]
                  exact hkn
                rw [← e85] at hnT
                refine R_invv rfl rfl rfl rfl rfl rfl (hevT) rfl ?_
                show pCm _ _ _ 369 _ [] _
                refine R_vret rfl ?_
                exact hE _ _ rfl ⟨FT, by rw [hFT.row 71 rfl, ← hs12, ← hs11, ← hs10, ← hs9, ← hs8, ← hs7, ← hs6, ← hs5, ← hs4, ← hs3, ← hs2, ← hs1]; simp [up2, hg1], by rw [hFT.row 71 rfl, ← hs12, ← hs11, ← hs10, ← hs9, ← hs8, ← hs7, ← hs6, ← hs5, ← hs4, ← hs3, ← hs2, ← hs1]; simp [up2, hg2'], hkT, hnT⟩
              refine R_aload rfl rfl rfl ?_
              refine T_getr (v := 101) rfl rfl rfl rfl ?_
              refine R_push rfl ?_
              refine R_aload rfl rfl rfl ?_
              refine T_getr (v := 115) rfl rfl rfl rfl ?_
              refine R_iload rfl rfl ?_
              refine T_ald rfl rfl (by omega) (by omega) ?_
              rw [F6.row 99 rfl]
              refine R_push rfl ?_
              refine R_ic rfl (fun h245 => ?_) (fun h245 => ?_)
              · try simp only [ne_eq, b2i_e, b2i_1, Classical.not_not] at h245
                refine R_push rfl ?_
                exact J263 _ (by first | (exfalso; omega) | rw [b2i_t (by omega)] | rw [b2i_f (by omega)])
              · try simp only [ne_eq, b2i_e, b2i_1, Classical.not_not] at h245
                refine R_aload rfl rfl rfl ?_
                refine T_getr (v := 115) rfl rfl rfl rfl ?_
                refine R_iload rfl rfl ?_
                refine T_ald rfl rfl (by omega) (by omega) ?_
                rw [F6.row 99 rfl]
                refine R_push rfl ?_
                refine R_ic rfl (fun h255 => ?_) (fun h255 => ?_)
                · try simp only [ne_eq, b2i_e, b2i_1, Classical.not_not] at h255
                  refine R_push rfl ?_
                  exact J263 _ (by first | (exfalso; omega) | rw [b2i_t (by omega)] | rw [b2i_f (by omega)])
                · try simp only [ne_eq, b2i_e, b2i_1, Classical.not_not] at h255
                  refine R_push rfl ?_
                  refine R_goto rfl ?_
                  exact J263 _ (by first | (exfalso; omega) | rw [b2i_t (by omega)] | rw [b2i_f (by omega)])
            refine R_aload rfl rfl rfl ?_
            refine T_getr (v := 101) rfl rfl rfl rfl ?_
            refine R_push rfl ?_
            refine R_iload rfl rfl ?_
            refine R_iload rfl rfl ?_
            refine R_ic rfl (fun h191 => ?_) (fun h191 => ?_)
            · try simp only [ne_eq, b2i_e, b2i_1, Classical.not_not] at h191
              refine R_iload rfl rfl ?_
              exact J201 _ (by omega)
            · try simp only [ne_eq, b2i_e, b2i_1, Classical.not_not] at h191
              refine R_iload rfl rfl ?_
              refine R_goto rfl ?_
              exact J201 _ (by omega)
          refine R_aload rfl rfl rfl ?_
          refine T_getr (v := 101) rfl rfl rfl rfl ?_
          refine R_push rfl ?_
          refine R_aload rfl rfl rfl ?_
          refine T_getr (v := 105) rfl rfl rfl rfl ?_
          refine R_iload rfl rfl ?_
          refine R_if rfl (fun h171 => ?_) (fun h171 => ?_)
          · try simp only [ne_eq, b2i_e, b2i_1, Classical.not_not] at h171
            refine R_iload rfl rfl ?_
            exact J180 _ (by first | rw [if_pos (by omega)] | rw [if_neg (by omega)])
          · try simp only [ne_eq, b2i_e, b2i_1, Classical.not_not] at h171
            refine R_iload rfl rfl ?_
            refine R_goto rfl ?_
            exact J180 _ (by first | rw [if_pos (by omega)] | rw [if_neg (by omega)])
        refine R_aload rfl rfl rfl ?_
        refine T_getr (v := 101) rfl rfl rfl rfl ?_
        refine R_push rfl ?_
        refine R_aload rfl rfl rfl ?_
        refine T_getr (v := 105) rfl rfl rfl rfl ?_
        refine R_iload rfl rfl ?_
        refine R_if rfl (fun h149 => ?_) (fun h149 => ?_)
        · try simp only [ne_eq, b2i_e, b2i_1, Classical.not_not] at h149
          refine R_iload rfl rfl ?_
          exact J158 _ (by first | rw [if_pos (by omega)] | rw [if_neg (by omega)])
        · try simp only [ne_eq, b2i_e, b2i_1, Classical.not_not] at h149
          refine R_iload rfl rfl ?_
          refine R_goto rfl ?_
          exact J158 _ (by first | rw [if_pos (by omega)] | rw [if_neg (by omega)])
      refine R_aload rfl rfl rfl ?_
      refine T_getr (v := 112) rfl rfl rfl rfl ?_
      refine R_iload rfl rfl ?_
      refine T_ald rfl rfl (by omega) (by omega) ?_
      rw [F0.row 96 rfl]
      refine R_if rfl (fun h81 => ?_) (fun h81 => ?_)
      · try simp only [ne_eq, b2i_e, b2i_1, Classical.not_not] at h81
        refine R_push rfl ?_
        exact J89 _ (by omega)
      · try simp only [ne_eq, b2i_e, b2i_1, Classical.not_not] at h81
        refine R_push rfl ?_
        refine R_goto rfl ?_
        exact J89 _ (by omega)
    refine R_aload rfl rfl rfl ?_
    refine T_getr (v := 112) rfl rfl rfl rfl ?_
    refine R_iload rfl rfl ?_
    refine T_ald rfl rfl (by omega) (by omega) ?_
    rw [F0.row 96 rfl]
    refine R_if rfl (fun h66 => ?_) (fun h66 => ?_)
    · try simp only [ne_eq, b2i_e, b2i_1, Classical.not_not] at h66
      refine R_push rfl ?_
      exact J74 _ (by omega)
    · try simp only [ne_eq, b2i_e, b2i_1, Classical.not_not] at h66
      refine R_push rfl ?_
      refine R_goto rfl ?_
      exact J74 _ (by omega)
  refine R_aload rfl rfl rfl ?_
  refine T_getr (v := 115) rfl rfl rfl rfl ?_
  refine R_iload rfl rfl ?_
  refine T_ald rfl rfl (by omega) (by omega) ?_
  rw [F0.row 99 rfl]
  refine R_push rfl ?_
  refine R_ic rfl (fun h24 => ?_) (fun h24 => ?_)
  · try simp only [ne_eq, b2i_e, b2i_1, Classical.not_not] at h24
    refine R_push rfl ?_
    refine R_goto rfl ?_
    exact J58 _ (by first | (exfalso; omega) | rw [b2i_t (by omega)] | rw [b2i_f (by omega)])
  · try simp only [ne_eq, b2i_e, b2i_1, Classical.not_not] at h24
    refine R_aload rfl rfl rfl ?_
    refine T_getr (v := 115) rfl rfl rfl rfl ?_
    refine R_iload rfl rfl ?_
    refine T_ald rfl rfl (by omega) (by omega) ?_
    rw [F0.row 99 rfl]
    refine R_push rfl ?_
    refine R_ic rfl (fun h34 => ?_) (fun h34 => ?_)
    · try simp only [ne_eq, b2i_e, b2i_1, Classical.not_not] at h34
      refine R_push rfl ?_
      exact J58 _ (by first | (exfalso; omega) | rw [b2i_t (by omega)] | rw [b2i_f (by omega)])
    · try simp only [ne_eq, b2i_e, b2i_1, Classical.not_not] at h34
      refine R_aload rfl rfl rfl ?_
      refine T_getr (v := 105) rfl rfl rfl rfl ?_
      refine R_iload rfl rfl ?_
      refine T_ald rfl rfl (by omega) (by omega) ?_
      rw [F0.row 89 rfl]
      refine R_aload rfl rfl rfl ?_
      refine T_getr (v := 105) rfl rfl rfl rfl ?_
      refine R_iload rfl rfl ?_
      refine T_ald rfl rfl (by omega) (by omega) ?_
      rw [F0.row 89 rfl]
      refine R_ic rfl (fun h50 => ?_) (fun h50 => ?_)
      · try simp only [ne_eq, b2i_e, b2i_1, Classical.not_not] at h50
        refine R_push rfl ?_
        exact J58 _ (by first | (exfalso; omega) | rw [b2i_t (by omega)] | rw [b2i_f (by omega)])
      · try simp only [ne_eq, b2i_e, b2i_1, Classical.not_not] at h50
        refine R_push rfl ?_
        refine R_goto rfl ?_
        exact J58 _ (by first | (exfalso; omega) | rw [b2i_t (by omega)] | rw [b2i_f (by omega)])

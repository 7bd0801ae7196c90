theorem chf_0 {nm fw : Int → Int} {T : Int} (h : ∀ i, 0 ≤ i → i < T → nm i < 100 → fw (nm i) = 0) : ∀ i : Nat, (i : Int) ≤ T → chf nm fw i = 0 := by
  intro i
  induction i with
  | zero => intro _; rfl
  | succ i ih =>
    intro hi
    have e : chf nm fw ((i + 1 : Nat) : Int) = chf nm fw i + (if nm i < 100 then fw (nm i) else 0) := sumZ_s (n := i) (by omega)
    rw [e, ih (by omega)]
    split
    · rw [h i (by omega) (by omega) (by assumption)]; rfl
    · rfl
theorem chg_0 {wh : Int} {nm fw : Int → Int} {T : Int} (h : ∀ i, 0 ≤ i → i < T → nm i < 100 → fw (nm i) = 0) : ∀ i : Nat, (i : Int) ≤ T → (chg wh 0 nm fw i).2.1 = 0 := by
  intro i
  induction i with
  | zero => intro _; rfl
  | succ i ih =>
    intro hi
    have e : chg wh 0 nm fw ((i + 1 : Nat) : Int) = _ := chg_s (n := i) (by omega)
    have z := chf_0 (nm := nm) (fw := fw) h (i + 1) hi
    have z : chf nm fw ((i : Int) + 1) = 0 := z
    rw [e]
    unfold chs
    split
    · show chw wh 0 nm fw (i + 1) = 0
      unfold chw
      rw [z]
      simp
    · exact ih (by omega)
theorem chR_0 {wh : Int} {nm fw : Int → Int} {T : Int} (hT : 0 ≤ T) (h : ∀ i, 0 ≤ i → i < T → nm i < 100 → fw (nm i) = 0) : chR wh 0 nm fw T = -1 := by
  have := chg_0 (wh := wh) h T.toNat (by omega)
  rw [Int.toNat_of_nonneg hT] at this
  unfold chR
  rw [this, if_neg (by simp)]
set_option maxRecDepth 20000 in
set_option maxHeartbeats 2000000 in
theorem sp_X10_change (d : Nat) (hd : 2 ≤ d) (xs : List (Nat × Nat)) (t dd rr : Nat) (σ : Sg) (c P T : Int) (hP : σ 71 26 = P) (h0 : 0 ≤ P ∧ P ≤ 40) (hfl : ∀ p, 0 ≤ p → p < P → 0 ≤ σ 97 p ∧ σ 97 p ≤ 9) (h5 : σ 71 55 = T) (hT : 0 ≤ T ∧ T ≤ 12) (nm fw : Int → Int) (hO : ∀ i, 0 ≤ i → i < T → σ 118 i = nm i) (hfwe : ∀ w, fw w = sumZ (fun q => if σ 112 q = w then σ 97 q else 0) P) (wh fa : Int) (hwhe : sumZ (fun p => b2i (σ 111 p = c ∧ σ 112 p = p)) P = wh) (hfae : sumZ (fun p => if σ 111 p = c then σ 97 p else 0) P = fa) (hz : fa = 0 → ∀ i, 0 ≤ i → i < T → nm i < 100 → fw (nm i) = 0) : Ev d 106 [(87, 0), (0, c)] (Wd xs t dd rr σ) (0, chR wh fa nm fw T) (Wd xs t dd rr σ) := by
  obtain ⟨d, rfl⟩ : ∃ e, d = e + 1 := ⟨d - 1, by omega⟩
  have hwhb : 0 ≤ wh ∧ wh ≤ 40 := by
    have := sumZ_bd (f := fun p => b2i (σ 111 p = c ∧ σ 112 p = p)) (c := 1) h0.1 (fun _ _ _ => b2i_bd)
    rw [← hwhe]; omega
  have hfab : 0 ≤ fa ∧ fa ≤ 360 := by
    have := sumZ_bd (f := fun p => if σ 111 p = c then σ 97 p else 0) (c := 9) h0.1 (fun i i0 i1 => by have := hfl i i0 i1; split <;> omega)
    rw [← hfae]; omega
  have hfw : ∀ w, 0 ≤ fw w ∧ fw w ≤ 360 := fun w => by
    have := sumZ_bd (f := fun p => if σ 112 p = w then σ 97 p else 0) (c := 9) h0.1 (fun i i0 i1 => by have := hfl i i0 i1; split <;> omega)
    rw [hfwe]; omega
  refine evP (nL := 16) (code := k_X10_change) rfl pb0 rfl (fun E hE => ?_)
  show pCm (Ev d) k_X10_change E 0 [(87, 0), (0, c), (9, 0), (9, 0), (9, 0), (9, 0), (9, 0), (9, 0), (9, 0), (9, 0), (9, 0), (9, 0), (9, 0), (9, 0), (9, 0), (9, 0)] [] _
  refine R_aload rfl rfl rfl ?_
  refine R_iload rfl rfl ?_
  have hw1 := sp_X10_wholesOf d (by omega) xs t dd rr σ c P hP h0
  rw [hwhe] at hw1
  refine R_invv rfl rfl rfl rfl rfl rfl (hw1) rfl ?_
  show pCm _ _ _ 5 _ [(0, _)] _
  refine R_istore rfl rfl ?_
  show pCm _ _ _ _ [_, _, _, _, _, _, _, _, _, _, _, _, _, _, _, _] _ _
  refine R_aload rfl rfl rfl ?_
  refine R_iload rfl rfl ?_
  have hw2 := sp_X10_faultsOf d (by omega) xs t dd rr σ c P hP h0 hfl
  rw [hfae] at hw2
  refine R_invv rfl rfl rfl rfl rfl rfl (hw2) rfl ?_
  show pCm _ _ _ 11 _ [(0, _)] _
  refine R_istore rfl rfl ?_
  show pCm _ _ _ _ [_, _, _, _, _, _, _, _, _, _, _, _, _, _, _, _] _ _
  refine R_push rfl ?_
  refine R_istore rfl rfl ?_
  show pCm _ _ _ _ [_, _, _, _, _, _, _, _, _, _, _, _, _, _, _, _] _ _
  refine R_push rfl ?_
  refine R_lstore rfl rfl ?_
  show pCm _ _ _ _ [_, _, _, _, _, _, _, _, _, _, _, _, _, _, _, _] _ _
  refine R_push rfl ?_
  refine R_lstore rfl rfl ?_
  show pCm _ _ _ _ [_, _, _, _, _, _, _, _, _, _, _, _, _, _, _, _] _ _
  refine R_push rfl ?_
  refine R_istore rfl rfl ?_
  show pCm _ _ _ _ [_, _, _, _, _, _, _, _, _, _, _, _, _, _, _, _] _ _
  refine R_push rfl ?_
  refine R_istore rfl rfl ?_
  show pCm _ _ _ _ [_, _, _, _, _, _, _, _, _, _, _, _, _, _, _, _] _ _
  refine R_push rfl ?_
  refine R_istore rfl rfl ?_
  show pCm _ _ _ _ [_, _, _, _, _, _, _, _, _, _, _, _, _, _, _, _] _ _
  refine R_push rfl ?_
  refine R_istore rfl rfl ?_
  show pCm _ _ _ _ [_, _, _, _, _, _, _, _, _, _, _, _, _, _, _, _] _ _
  refine fgt wc_X10_change [1, 1, 1, 1, 1, 1, 1, 1, 1, 1, 1, 1, 1, 0, 0, 0] ?_
  refine loop (pc := 33) (α := Int × Int × Int × Int × Int × Int × Int) (fun x => (T - x.1).toNat) (fun x => ([(87, 0), (0, c), (0, wh), (0, fa), (0, x.2.1), (1, x.2.2.1), (9, 0), (1, x.2.2.2.1), (9, 0), (0, x.2.2.2.2.1), (0, x.2.2.2.2.2.1), (0, x.2.2.2.2.2.2), (0, x.1), (9, 0), (9, 0), (9, 0)], Wd xs t dd rr σ)) (fun x => (0 ≤ x.1 ∧ x.1 ≤ T) ∧ (0 < fa ∧ chg wh fa nm fw x.1 = (x.2.1, x.2.2.1, x.2.2.2.1) ∨ fa = 0 ∧ x.2.1 = -1 ∧ x.2.2.1 = 0 ∧ x.2.2.2.1 = 1) ∧ (x.2.1 = -1 ∨ 2 ≤ x.2.1 ∧ 2 ≤ wh - x.2.1 ∧ x.2.2.1 = (x.2.2.2.2.1 * (wh - x.2.1) - (fa - x.2.2.2.2.1) * x.2.1) * (x.2.2.2.2.1 * (wh - x.2.1) - (fa - x.2.2.2.2.1) * x.2.1) ∧ x.2.2.2.1 = x.2.1 * (wh - x.2.1)) ∧ (0 ≤ x.2.2.2.2.1 ∧ x.2.2.2.2.1 ≤ 4320) ∧ chn nm x.1 = x.2.2.2.2.2.1 ∧ chf nm fw x.1 = x.2.2.2.2.2.2) ?_ (0, -1, 0, 1, 0, 0, 0) ?_
  · intro ⟨i, b, bw, bb, bf, n, f⟩ ⟨⟨hi0, hi1⟩, hch, hb4, hbf, hcn0, hcf0⟩ ih
    dsimp only at hi0 hi1 hch hb4 hbf hcn0 hcf0 ⊢
    have hgb : (-1 ≤ b ∧ b ≤ 40) ∧ (0 ≤ bw ∧ bw ≤ 250000000000) ∧ 1 ≤ bb ∧ bb ≤ 1000 := by
      rcases hch with w | w
      · have hgb := chg_bd (nm := nm) (fw := fw) hfw hwhb hfab i.toNat (by omega)
        rw [Int.toNat_of_nonneg hi0, w.2] at hgb
        exact hgb
      · omega
    have hnb := chn_bd (nm := nm) hi0
    have hfb := chf_bd (nm := nm) hfw hi0
    rw [hcn0] at hnb
    rw [hcf0] at hfb
    have hnmi : i < T → σ 118 i = nm i := hO i hi0
    refine R_iload rfl rfl ?_
    refine R_aload rfl rfl rfl ?_
    refine T_geti rfl rfl rfl ?_
    refine R_ic rfl (fun h39 => ?_) (fun h39 => ?_)
    · try simp only [ne_eq, b2i_e, b2i_1, Classical.not_not] at h39
      refine R_iload rfl rfl ?_
      refine R_if rfl (fun h204 => ?_) (fun h204 => ?_)
      · try simp only [ne_eq, b2i_e, b2i_1, Classical.not_not] at h204
        refine R_push rfl ?_
        refine R_iret rfl ?_
        first
        | (have hb1 : b = -1 := by omega
           exact hE _ (by
            rcases hch with w | w
            · unfold chR; rw [← show i = T by omega, w.2]; dsimp only; rw [hb1]; split <;> rfl
            · rw [w.1, chR_0 hT.1 (hz w.1)]))
        | exact hE _ (by
            rcases hch with w | w
            · rcases hb4 with z | z
              · exfalso; omega
              · have e1 : 4 * fa * bb = 4 * (bf + (fa - bf)) * b * (wh - b) := by rw [z.2.2.2, ← Int.mul_assoc, show bf + (fa - bf) = fa by omega]
                have h2 : two bf b (fa - bf) (wh - b) = 1 ∧ (2 ≤ b ∧ 2 ≤ wh - b ∧ 4 * (bf + (fa - bf)) * b * (wh - b) < (bf * (wh - b) - (fa - bf) * b) * (bf * (wh - b) - (fa - bf) * b)) ∨ two bf b (fa - bf) (wh - b) = 0 ∧ ¬ (2 ≤ b ∧ 2 ≤ wh - b ∧ 4 * (bf + (fa - bf)) * b * (wh - b) < (bf * (wh - b) - (fa - bf) * b) * (bf * (wh - b) - (fa - bf) * b)) := b2i_or
                unfold chR
                rw [← show i = T by omega, w.2]
                dsimp only
                rw [e1, z.2.2.1]
                rcases h2 with h2 | h2
                · first | (exfalso; omega) | rw [if_pos h2.2.2.2]
                · first | (exfalso; omega) | rw [if_neg (fun q => h2.2 ⟨z.1, z.2.1, q⟩)]
            · exfalso; omega)
      · try simp only [ne_eq, b2i_e, b2i_1, Classical.not_not] at h204
        refine R_iload rfl rfl ?_
        refine R_iload rfl rfl ?_
        refine R_iload rfl rfl ?_
        refine R_iload rfl rfl ?_
        refine R_sub rfl (by omega) (by omega) ?_
        refine R_iload rfl rfl ?_
        refine R_iload rfl rfl ?_
        refine R_sub rfl (by omega) (by omega) ?_
        refine R_inv rfl rfl rfl rfl rfl (sp_X10_areTwoW d (by omega) _ bf b (fa - bf) (wh - b) ⟨by omega, by omega⟩ ⟨by omega, by omega⟩ ⟨by omega, by omega⟩ ⟨by omega, by omega⟩) rfl ?_
        show pCm _ _ _ 222 _ [(0, _)] _
        refine R_if rfl (fun h222 => ?_) (fun h222 => ?_)
        · try simp only [ne_eq, b2i_e, b2i_1, Classical.not_not] at h222
          refine R_push rfl ?_
          refine R_iret rfl ?_
          first
          | (have hb1 : b = -1 := by omega
             exact hE _ (by
              rcases hch with w | w
              · unfold chR; rw [← show i = T by omega, w.2]; dsimp only; rw [hb1]; split <;> rfl
              · rw [w.1, chR_0 hT.1 (hz w.1)]))
          | exact hE _ (by
              rcases hch with w | w
              · rcases hb4 with z | z
                · exfalso; omega
                · have e1 : 4 * fa * bb = 4 * (bf + (fa - bf)) * b * (wh - b) := by rw [z.2.2.2, ← Int.mul_assoc, show bf + (fa - bf) = fa by omega]
                  have h2 : two bf b (fa - bf) (wh - b) = 1 ∧ (2 ≤ b ∧ 2 ≤ wh - b ∧ 4 * (bf + (fa - bf)) * b * (wh - b) < (bf * (wh - b) - (fa - bf) * b) * (bf * (wh - b) - (fa - bf) * b)) ∨ two bf b (fa - bf) (wh - b) = 0 ∧ ¬ (2 ≤ b ∧ 2 ≤ wh - b ∧ 4 * (bf + (fa - bf)) * b * (wh - b) < (bf * (wh - b) - (fa - bf) * b) * (bf * (wh - b) - (fa - bf) * b)) := b2i_or
                  unfold chR
                  rw [← show i = T by omega, w.2]
                  dsimp only
                  rw [e1, z.2.2.1]
                  rcases h2 with h2 | h2
                  · first | (exfalso; omega) | rw [if_pos h2.2.2.2]
                  · first | (exfalso; omega) | rw [if_neg (fun q => h2.2 ⟨z.1, z.2.1, q⟩)]
              · exfalso; omega)
        · try simp only [ne_eq, b2i_e, b2i_1, Classical.not_not] at h222
          refine R_iload rfl rfl ?_
          refine R_goto rfl ?_
          refine R_iret rfl ?_
          first
          | (have hb1 : b = -1 := by omega
             exact hE _ (by
              rcases hch with w | w
              · unfold chR; rw [← show i = T by omega, w.2]; dsimp only; rw [hb1]; split <;> rfl
              · rw [w.1, chR_0 hT.1 (hz w.1)]))
          | exact hE _ (by
              rcases hch with w | w
              · rcases hb4 with z | z
                · exfalso; omega
                · have e1 : 4 * fa * bb = 4 * (bf + (fa - bf)) * b * (wh - b) := by rw [z.2.2.2, ← Int.mul_assoc, show bf + (fa - bf) = fa by omega]
                  have h2 : two bf b (fa - bf) (wh - b) = 1 ∧ (2 ≤ b ∧ 2 ≤ wh - b ∧ 4 * (bf + (fa - bf)) * b * (wh - b) < (bf * (wh - b) - (fa - bf) * b) * (bf * (wh - b) - (fa - bf) * b)) ∨ two bf b (fa - bf) (wh - b) = 0 ∧ ¬ (2 ≤ b ∧ 2 ≤ wh - b ∧ 4 * (bf + (fa - bf)) * b * (wh - b) < (bf * (wh - b) - (fa - bf) * b) * (bf * (wh - b) - (fa - bf) * b)) := b2i_or
                  unfold chR
                  rw [← show i = T by omega, w.2]
                  dsimp only
                  rw [e1, z.2.2.1]
                  rcases h2 with h2 | h2
                  · first | (exfalso; omega) | rw [if_pos h2.2.2.2]
                  · first | (exfalso; omega) | rw [if_neg (fun q => h2.2 ⟨z.1, z.2.1, q⟩)]
              · exfalso; omega)
    · try simp only [ne_eq, b2i_e, b2i_1, Classical.not_not] at h39
      refine R_aload rfl rfl rfl ?_
      refine T_getr (v := 134) rfl rfl rfl rfl ?_
      refine R_iload rfl rfl ?_
      refine T_ald rfl rfl (by omega) (by omega) ?_
      have hn48 : i < T := by omega
      rw [hO i hi0 hn48]
      refine R_push rfl ?_
      refine R_ic rfl (fun h51 => ?_) (fun h51 => ?_)
      · try simp only [ne_eq, b2i_e, b2i_1, Classical.not_not] at h51
        refine R_inc rfl rfl (by omega) (by omega) ?_
        show pCm _ _ _ _ [_, _, _, _, _, _, _, _, _, _, _, _, _, _, _, _] _ _
        refine R_goto rfl ?_
        refine fgt wc_X10_change [1, 1, 1, 1, 1, 1, 1, 1, 1, 1, 1, 1, 1, 0, 0, 0] ?_
        first
        | (have hw : ¬ nm i < 100 := by omega
           exact ih (i + 1, b, bw, bb, bf, n, f) ⟨by dsimp only; omega, by
             dsimp only
             rcases hch with w | w
             · exact Or.inl ⟨w.1, by rw [chg_n hi0 (fun w => hw w.1)]; exact w.2⟩
             · exact Or.inr w, hb4, hbf, by dsimp only; rw [chn_h hi0 hw, hcn0], by dsimp only; rw [chf_h hi0 hw, hcf0]⟩ (by dsimp only; omega))
        | (exact ih (i + 1, n + 1, V, Bk, f + F, n + 1, f + F) ⟨by dsimp only; omega, by
             dsimp only
             rcases hch with w | w
             · refine Or.inl ⟨w.1, ?_⟩
               rw [chg_y hi0 (by rw [hcn, hV, hBk, w.2]; dsimp only; exact ⟨by omega, by omega, by omega, by first | exact Or.inl (by omega) | exact Or.inr (by have := lc_p (a := V * bb) (b := bw * (n + 1) * (wh - (n + 1))) (by omega); omega)⟩), hcn, hV, hBk]
             · exfalso; omega, by dsimp only; exact Or.inr ⟨by omega, by omega, hV2.symm, hBk2.symm⟩, by dsimp only; omega, hcn, hcf⟩ (by dsimp only; omega))
        | (exact ih (i + 1, b, bw, bb, bf, n + 1, f + F) ⟨by dsimp only; omega, by
             dsimp only
             rcases hch with w | w
             · refine Or.inl ⟨w.1, ?_⟩
               rw [chg_n hi0 (by rw [hcn, hV, hBk, w.2]; dsimp only; intro w; first | omega | (have := lc_n (a := V * bb) (b := bw * (n + 1) * (wh - (n + 1))) (by omega); omega)), w.2]
             · exact Or.inr w, hb4, hbf, hcn, hcf⟩ (by dsimp only; omega))
      · try simp only [ne_eq, b2i_e, b2i_1, Classical.not_not] at h51
        have hnmi := hnmi (by omega)
        rw [hnmi] at *
        refine R_inc rfl rfl (by omega) (by omega) ?_
        show pCm _ _ _ _ [_, _, _, _, _, _, _, _, _, _, _, _, _, _, _, _] _ _
        refine R_push rfl ?_
        refine R_istore rfl rfl ?_
        show pCm _ _ _ _ [_, _, _, _, _, _, _, _, _, _, _, _, _, _, _, _] _ _
        refine fgt wc_X10_change [1, 1, 1, 1, 1, 1, 1, 1, 1, 1, 1, 1, 1, 1, 0, 0] ?_
        suffices hh : pCm (Ev d) k_X10_change E 60 [(87, 0), (0, c), (0, wh), (0, fa), (0, b), (1, bw), (9, 0), (1, bb), (9, 0), (0, bf), (0, n + 1), (0, f + 0), (0, i), (0, 0), (9, 0), (9, 0)] [] (Wd xs t dd rr σ) by rwa [Int.add_zero] at hh
        refine loop (pc := 60) (α := Int × Int) (fun x => (P - x.2).toNat) (fun x => ([(87, 0), (0, c), (0, wh), (0, fa), (0, b), (1, bw), (9, 0), (1, bb), (9, 0), (0, bf), (0, n + 1), (0, f + x.1), (0, i), (0, x.2), (9, 0), (9, 0)], Wd xs t dd rr σ)) (fun x => (0 ≤ x.2 ∧ x.2 ≤ P) ∧ x.1 = sumZ (fun q => if σ 112 q = nm i then σ 97 q else 0) x.2) ?_ (0, 0) ?_
        · intro ⟨F0, p⟩ ⟨⟨hp0, hp1⟩, hF0⟩ ihp
          dsimp only at hp0 hp1 hF0 ⊢
          have hfp : p < P → _ := hfl p hp0
          have hss := sumZ_s (f := fun q => if σ 112 q = nm i then σ 97 q else 0) hp0
          have hsb := sumZ_bd (f := fun q => if σ 112 q = nm i then σ 97 q else 0) (c := 9) hp0 (fun q q0 q1 => by have := hfl q q0 (by omega); split <;> omega)
          rw [← hF0] at hss hsb
          refine R_iload rfl rfl ?_
          refine R_aload rfl rfl rfl ?_
          refine T_geti rfl rfl rfl ?_
          refine R_ic rfl (fun h66 => ?_) (fun h66 => ?_)
          · try simp only [ne_eq, b2i_e, b2i_1, Classical.not_not] at h66
            obtain ⟨F, hFe⟩ : ∃ x, fw (nm i) = x := ⟨_, rfl⟩
            have hF0F : F0 = F := by rw [hF0, ← hFe, hfwe, show p = P by omega]
            clear hss hsb
            subst hF0F
            have hcn : chn nm (i + 1) = n + 1 := by rw [chn_w hi0 (by omega), hcn0]
            have hcf : chf nm fw (i + 1) = f + F0 := by rw [chf_w hi0 (by omega), hcf0, hFe]
            have hwb := hfw (nm i)
            rw [hFe] at hwb
            obtain ⟨F, hFF⟩ : ∃ x, F0 = x := ⟨_, rfl⟩
            rw [hFF] at hcf hwb
            obtain ⟨V, hV⟩ : ∃ x, chw wh fa nm fw (i + 1) = x := ⟨_, rfl⟩
            obtain ⟨Bk, hBk⟩ : ∃ x, chb wh nm (i + 1) = x := ⟨_, rfl⟩
            have hV2 : ((f + F) * (wh - (n + 1)) - (fa - (f + F)) * (n + 1)) * ((f + F) * (wh - (n + 1)) - (fa - (f + F)) * (n + 1)) = V := by rw [← hV]; unfold chw; rw [hcn, hcf]
            have hBk2 : (n + 1) * (wh - (n + 1)) = Bk := by rw [← hBk]; unfold chb; rw [hcn]
            have hcw := chw_bd (nm := nm) (fw := fw) (i := i + 1) hfw ⟨by omega, by omega⟩ hwhb hfab
            rw [hV, hBk] at hcw
            rw [hFF]
            have m1 := mulb (a := f + F) (b := wh - (n + 1)) (A := 5000) (B := 40) ⟨by omega, by omega⟩ ⟨by omega, by omega⟩
            have m2 := mulb (a := fa - (f + F)) (b := n + 1) (A := 5000) (B := 40) ⟨by omega, by omega⟩ ⟨by omega, by omega⟩
            have mB := mulb (a := V) (b := bb) (A := 250000000000) (B := 1000) ⟨by omega, by omega⟩ ⟨by omega, by omega⟩
            have mC := mulb (a := bw) (b := n + 1) (A := 250000000000) (B := 40) ⟨by omega, by omega⟩ ⟨by omega, by omega⟩
            have mD := mulb (a := bw * (n + 1)) (b := wh - (n + 1)) (A := 10000000000000) (B := 40) ⟨by omega, by omega⟩ ⟨by omega, by omega⟩
            have mE : bw * (n + 1) * (wh - (n + 1)) = bw * Bk := by rw [Int.mul_assoc, hBk2]
            refine R_iload rfl rfl ?_
            refine R_iload rfl rfl ?_
            refine R_sub rfl (by omega) (by omega) ?_
            refine R_istore rfl rfl ?_
            show pCm _ _ _ _ [_, _, _, _, _, _, _, _, _, _, _, _, _, _, _, _] _ _
            refine R_iload rfl rfl ?_
            refine R_iload rfl rfl ?_
            refine R_mul rfl (by omega) (by omega) ?_
            refine R_iload rfl rfl ?_
            refine R_iload rfl rfl ?_
            refine R_sub rfl (by omega) (by omega) ?_
            refine R_iload rfl rfl ?_
            refine R_mul rfl (by omega) (by omega) ?_
            refine R_sub rfl (by omega) (by omega) ?_
            refine R_i2l rfl ?_
            refine R_lstore rfl rfl ?_
            show pCm _ _ _ _ [_, _, _, _, _, _, _, _, _, _, _, _, _, _, _, _] _ _
            refine R_iload rfl rfl ?_
            refine R_push rfl ?_
            refine R_ic rfl (fun h133 => ?_) (fun h133 => ?_)
            · try simp only [ne_eq, b2i_e, b2i_1, Classical.not_not] at h133
              refine R_inc rfl rfl (by omega) (by omega) ?_
              show pCm _ _ _ _ [_, _, _, _, _, _, _, _, _, _, _, _, _, _, _, _] _ _
              refine R_goto rfl ?_
              refine fgt wc_X10_change [1, 1, 1, 1, 1, 1, 1, 1, 1, 1, 1, 1, 1, 0, 0, 0] ?_
              first
              | (have hw : ¬ nm i < 100 := by omega
                 exact ih (i + 1, b, bw, bb, bf, n, f) ⟨by dsimp only; omega, by
                   dsimp only
                   rcases hch with w | w
                   · exact Or.inl ⟨w.1, by rw [chg_n hi0 (fun w => hw w.1)]; exact w.2⟩
                   · exact Or.inr w, hb4, hbf, by dsimp only; rw [chn_h hi0 hw, hcn0], by dsimp only; rw [chf_h hi0 hw, hcf0]⟩ (by dsimp only; omega))
              | (exact ih (i + 1, n + 1, V, Bk, f + F, n + 1, f + F) ⟨by dsimp only; omega, by
                   dsimp only
                   rcases hch with w | w
                   · refine Or.inl ⟨w.1, ?_⟩
                     rw [chg_y hi0 (by rw [hcn, hV, hBk, w.2]; dsimp only; exact ⟨by omega, by omega, by omega, by first | exact Or.inl (by omega) | exact Or.inr (by have := lc_p (a := V * bb) (b := bw * (n + 1) * (wh - (n + 1))) (by omega); omega)⟩), hcn, hV, hBk]
                   · exfalso; omega, by dsimp only; exact Or.inr ⟨by omega, by omega, hV2.symm, hBk2.symm⟩, by dsimp only; omega, hcn, hcf⟩ (by dsimp only; omega))
              | (exact ih (i + 1, b, bw, bb, bf, n + 1, f + F) ⟨by dsimp only; omega, by
                   dsimp only
                   rcases hch with w | w
                   · refine Or.inl ⟨w.1, ?_⟩
                     rw [chg_n hi0 (by rw [hcn, hV, hBk, w.2]; dsimp only; intro w; first | omega | (have := lc_n (a := V * bb) (b := bw * (n + 1) * (wh - (n + 1))) (by omega); omega)), w.2]
                   · exact Or.inr w, hb4, hbf, hcn, hcf⟩ (by dsimp only; omega))
            · try simp only [ne_eq, b2i_e, b2i_1, Classical.not_not] at h133
              refine R_iload rfl rfl ?_
              refine R_push rfl ?_
              refine R_ic rfl (fun h139 => ?_) (fun h139 => ?_)
              · try simp only [ne_eq, b2i_e, b2i_1, Classical.not_not] at h139
                refine R_inc rfl rfl (by omega) (by omega) ?_
                show pCm _ _ _ _ [_, _, _, _, _, _, _, _, _, _, _, _, _, _, _, _] _ _
                refine R_goto rfl ?_
                refine fgt wc_X10_change [1, 1, 1, 1, 1, 1, 1, 1, 1, 1, 1, 1, 1, 0, 0, 0] ?_
                first
                | (have hw : ¬ nm i < 100 := by omega
                   exact ih (i + 1, b, bw, bb, bf, n, f) ⟨by dsimp only; omega, by
                     dsimp only
                     rcases hch with w | w
                     · exact Or.inl ⟨w.1, by rw [chg_n hi0 (fun w => hw w.1)]; exact w.2⟩
                     · exact Or.inr w, hb4, hbf, by dsimp only; rw [chn_h hi0 hw, hcn0], by dsimp only; rw [chf_h hi0 hw, hcf0]⟩ (by dsimp only; omega))
                | (exact ih (i + 1, n + 1, V, Bk, f + F, n + 1, f + F) ⟨by dsimp only; omega, by
                     dsimp only
                     rcases hch with w | w
                     · refine Or.inl ⟨w.1, ?_⟩
                       rw [chg_y hi0 (by rw [hcn, hV, hBk, w.2]; dsimp only; exact ⟨by omega, by omega, by omega, by first | exact Or.inl (by omega) | exact Or.inr (by have := lc_p (a := V * bb) (b := bw * (n + 1) * (wh - (n + 1))) (by omega); omega)⟩), hcn, hV, hBk]
                     · exfalso; omega, by dsimp only; exact Or.inr ⟨by omega, by omega, hV2.symm, hBk2.symm⟩, by dsimp only; omega, hcn, hcf⟩ (by dsimp only; omega))
                | (exact ih (i + 1, b, bw, bb, bf, n + 1, f + F) ⟨by dsimp only; omega, by
                     dsimp only
                     rcases hch with w | w
                     · refine Or.inl ⟨w.1, ?_⟩
                       rw [chg_n hi0 (by rw [hcn, hV, hBk, w.2]; dsimp only; intro w; first | omega | (have := lc_n (a := V * bb) (b := bw * (n + 1) * (wh - (n + 1))) (by omega); omega)), w.2]
                     · exact Or.inr w, hb4, hbf, hcn, hcf⟩ (by dsimp only; omega))
              · try simp only [ne_eq, b2i_e, b2i_1, Classical.not_not] at h139
                refine R_iload rfl rfl ?_
                refine R_if rfl (fun h143 => ?_) (fun h143 => ?_)
                · try simp only [ne_eq, b2i_e, b2i_1, Classical.not_not] at h143
                  refine R_inc rfl rfl (by omega) (by omega) ?_
                  show pCm _ _ _ _ [_, _, _, _, _, _, _, _, _, _, _, _, _, _, _, _] _ _
                  refine R_goto rfl ?_
                  refine fgt wc_X10_change [1, 1, 1, 1, 1, 1, 1, 1, 1, 1, 1, 1, 1, 0, 0, 0] ?_
                  first
                  | (have hw : ¬ nm i < 100 := by omega
                     exact ih (i + 1, b, bw, bb, bf, n, f) ⟨by dsimp only; omega, by
                       dsimp only
                       rcases hch with w | w
                       · exact Or.inl ⟨w.1, by rw [chg_n hi0 (fun w => hw w.1)]; exact w.2⟩
                       · exact Or.inr w, hb4, hbf, by dsimp only; rw [chn_h hi0 hw, hcn0], by dsimp only; rw [chf_h hi0 hw, hcf0]⟩ (by dsimp only; omega))
                  | (exact ih (i + 1, n + 1, V, Bk, f + F, n + 1, f + F) ⟨by dsimp only; omega, by
                       dsimp only
                       rcases hch with w | w
                       · refine Or.inl ⟨w.1, ?_⟩
                         rw [chg_y hi0 (by rw [hcn, hV, hBk, w.2]; dsimp only; exact ⟨by omega, by omega, by omega, by first | exact Or.inl (by omega) | exact Or.inr (by have := lc_p (a := V * bb) (b := bw * (n + 1) * (wh - (n + 1))) (by omega); omega)⟩), hcn, hV, hBk]
                       · exfalso; omega, by dsimp only; exact Or.inr ⟨by omega, by omega, hV2.symm, hBk2.symm⟩, by dsimp only; omega, hcn, hcf⟩ (by dsimp only; omega))
                  | (exact ih (i + 1, b, bw, bb, bf, n + 1, f + F) ⟨by dsimp only; omega, by
                       dsimp only
                       rcases hch with w | w
                       · refine Or.inl ⟨w.1, ?_⟩
                         rw [chg_n hi0 (by rw [hcn, hV, hBk, w.2]; dsimp only; intro w; first | omega | (have := lc_n (a := V * bb) (b := bw * (n + 1) * (wh - (n + 1))) (by omega); omega)), w.2]
                       · exact Or.inr w, hb4, hbf, hcn, hcf⟩ (by dsimp only; omega))
                · try simp only [ne_eq, b2i_e, b2i_1, Classical.not_not] at h143
                  refine R_iload rfl rfl ?_
                  refine R_if rfl (fun h148 => ?_) (fun h148 => ?_)
                  · try simp only [ne_eq, b2i_e, b2i_1, Classical.not_not] at h148
                    refine R_iload rfl rfl ?_
                    refine R_istore rfl rfl ?_
                    show pCm _ _ _ _ [_, _, _, _, _, _, _, _, _, _, _, _, _, _, _, _] _ _
                    refine R_lload rfl rfl ?_
                    refine R_lload rfl rfl ?_
                    refine R_lmul rfl (by omega) (by omega) ?_
                    rw [hV2]
                    refine R_lstore rfl rfl ?_
                    show pCm _ _ _ _ [_, _, _, _, _, _, _, _, _, _, _, _, _, _, _, _] _ _
                    refine R_iload rfl rfl ?_
                    refine R_iload rfl rfl ?_
                    refine R_mul rfl (by omega) (by omega) ?_
                    rw [hBk2]
                    refine R_i2l rfl ?_
                    refine R_lstore rfl rfl ?_
                    show pCm _ _ _ _ [_, _, _, _, _, _, _, _, _, _, _, _, _, _, _, _] _ _
                    refine R_iload rfl rfl ?_
                    refine R_istore rfl rfl ?_
                    show pCm _ _ _ _ [_, _, _, _, _, _, _, _, _, _, _, _, _, _, _, _] _ _
                    refine R_inc rfl rfl (by omega) (by omega) ?_
                    show pCm _ _ _ _ [_, _, _, _, _, _, _, _, _, _, _, _, _, _, _, _] _ _
                    refine R_goto rfl ?_
                    refine fgt wc_X10_change [1, 1, 1, 1, 1, 1, 1, 1, 1, 1, 1, 1, 1, 0, 0, 0] ?_
                    first
                    | (have hw : ¬ nm i < 100 := by omega
                       exact ih (i + 1, b, bw, bb, bf, n, f) ⟨by dsimp only; omega, by
                         dsimp only
                         rcases hch with w | w
                         · exact Or.inl ⟨w.1, by rw [chg_n hi0 (fun w => hw w.1)]; exact w.2⟩
                         · exact Or.inr w, hb4, hbf, by dsimp only; rw [chn_h hi0 hw, hcn0], by dsimp only; rw [chf_h hi0 hw, hcf0]⟩ (by dsimp only; omega))
                    | (exact ih (i + 1, n + 1, V, Bk, f + F, n + 1, f + F) ⟨by dsimp only; omega, by
                         dsimp only
                         rcases hch with w | w
                         · refine Or.inl ⟨w.1, ?_⟩
                           rw [chg_y hi0 (by rw [hcn, hV, hBk, w.2]; dsimp only; exact ⟨by omega, by omega, by omega, by first | exact Or.inl (by omega) | exact Or.inr (by have := lc_p (a := V * bb) (b := bw * (n + 1) * (wh - (n + 1))) (by omega); omega)⟩), hcn, hV, hBk]
                         · exfalso; omega, by dsimp only; exact Or.inr ⟨by omega, by omega, hV2.symm, hBk2.symm⟩, by dsimp only; omega, hcn, hcf⟩ (by dsimp only; omega))
                    | (exact ih (i + 1, b, bw, bb, bf, n + 1, f + F) ⟨by dsimp only; omega, by
                         dsimp only
                         rcases hch with w | w
                         · refine Or.inl ⟨w.1, ?_⟩
                           rw [chg_n hi0 (by rw [hcn, hV, hBk, w.2]; dsimp only; intro w; first | omega | (have := lc_n (a := V * bb) (b := bw * (n + 1) * (wh - (n + 1))) (by omega); omega)), w.2]
                         · exact Or.inr w, hb4, hbf, hcn, hcf⟩ (by dsimp only; omega))
                  · try simp only [ne_eq, b2i_e, b2i_1, Classical.not_not] at h148
                    refine R_lload rfl rfl ?_
                    refine R_lload rfl rfl ?_
                    refine R_lmul rfl (by omega) (by omega) ?_
                    rw [hV2]
                    refine R_lload rfl rfl ?_
                    refine R_lmul rfl (by omega) (by omega) ?_
                    refine R_lload rfl rfl ?_
                    refine R_iload rfl rfl ?_
                    refine R_i2l rfl ?_
                    refine R_lmul rfl (by omega) (by omega) ?_
                    refine R_iload rfl rfl ?_
                    refine R_i2l rfl ?_
                    refine R_lmul rfl (by omega) (by omega) ?_
                    refine R_lcmp rfl ?_
                    refine R_if rfl (fun h170 => ?_) (fun h170 => ?_)
                    · try simp only [ne_eq, b2i_e, b2i_1, Classical.not_not] at h170
                      refine R_inc rfl rfl (by omega) (by omega) ?_
                      show pCm _ _ _ _ [_, _, _, _, _, _, _, _, _, _, _, _, _, _, _, _] _ _
                      refine R_goto rfl ?_
                      refine fgt wc_X10_change [1, 1, 1, 1, 1, 1, 1, 1, 1, 1, 1, 1, 1, 0, 0, 0] ?_
                      first
                      | (have hw : ¬ nm i < 100 := by omega
                         exact ih (i + 1, b, bw, bb, bf, n, f) ⟨by dsimp only; omega, by
                           dsimp only
                           rcases hch with w | w
                           · exact Or.inl ⟨w.1, by rw [chg_n hi0 (fun w => hw w.1)]; exact w.2⟩
                           · exact Or.inr w, hb4, hbf, by dsimp only; rw [chn_h hi0 hw, hcn0], by dsimp only; rw [chf_h hi0 hw, hcf0]⟩ (by dsimp only; omega))
                      | (exact ih (i + 1, n + 1, V, Bk, f + F, n + 1, f + F) ⟨by dsimp only; omega, by
                           dsimp only
                           rcases hch with w | w
                           · refine Or.inl ⟨w.1, ?_⟩
                             rw [chg_y hi0 (by rw [hcn, hV, hBk, w.2]; dsimp only; exact ⟨by omega, by omega, by omega, by first | exact Or.inl (by omega) | exact Or.inr (by have := lc_p (a := V * bb) (b := bw * (n + 1) * (wh - (n + 1))) (by omega); omega)⟩), hcn, hV, hBk]
                           · exfalso; omega, by dsimp only; exact Or.inr ⟨by omega, by omega, hV2.symm, hBk2.symm⟩, by dsimp only; omega, hcn, hcf⟩ (by dsimp only; omega))
                      | (exact ih (i + 1, b, bw, bb, bf, n + 1, f + F) ⟨by dsimp only; omega, by
                           dsimp only
                           rcases hch with w | w
                           · refine Or.inl ⟨w.1, ?_⟩
                             rw [chg_n hi0 (by rw [hcn, hV, hBk, w.2]; dsimp only; intro w; first | omega | (have := lc_n (a := V * bb) (b := bw * (n + 1) * (wh - (n + 1))) (by omega); omega)), w.2]
                           · exact Or.inr w, hb4, hbf, hcn, hcf⟩ (by dsimp only; omega))
                    · try simp only [ne_eq, b2i_e, b2i_1, Classical.not_not] at h170
                      refine R_iload rfl rfl ?_
                      refine R_istore rfl rfl ?_
                      show pCm _ _ _ _ [_, _, _, _, _, _, _, _, _, _, _, _, _, _, _, _] _ _
                      refine R_lload rfl rfl ?_
                      refine R_lload rfl rfl ?_
                      refine R_lmul rfl (by omega) (by omega) ?_
                      rw [hV2]
                      refine R_lstore rfl rfl ?_
                      show pCm _ _ _ _ [_, _, _, _, _, _, _, _, _, _, _, _, _, _, _, _] _ _
                      refine R_iload rfl rfl ?_
                      refine R_iload rfl rfl ?_
                      refine R_mul rfl (by omega) (by omega) ?_
                      rw [hBk2]
                      refine R_i2l rfl ?_
                      refine R_lstore rfl rfl ?_
                      show pCm _ _ _ _ [_, _, _, _, _, _, _, _, _, _, _, _, _, _, _, _] _ _
                      refine R_iload rfl rfl ?_
                      refine R_istore rfl rfl ?_
                      show pCm _ _ _ _ [_, _, _, _, _, _, _, _, _, _, _, _, _, _, _, _] _ _
                      refine R_inc rfl rfl (by omega) (by omega) ?_
                      show pCm _ _ _ _ [_, _, _, _, _, _, _, _, _, _, _, _, _, _, _, _] _ _
                      refine R_goto rfl ?_
                      refine fgt wc_X10_change [1, 1, 1, 1, 1, 1, 1, 1, 1, 1, 1, 1, 1, 0, 0, 0] ?_
                      first
                      | (have hw : ¬ nm i < 100 := by omega
                         exact ih (i + 1, b, bw, bb, bf, n, f) ⟨by dsimp only; omega, by
                           dsimp only
                           rcases hch with w | w
                           · exact Or.inl ⟨w.1, by rw [chg_n hi0 (fun w => hw w.1)]; exact w.2⟩
                           · exact Or.inr w, hb4, hbf, by dsimp only; rw [chn_h hi0 hw, hcn0], by dsimp only; rw [chf_h hi0 hw, hcf0]⟩ (by dsimp only; omega))
                      | (exact ih (i + 1, n + 1, V, Bk, f + F, n + 1, f + F) ⟨by dsimp only; omega, by
                           dsimp only
                           rcases hch with w | w
                           · refine Or.inl ⟨w.1, ?_⟩
                             rw [chg_y hi0 (by rw [hcn, hV, hBk, w.2]; dsimp only; exact ⟨by omega, by omega, by omega, by first | exact Or.inl (by omega) | exact Or.inr (by have := lc_p (a := V * bb) (b := bw * (n + 1) * (wh - (n + 1))) (by omega); omega)⟩), hcn, hV, hBk]
                           · exfalso; omega, by dsimp only; exact Or.inr ⟨by omega, by omega, hV2.symm, hBk2.symm⟩, by dsimp only; omega, hcn, hcf⟩ (by dsimp only; omega))
                      | (exact ih (i + 1, b, bw, bb, bf, n + 1, f + F) ⟨by dsimp only; omega, by
                           dsimp only
                           rcases hch with w | w
                           · refine Or.inl ⟨w.1, ?_⟩
                             rw [chg_n hi0 (by rw [hcn, hV, hBk, w.2]; dsimp only; intro w; first | omega | (have := lc_n (a := V * bb) (b := bw * (n + 1) * (wh - (n + 1))) (by omega); omega)), w.2]
                           · exact Or.inr w, hb4, hbf, hcn, hcf⟩ (by dsimp only; omega))
          · try simp only [ne_eq, b2i_e, b2i_1, Classical.not_not] at h66
            refine R_iload rfl rfl ?_
            refine R_aload rfl rfl rfl ?_
            refine T_getr (v := 128) rfl rfl rfl rfl ?_
            refine R_iload rfl rfl ?_
            refine T_ald rfl rfl (by omega) (by omega) ?_
            refine R_aload rfl rfl rfl ?_
            refine T_getr (v := 134) rfl rfl rfl rfl ?_
            refine R_iload rfl rfl ?_
            refine T_ald rfl rfl (by omega) (by omega) ?_
            rw [hO i hi0 hn48]
            refine R_ic rfl (fun h85 => ?_) (fun h85 => ?_)
            · try simp only [ne_eq, b2i_e, b2i_1, Classical.not_not] at h85
              refine R_push rfl ?_
              refine R_add rfl (by omega) (by omega) ?_
              refine R_istore rfl rfl ?_
              show pCm _ _ _ _ [_, _, _, _, _, _, _, _, _, _, _, _, _, _, _, _] _ _
              refine R_inc rfl rfl (by omega) (by omega) ?_
              show pCm _ _ _ _ [_, _, _, _, _, _, _, _, _, _, _, _, _, _, _, _] _ _
              refine R_goto rfl ?_
              refine fgt wc_X10_change [1, 1, 1, 1, 1, 1, 1, 1, 1, 1, 1, 1, 1, 1, 0, 0] ?_
              first
              | (rw [Int.add_assoc]
                 exact ihp (F0 + σ 97 p, p + 1) ⟨by dsimp only; omega, by show F0 + σ 97 p = _; rw [hss, if_pos (by omega)]⟩ (by dsimp only; omega))
              | (rw [Int.add_assoc]
                 exact ihp (F0 + 0, p + 1) ⟨by dsimp only; omega, by show F0 + 0 = _; rw [hss, if_neg (by omega)]⟩ (by dsimp only; omega))
            · try simp only [ne_eq, b2i_e, b2i_1, Classical.not_not] at h85
              refine R_aload rfl rfl rfl ?_
              refine T_getr (v := 113) rfl rfl rfl rfl ?_
              refine R_iload rfl rfl ?_
              refine T_ald rfl rfl (by omega) (by omega) ?_
              refine R_goto rfl ?_
              refine R_add rfl (by omega) (by omega) ?_
              refine R_istore rfl rfl ?_
              show pCm _ _ _ _ [_, _, _, _, _, _, _, _, _, _, _, _, _, _, _, _] _ _
              refine R_inc rfl rfl (by omega) (by omega) ?_
              show pCm _ _ _ _ [_, _, _, _, _, _, _, _, _, _, _, _, _, _, _, _] _ _
              refine R_goto rfl ?_
              refine fgt wc_X10_change [1, 1, 1, 1, 1, 1, 1, 1, 1, 1, 1, 1, 1, 1, 0, 0] ?_
              first
              | (rw [Int.add_assoc]
                 exact ihp (F0 + σ 97 p, p + 1) ⟨by dsimp only; omega, by show F0 + σ 97 p = _; rw [hss, if_pos (by omega)]⟩ (by dsimp only; omega))
              | (rw [Int.add_assoc]
                 exact ihp (F0 + 0, p + 1) ⟨by dsimp only; omega, by show F0 + 0 = _; rw [hss, if_neg (by omega)]⟩ (by dsimp only; omega))
        · exact ⟨by dsimp only; omega, rfl⟩
  · exact ⟨⟨Int.le_refl _, hT.1⟩, by dsimp only; exact (show 0 < fa ∨ fa = 0 by omega).elim (fun w => Or.inl ⟨w, rfl⟩) (fun w => Or.inr ⟨w, rfl, rfl, rfl⟩), Or.inl rfl, by dsimp only; omega, rfl, rfl⟩

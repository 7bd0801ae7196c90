def MH0 (σ : Sg) (P J : Int) : Prop := MB σ P J ∧ HH P (hsM σ) (cobM σ P J) (whoM σ P J) (mtM σ J) ∧ (∀ f k, 0 ≤ f → f < 8 * P → 0 ≤ k → k < 8 → (0 ≤ σ 116 (8 * f + k) ∧ σ 116 (8 * f + k) ≤ 15) ∧ (0 < σ 116 (8 * f + k) → hsM σ f = 1 ∧ hsM σ (f / 8 * 8 + k) = 1)) ∧ HJ P (hsM σ) (cobM σ P J) (mtM σ J)
theorem mny_c {co co' : Int → Int} {P x : Int} (h : ∀ p, 0 ≤ p → p < P → co p = co' p) : mny co P x = mny co' P x := sumZ_congr (fun i i0 i1 => by rw [h i i0 i1])
theorem HH_c {P : Int} {hs co who mt co' who' : Int → Int} (h : HH P hs co who mt) (e : ∀ p, 0 ≤ p → p < P → co' p = co p ∧ who' p = who p) : HH P hs co' who' mt := by
  obtain ⟨h1, h2, h3⟩ := h
  refine ⟨h1, fun p p0 p1 => ?_, fun f f0 f1 hf => ?_⟩
  · have a := h2 p p0 p1
    rw [(e p p0 p1).1, (e p p0 p1).2, (e (who p) a.2.1.1 a.2.1.2).1, (e (who p) a.2.1.1 a.2.1.2).2]
    exact a
  · rcases h3 f f0 f1 hf with w | w
    · exact Or.inl w
    · exact Or.inr ⟨w.1, by rw [(e (mt f / 8) (by omega) (by omega)).1, (e (f / 8) (by omega) (by omega)).1]; exact w.2⟩
theorem HJ_c {P : Int} {hs co mt co' : Int → Int} (h : HJ P hs co mt) (e : ∀ p, 0 ≤ p → p < P → co' p = co p) : HJ P hs co' mt := by
  intro p p0 p1 q
  rw [e p p0 p1, mny_c e] at q
  exact h p p0 p1 q
theorem MH_of {σ s : Sg} {P J : Int} (h : MH0 σ P J) (hF : Fr [107, 111, 112] [] σ s) (hc : ∀ p, 0 ≤ p → p < P → s 111 p = cobM σ P J p ∧ s 112 p = whoM σ P J p) : MH s P J := by
  obtain ⟨h1, h2, h3, h4⟩ := h
  unfold MH MB
  rw [hsM_fr (hF.fn 98 rfl), mtM_fr (hF.fn 106 rfl) (hF.fn 102 rfl) (hF.fn 103 rfl), hF.fn 116 rfl, hF.fn 71 rfl, hF.fn 102 rfl, hF.fn 103 rfl]
  exact ⟨h1, HH_c h2 hc, h3, HJ_c h4 (fun p p0 p1 => (hc p p0 p1).1)⟩
set_option maxRecDepth 20000 in
set_option maxHeartbeats 2000000 in
theorem sp_X10_findBlows (d : Nat) (hd : 4 ≤ d) (xs : List (Nat × Nat)) (t dd rr : Nat) (σ : Sg) (c P J : Int) (hH0 : MH0 σ P J) : ∃ σ', Ev d 94 [(87, 0), (0, c)] (Wd xs t dd rr σ) (8, 0) (Wd xs t dd rr σ') ∧ ∃ s0, Fr [107, 111, 112] [] σ s0 ∧ (∀ p, 0 ≤ p → p < P → s0 111 p = cobM σ P J p ∧ s0 112 p = whoM σ P J p) ∧ Fr [113] [(71, 55)] s0 σ' ∧ RWm σ' (gtM s0 P J c (8 * P)) := by
  obtain ⟨d, rfl⟩ : ∃ e, d = e + 1 := ⟨d - 1, by omega⟩
  refine evS (nL := 3) (code := k_X10_findBlows) rfl dc_X10_findBlows rfl (fun E hE => ?_)
  show pCm (Ev d) k_X10_findBlows E 0 [(87, 0), (0, c), (9, 0)] [] _
  refine R_aload rfl rfl rfl ?_
  obtain ⟨s0, hev0, hF0, hc0⟩ := sp_X10_findHeaps d (by omega) xs t dd rr σ P J hH0.1
  have hH := MH_of hH0 hF0 hc0
  obtain ⟨⟨hP, hJ, h0, hJ0, hJB⟩, hHH, hcut, hHJ⟩ := id hH
  refine R_invv rfl rfl rfl rfl rfl rfl (hev0) rfl ?_
  show pCm _ _ _ 4 _ [] _
  refine R_aload rfl rfl rfl ?_
  refine R_push rfl ?_
  refine T_puti rfl rfl rfl ?_
  refine R_push rfl ?_
  refine R_istore rfl rfl ?_
  refine loop (pc := 11) (α := Int × Sg) (fun x => (P - x.1).toNat) (fun x => ([(87, 0), (0, c), (0, x.1)], Wd xs t dd rr x.2)) (fun x => (0 ≤ x.1 ∧ x.1 ≤ P) ∧ Fr [113] [(71, 55)] s0 x.2 ∧ RWm x.2 (gt1 c (s0 111) (s0 112) x.1) ∧ 0 ≤ x.2 71 55 ∧ x.2 71 55 ≤ x.1) ?_ (0, up2 s0 71 55 0) ?_
  · intro ⟨k, s⟩ ⟨⟨hk0, hk1⟩, hF, hR, hb⟩ ih
    dsimp only at hk0 hk1 hF hR hb ⊢
    have e1 := hF.at 71 26 rfl
    have e29 := hF.row 111 rfl k
    have e30 := hF.row 112 rfl k
    have hgt := gt1_s (c := c) (co := s0 111) (who := s0 112) hk0
    have hg1 : gg1 c (s0 111) (s0 112) k = 1 ∧ (s0 111 k = c ∧ s0 112 k = k) ∨ gg1 c (s0 111) (s0 112) k = 0 ∧ ¬ (s0 111 k = c ∧ s0 112 k = k) := b2i_or
    refine R_iload rfl rfl ?_
    refine R_aload rfl rfl rfl ?_
    refine T_geti rfl rfl rfl ?_
    refine R_ic rfl (fun h16 => ?_) (fun h16 => ?_)
    · try simp only [ne_eq, b2i_e, b2i_1, Classical.not_not] at h16
      refine R_push rfl ?_
      refine R_istore rfl rfl ?_
      refine loop (pc := 67) (α := Int × Sg) (fun x => (8 * P - x.1).toNat) (fun x => ([(87, 0), (0, c), (0, x.1)], Wd xs t dd rr x.2)) (fun x => (0 ≤ x.1 ∧ x.1 ≤ 8 * P) ∧ Fr [113] [(71, 55)] s0 x.2 ∧ RWm x.2 (gtM s0 P J c x.1) ∧ 0 ≤ x.2 71 55) ?_ (0, s) ?_
      · clear ih
        intro ⟨k, s⟩ ⟨⟨hk0, hk1⟩, hF, hR, hb⟩ ih
        dsimp only at hk0 hk1 hF hR hb ⊢
        have hFm : Fm s0 s := hF.tr (r2 := []) (s2 := []) Fr.rf rfl rfl
        have hHs := MH_fr hH hFm
        have e1 := hF.at 71 26 rfl
        have hgt : gtM s0 P J c (k + 1) = _ := gt2_s hk0
        have hcap : k < 8 * P → (gtM s0 P J c (k + 1)).1 ≤ 8 * P := fun w => gt_cap hHH hHJ (by omega) (by omega)
        have hR1 := hR.1
        have e111 := hF.row 111 rfl (k / 8)
        have hg2 : gg2 P c (hsM s0) (s0 99) (s0 111) (s0 112) (mtM s0 J) k = 1 ∧ (hsM s0 k = 1 ∧ s0 111 (k / 8) = c ∧ blM s0 P J k = 100 + k) ∨ gg2 P c (hsM s0) (s0 99) (s0 111) (s0 112) (mtM s0 J) k = 0 ∧ ¬ (hsM s0 k = 1 ∧ s0 111 (k / 8) = c ∧ blM s0 P J k = 100 + k) := b2i_or
        have hs01 : hsM s0 k = 0 ∨ hsM s0 k = 1 := by have := (b2i_bd (p := k % 8 < s0 98 (k / 8))); unfold hsM; omega
        refine R_iload rfl rfl ?_
        refine R_push rfl ?_
        refine R_aload rfl rfl rfl ?_
        refine T_geti rfl rfl rfl ?_
        refine R_mul rfl (by omega) (by omega) ?_
        refine R_ic rfl (fun h75 => ?_) (fun h75 => ?_)
        · try simp only [ne_eq, b2i_e, b2i_1, Classical.not_not] at h75
          refine R_vret rfl ?_
          exact hE _ _ rfl ⟨s0, hF0, hc0, hF, by
            have : k = 8 * P := by omega
            rw [this] at hR
            exact hR⟩
        · try simp only [ne_eq, b2i_e, b2i_1, Classical.not_not] at h75
          refine R_aload rfl rfl rfl ?_
          refine R_iload rfl rfl ?_
          have hfo := sp_X10_isFace d (by omega) xs t dd rr s k P (by rw [e1]; exact hP) h0 (by omega)
          rw [show b2i (0 ≤ k ∧ k / 8 < P ∧ k % 8 < s 98 (k / 8)) = hsM s0 k by rw [hF.row 98 rfl]; exact b2i_iff ⟨fun w => w.2.2, fun w => ⟨by omega, by omega, w⟩⟩] at hfo
          refine R_invv rfl rfl rfl rfl rfl rfl (hfo) rfl ?_
          show pCm _ _ _ 83 _ [(0, _)] _
          refine R_if rfl (fun h83 => ?_) (fun h83 => ?_)
          · try simp only [ne_eq, b2i_e, b2i_1, Classical.not_not] at h83
            refine R_inc rfl rfl (by omega) (by omega) ?_
            refine R_goto rfl ?_
            first
            | exact ih (k + 1, s2) ⟨by dsimp only; omega, hF2, by dsimp only; rw [hgt]; exact RWm_add hR h52 hr2 (by omega) rfl, by dsimp only; omega⟩ (by dsimp only; omega)
            | exact ih (k + 1, s) ⟨by dsimp only; omega, hF, by dsimp only; rw [hgt]; exact RWm_skip hR (by omega), by dsimp only; omega⟩ (by dsimp only; omega)
          · try simp only [ne_eq, b2i_e, b2i_1, Classical.not_not] at h83
            refine R_aload rfl rfl rfl ?_
            refine T_getr (v := 127) rfl rfl rfl rfl ?_
            refine R_iload rfl rfl ?_
            refine R_push rfl ?_
            refine R_dv rfl (by omega) (by omega) (by omega) ?_
            refine T_ald rfl rfl (by omega) (by omega) ?_
            refine R_iload rfl rfl ?_
            refine R_ic rfl (fun h96 => ?_) (fun h96 => ?_)
            · try simp only [ne_eq, b2i_e, b2i_1, Classical.not_not] at h96
              refine R_inc rfl rfl (by omega) (by omega) ?_
              refine R_goto rfl ?_
              first
              | exact ih (k + 1, s2) ⟨by dsimp only; omega, hF2, by dsimp only; rw [hgt]; exact RWm_add hR h52 hr2 (by omega) rfl, by dsimp only; omega⟩ (by dsimp only; omega)
              | exact ih (k + 1, s) ⟨by dsimp only; omega, hF, by dsimp only; rw [hgt]; exact RWm_skip hR (by omega), by dsimp only; omega⟩ (by dsimp only; omega)
            · try simp only [ne_eq, b2i_e, b2i_1, Classical.not_not] at h96
              refine R_aload rfl rfl rfl ?_
              refine R_iload rfl rfl ?_
              have hbo := sp_X10_blowOf d (by omega) xs t dd rr s P J hHs k ⟨by omega, by omega⟩ (by rw [hsM_fr (hF.fn 98 rfl)]; omega)
              rw [blM_fr hFm] at hbo
              refine R_invv rfl rfl rfl rfl rfl rfl (hbo) rfl ?_
              show pCm _ _ _ 104 _ [(0, _)] _
              refine R_push rfl ?_
              refine R_iload rfl rfl ?_
              refine R_add rfl (by omega) (by omega) ?_
              refine R_ic rfl (fun h108 => ?_) (fun h108 => ?_)
              · try simp only [ne_eq, b2i_e, b2i_1, Classical.not_not] at h108
                refine R_inc rfl rfl (by omega) (by omega) ?_
                refine R_goto rfl ?_
                first
                | exact ih (k + 1, s2) ⟨by dsimp only; omega, hF2, by dsimp only; rw [hgt]; exact RWm_add hR h52 hr2 (by omega) rfl, by dsimp only; omega⟩ (by dsimp only; omega)
                | exact ih (k + 1, s) ⟨by dsimp only; omega, hF, by dsimp only; rw [hgt]; exact RWm_skip hR (by omega), by dsimp only; omega⟩ (by dsimp only; omega)
              · try simp only [ne_eq, b2i_e, b2i_1, Classical.not_not] at h108
                have hcap := hcap (by omega)
                rw [hgt] at hcap
                unfold gst at hcap
                rw [if_pos (by omega)] at hcap
                dsimp only at hcap
                have hR1' : s 71 55 = (foldZ (gst (gg2 P c (hsM s0) (s0 99) (s0 111) (s0 112) (mtM s0 J)) (fun f => 100 + f)) k (gt1 c (s0 111) (s0 112) P)).1 := hR1
                have hcap : (gtM s0 P J c k).1 + 1 ≤ 8 * P := hcap
                refine R_aload rfl rfl rfl ?_
                refine T_getr (v := 129) rfl rfl rfl rfl ?_
                refine R_aload rfl rfl rfl ?_
                refine T_geti rfl rfl rfl ?_
                refine R_push rfl ?_
                refine R_iload rfl rfl ?_
                refine R_add rfl (by omega) (by omega) ?_
                refine T_iast rfl rfl (by omega) (by omega) ?_
                generalize hs1 : up2 s 113 (s 71 55) (100 + k) = s1
                have e55 : s1 71 55 = s 71 55 := by rw [← hs1]; simp [up2]
                refine R_aload rfl rfl rfl ?_
                refine R_dup rfl rfl ?_
                refine T_geti rfl rfl rfl ?_
                refine R_push rfl ?_
                refine R_add rfl (by omega) (by omega) ?_
                refine T_puti rfl rfl rfl ?_
                rw [e55]
                generalize hs2 : up2 s1 71 55 (s 71 55 + 1) = s2
                have h52 : s2 71 55 = s 71 55 + 1 := by rw [← hs2]; simp [up2]
                have hr2 : ∀ i, s2 113 i = if i = s 71 55 then 100 + k else s 113 i := fun i => by
                  rw [← hs2, ← hs1]; simp [up2]
                have hF2 : Fr [113] [(71, 55)] s0 s2 := by rw [← hs2, ← hs1]; exact (hF.upr rfl).up rfl
                refine R_inc rfl rfl (by omega) (by omega) ?_
                refine R_goto rfl ?_
                first
                | exact ih (k + 1, s2) ⟨by dsimp only; omega, hF2, by dsimp only; rw [hgt]; exact RWm_add hR h52 hr2 (by omega) rfl, by dsimp only; omega⟩ (by dsimp only; omega)
                | exact ih (k + 1, s) ⟨by dsimp only; omega, hF, by dsimp only; rw [hgt]; exact RWm_skip hR (by omega), by dsimp only; omega⟩ (by dsimp only; omega)
      · exact ⟨⟨Int.le_refl _, by dsimp only; omega⟩, hF, by
          have : k = P := by omega
          rw [this] at hR
          exact hR, by dsimp only; omega⟩
    · try simp only [ne_eq, b2i_e, b2i_1, Classical.not_not] at h16
      refine R_aload rfl rfl rfl ?_
      refine T_getr (v := 127) rfl rfl rfl rfl ?_
      refine R_iload rfl rfl ?_
      refine T_ald rfl rfl (by omega) (by omega) ?_
      refine R_iload rfl rfl ?_
      refine R_ic rfl (fun h26 => ?_) (fun h26 => ?_)
      · try simp only [ne_eq, b2i_e, b2i_1, Classical.not_not] at h26
        refine R_inc rfl rfl (by omega) (by omega) ?_
        refine R_goto rfl ?_
        first
        | exact ih (k + 1, s2) ⟨by dsimp only; omega, hF2, by dsimp only; rw [hgt]; exact RWm_add hR h52 hr2 (by omega) rfl, by dsimp only; omega⟩ (by dsimp only; omega)
        | exact ih (k + 1, s) ⟨by dsimp only; omega, hF, by dsimp only; rw [hgt]; exact RWm_skip hR (by omega), by dsimp only; omega⟩ (by dsimp only; omega)
      · try simp only [ne_eq, b2i_e, b2i_1, Classical.not_not] at h26
        refine R_aload rfl rfl rfl ?_
        refine T_getr (v := 128) rfl rfl rfl rfl ?_
        refine R_iload rfl rfl ?_
        refine T_ald rfl rfl (by omega) (by omega) ?_
        refine R_iload rfl rfl ?_
        refine R_ic rfl (fun h36 => ?_) (fun h36 => ?_)
        · try simp only [ne_eq, b2i_e, b2i_1, Classical.not_not] at h36
          refine R_inc rfl rfl (by omega) (by omega) ?_
          refine R_goto rfl ?_
          first
          | exact ih (k + 1, s2) ⟨by dsimp only; omega, hF2, by dsimp only; rw [hgt]; exact RWm_add hR h52 hr2 (by omega) rfl, by dsimp only; omega⟩ (by dsimp only; omega)
          | exact ih (k + 1, s) ⟨by dsimp only; omega, hF, by dsimp only; rw [hgt]; exact RWm_skip hR (by omega), by dsimp only; omega⟩ (by dsimp only; omega)
        · try simp only [ne_eq, b2i_e, b2i_1, Classical.not_not] at h36
          refine R_aload rfl rfl rfl ?_
          refine T_getr (v := 129) rfl rfl rfl rfl ?_
          refine R_aload rfl rfl rfl ?_
          refine T_geti rfl rfl rfl ?_
          refine R_iload rfl rfl ?_
          refine T_iast rfl rfl (by omega) (by omega) ?_
          generalize hs1 : up2 s 113 (s 71 55) (k) = s1
          have e55 : s1 71 55 = s 71 55 := by rw [← hs1]; simp [up2]
          refine R_aload rfl rfl rfl ?_
          refine R_dup rfl rfl ?_
          refine T_geti rfl rfl rfl ?_
          refine R_push rfl ?_
          refine R_add rfl (by omega) (by omega) ?_
          refine T_puti rfl rfl rfl ?_
          rw [e55]
          generalize hs2 : up2 s1 71 55 (s 71 55 + 1) = s2
          have h52 : s2 71 55 = s 71 55 + 1 := by rw [← hs2]; simp [up2]
          have hr2 : ∀ i, s2 113 i = if i = s 71 55 then k else s 113 i := fun i => by
            rw [← hs2, ← hs1]; simp [up2]
          have hF2 : Fr [113] [(71, 55)] s0 s2 := by rw [← hs2, ← hs1]; exact (hF.upr rfl).up rfl
          refine R_inc rfl rfl (by omega) (by omega) ?_
          refine R_goto rfl ?_
          first
          | exact ih (k + 1, s2) ⟨by dsimp only; omega, hF2, by dsimp only; rw [hgt]; exact RWm_add hR h52 hr2 (by omega) rfl, by dsimp only; omega⟩ (by dsimp only; omega)
          | exact ih (k + 1, s) ⟨by dsimp only; omega, hF, by dsimp only; rw [hgt]; exact RWm_skip hR (by omega), by dsimp only; omega⟩ (by dsimp only; omega)
  · exact ⟨⟨Int.le_refl _, h0.1⟩, (Fr.rf (rows := [113]) (sl := [(71, 55)])).up rfl, ⟨by simp [up2]; rfl, fun i i0 i1 => absurd i1 (by show ¬ i < 0; omega)⟩, by simp [up2]⟩

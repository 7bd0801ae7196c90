theorem frst_bd {g nu : Int → Int} {N : Int} (hn : ∀ l, 0 ≤ l → l < N → 0 ≤ nu l ∧ nu l ≤ 99) : ∀ j : Nat, (j : Int) ≤ N → -1 ≤ frst g nu j := by
  intro j
  induction j with
  | zero => intro _; exact Int.le_refl _
  | succ j ih =>
    intro hj
    have e : frst g nu ((j + 1 : Nat) : Int) = _ := frst_s (n := j) (by omega)
    have := ih (by omega)
    have := hn j (by omega) (by omega)
    rw [e]
    split
    · split <;> omega
    · omega
theorem frst_ne {g nu : Int → Int} {l : Int} (h0 : 0 ≤ l) (h : frst g nu l ≠ -1) : ∀ j : Nat, frst g nu (l + j) = frst g nu l := by
  intro j
  induction j with
  | zero => simp
  | succ j ih =>
    have e : frst g nu (l + j + 1) = _ := frst_s (n := l + j) (by omega)
    rw [show l + ((j + 1 : Nat) : Int) = l + j + 1 by omega, e, ih, if_neg h]
theorem stn_bd {st kn : Int → Int} {N : Int} {kd nu len : Int → Int} {K W : Int → Int → Int} {p : Int} (hN : 0 ≤ N) (hn : ∀ l, 0 ≤ l → l < N → 0 ≤ nu l ∧ nu l ≤ 99) (hs : -1 ≤ st p) : -1 ≤ stn st kn N kd nu len K W p := by
  unfold stn
  split
  · have := frst_bd (g := hld kn kd nu len K W 3) hn N.toNat (by omega)
    rwa [Int.toNat_of_nonneg hN] at this
  · exact hs
theorem fitM_bd {σ : Sg} {f g : Int} (hf2 : ∀ k, 0 ≤ k → k < 8 → 0 ≤ σ 100 (8 * f + k) ∧ σ 100 (8 * f + k) ≤ 255) (hg2 : ∀ k, 0 ≤ k → k < 8 → 0 ≤ σ 100 (8 * g + k) ∧ σ 100 (8 * g + k) ≤ 255) : 0 ≤ fitM σ f g ∧ fitM σ f g ≤ 16487 := by
  have := fitZ_bd (F := fun k => σ 100 (8 * f + k)) (S := fun k => σ 100 (8 * g + k)) (rf := σ 101 f) (rs := σ 101 g) hf2 hg2 8 (by omega)
  exact ⟨this.1, this.2.2 (by omega)⟩
set_option maxRecDepth 20000 in
set_option maxHeartbeats 2000000 in
theorem sp_X10_mayMeet (d : Nat) (hd : 5 ≤ d) (xs : List (Nat × Nat)) (t dd rr : Nat) (σ : Sg) (f g P : Int) (h0 : P ≤ 40) (hB : PBm σ P) (hf : 0 ≤ f ∧ f / 8 < P) (hg : 0 ≤ g ∧ g / 8 < P) (hf2 : ∀ k, 0 ≤ k → k < 8 → 0 ≤ σ 100 (8 * f + k) ∧ σ 100 (8 * f + k) ≤ 255) (hg2 : ∀ k, 0 ≤ k → k < 8 → 0 ≤ σ 100 (8 * g + k) ∧ σ 100 (8 * g + k) ≤ 255) (hra : 0 ≤ σ 101 f ∧ σ 101 f ≤ 7) (hrb : 0 ≤ σ 101 g ∧ σ 101 g ≤ 7) (hst : ∀ p, 0 ≤ p → p < P → -1 ≤ σ 88 p) (hnr : 0 ≤ σ 71 25 ∧ σ 71 25 ≤ 400) (h N : Int) (kd nu len : Int → Int) (K W : Int → Int → Int) (hT : WT N kd nu len K W) (hC : MT σ h N kd nu len K W) (hnn : ∀ l, 0 ≤ l → l < N → 0 ≤ nu l ∧ nu l ≤ 99)  : ∃ σ', Ev d 75 [(87, 0), (0, f), (0, g)] (Wd xs t dd rr σ) (0, mayM σ N kd nu len K W f g) (Wd xs t dd rr σ') ∧ Fr [85, 86, 87] [(71, 41), (71, 42)] σ σ' := by
  obtain ⟨d, rfl⟩ : ∃ e, d = e + 1 := ⟨d - 1, by omega⟩
  have ba := hB (f / 8) (by omega) hf.2
  have bb := hB (g / 8) (by omega) hg.2
  have hN := hT.1
  have hfb := fitM_bd hf2 hg2
  have hsf : -1 ≤ stnM σ N kd nu len K W (f / 8) := stn_bd hN.1 hnn (hst _ (by omega) (by omega))
  have hsg : -1 ≤ stnM σ N kd nu len K W (g / 8) := stn_bd hN.1 hnn (hst _ (by omega) (by omega))
  obtain ⟨hC0a, hC0b, hC0c, hC0d⟩ := id hC
  refine evS (nL := 7) (code := k_X10_mayMeet) rfl dc_X10_mayMeet rfl (fun E hE => ?_)
  show pCm (Ev d) k_X10_mayMeet E 0 [(87, 0), (0, f), (0, g), (9, 0), (9, 0), (9, 0), (9, 0)] [] _
  have J71 : f / 8 ≠ g / 8 → (σ 99 f = 0 ∧ σ 99 g = 1 ∨ σ 99 f = 1 ∧ σ 99 g = 0 ∨ σ 99 f = 3 ∧ σ 99 g = 3) → pCm (Ev d) k_X10_mayMeet E 71 [(87, 0), (0, f), (0, g), (9, 0), (9, 0), (9, 0), (9, 0)] [] (Wd xs t dd rr σ) := by
    intro hne hsm
    refine R_aload rfl rfl rfl ?_
    refine R_iload rfl rfl ?_
    refine R_push rfl ?_
    refine R_dv rfl (by omega) (by omega) (by omega) ?_
    obtain ⟨s1, hevs1, hFs1⟩ := sp_X10_stoneOf d (by omega) xs t dd rr σ (f / 8) ⟨by omega, by omega⟩ (by rw [(Fr.rf (rows := [85, 86, 87]) (sl := []) (σ := σ)).row 88 rfl]; exact hst _ (by omega) (by omega)) (by rw [(Fr.rf (rows := [85, 86, 87]) (sl := []) (σ := σ)).row 96 rfl]; omega) h N kd nu len K W hT (MT_fr hC (Fr.rf (rows := [85, 86, 87]) (sl := []) (σ := σ)) rfl rfl rfl rfl rfl rfl rfl) hnn
    have hevs1 : Ev d 73 [(87, 0), (0, f / 8)] (Wd xs t dd rr σ) (0, stnM σ N kd nu len K W (f / 8)) (Wd xs t dd rr s1) := by
      have := hevs1
      unfold stnM at this ⊢
      rw [(Fr.rf (rows := [85, 86, 87]) (sl := []) (σ := σ)).fn 88 rfl, (Fr.rf (rows := [85, 86, 87]) (sl := []) (σ := σ)).fn 93 rfl, (Fr.rf (rows := [85, 86, 87]) (sl := []) (σ := σ)).fn 94 rfl, (Fr.rf (rows := [85, 86, 87]) (sl := []) (σ := σ)).fn 95 rfl, (Fr.rf (rows := [85, 86, 87]) (sl := []) (σ := σ)).fn 96 rfl, (Fr.rf (rows := [85, 86, 87]) (sl := []) (σ := σ)).fn 89 rfl] at this
      exact this
    have Fs1 : Fr [85, 86, 87] [] σ s1 := (Fr.rf (rows := [85, 86, 87]) (sl := []) (σ := σ)).tr hFs1 rfl rfl
    refine R_invv rfl rfl rfl rfl rfl rfl (hevs1) rfl ?_
    show pCm _ _ _ 79 _ [(0, _)] _
    refine R_istore rfl rfl ?_
    refine R_aload rfl rfl rfl ?_
    refine R_iload rfl rfl ?_
    refine R_push rfl ?_
    refine R_dv rfl (by omega) (by omega) (by omega) ?_
    obtain ⟨s2, hevs2, hFs2⟩ := sp_X10_stoneOf d (by omega) xs t dd rr s1 (g / 8) ⟨by omega, by omega⟩ (by rw [Fs1.row 88 rfl]; exact hst _ (by omega) (by omega)) (by rw [Fs1.row 96 rfl]; omega) h N kd nu len K W hT (MT_fr hC Fs1 rfl rfl rfl rfl rfl rfl rfl) hnn
    have hevs2 : Ev d 73 [(87, 0), (0, g / 8)] (Wd xs t dd rr s1) (0, stnM σ N kd nu len K W (g / 8)) (Wd xs t dd rr s2) := by
      have := hevs2
      unfold stnM at this ⊢
      rw [Fs1.fn 88 rfl, Fs1.fn 93 rfl, Fs1.fn 94 rfl, Fs1.fn 95 rfl, Fs1.fn 96 rfl, Fs1.fn 89 rfl] at this
      exact this
    have Fs2 : Fr [85, 86, 87] [] σ s2 := Fs1.tr hFs2 rfl rfl
    refine R_invv rfl rfl rfl rfl rfl rfl (hevs2) rfl ?_
    show pCm _ _ _ 88 _ [(0, _)] _
    refine R_istore rfl rfl ?_
    refine R_aload rfl rfl rfl ?_
    refine R_iload rfl rfl ?_
    refine R_iload rfl rfl ?_
    obtain ⟨s3, hev3, hF3, h41, h42, hk3, hag3⟩ := sp_X10_meets d (by omega) xs t dd rr s2 f g P h0 (by unfold PBm; rw [Fs2.fn 89 rfl, Fs2.fn 90 rfl, Fs2.fn 91 rfl, Fs2.fn 92 rfl, Fs2.fn 93 rfl, Fs2.fn 94 rfl, Fs2.fn 95 rfl, Fs2.fn 96 rfl, Fs2.fn 97 rfl]; exact hB) hf hg (by rw [Fs2.fn 100 rfl]; exact hf2) (by rw [Fs2.fn 100 rfl]; exact hg2) (by rw [Fs2.fn 101 rfl]; exact hra) (by rw [Fs2.fn 101 rfl]; exact hrb) (by rw [Fs2.fn 99 rfl]; exact hsm) h N kd nu len K W hT (MT_fr hC Fs2 rfl rfl rfl rfl rfl rfl rfl)
    have efM : fitM s2 f g = fitM σ f g := by unfold fitM; rw [Fs2.fn 100 rfl, Fs2.fn 101 rfl]
    have ekM : kmM s2 f g = kmM σ f g := by unfold kmM; rw [efM, Fs2.fn 99 rfl, Fs2.fn 89 rfl, Fs2.fn 90 rfl, Fs2.fn 91 rfl, Fs2.fn 92 rfl, Fs2.fn 96 rfl, Fs2.fn 93 rfl, Fs2.fn 94 rfl, Fs2.fn 95 rfl]
    rw [efM] at h41 h42
    rw [ekM] at hk3
    have F3 : Fr [85, 86, 87] [(71, 41), (71, 42)] σ s3 := Fs2.tr hF3 rfl rfl
    have hC3 := MT_fr hC F3 rfl rfl rfl rfl rfl rfl rfl
    refine R_invv rfl rfl rfl rfl rfl rfl (hev3) rfl ?_
    show pCm _ _ _ 96 _ [] _
    have J137 : ∀ v : Int, v = b2i (fitM σ f g / 8 ≤ σ 71 25 + 10 * (σ 96 (f / 8) + σ 96 (g / 8)) ∧ (stnM σ N kd nu len K W (f / 8) = stnM σ N kd nu len K W (g / 8) ∨ stnM σ N kd nu len K W (f / 8) = -1 ∨ stnM σ N kd nu len K W (g / 8) = -1)) → pCm (Ev d) k_X10_mayMeet E 137 [(87, 0), (0, f), (0, g), (0, stnM σ N kd nu len K W (f / 8)), (0, stnM σ N kd nu len K W (g / 8)), (9, 0), (9, 0)] [(0, v)] (Wd xs t dd rr s3) := by
      intro v hv
      refine R_istore rfl rfl ?_
      refine R_push rfl ?_
      refine R_aload rfl rfl rfl ?_
      refine T_geti rfl rfl rfl ?_
      rw [hC3.1]
      refine R_mul rfl (by omega) (by omega) ?_
      refine R_istore rfl rfl ?_
      suffices hh : pCm (Ev d) k_X10_mayMeet E 148 [(87, 0), (0, f), (0, g), (0, stnM σ N kd nu len K W (f / 8)), (0, stnM σ N kd nu len K W (g / 8)), (0, v), (0, 24 * h + 0)] [] (Wd xs t dd rr s3) by rwa [Int.add_zero] at hh
      refine loop (pc := 148) (α := Int × Int × Sg) (fun x => (N - x.2.1).toNat) (fun x => ([(87, 0), (0, f), (0, g), (0, stnM σ N kd nu len K W (f / 8)), (0, stnM σ N kd nu len K W (g / 8)), (0, x.1), (0, 24 * h + x.2.1)], Wd xs t dd rr x.2.2)) (fun x => (0 ≤ x.2.1 ∧ x.2.1 ≤ N) ∧ Fr [87] [] s3 x.2.2 ∧ x.1 = b2i ((fitM σ f g / 8 ≤ σ 71 25 + 10 * (σ 96 (f / 8) + σ 96 (g / 8)) ∧ (stnM σ N kd nu len K W (f / 8) = stnM σ N kd nu len K W (g / 8) ∨ stnM σ N kd nu len K W (f / 8) = -1 ∨ stnM σ N kd nu len K W (g / 8) = -1)) ∧ frst (hld (kmM σ f g) kd nu len K W 1) nu x.2.1 = -1)) ?_ (v, 0, s3) ?_
      · intro ⟨m, l, s1⟩ ⟨⟨hk0, hk1⟩, hF, hm⟩ ih
        dsimp only at hk0 hk1 hF hm ⊢
        obtain ⟨hC1a, hC1b, hC1c, hC1d⟩ := MT_fr hC3 hF rfl rfl rfl rfl rfl rfl rfl
        have hfs := frst_s (g := hld (kmM σ f g) kd nu len K W 1) (nu := nu) hk0
        have hgb := hld_bd (kn := kmM σ f g) (kd := kd) (nu := nu) (len := len) (K := K) (W := W) (k := 1) (l := l)
        have hnl : l < N → _ := hnn l hk0
        have hm1 : m = 0 ∧ ¬ ((fitM σ f g / 8 ≤ σ 71 25 + 10 * (σ 96 (f / 8) + σ 96 (g / 8)) ∧ (stnM σ N kd nu len K W (f / 8) = stnM σ N kd nu len K W (g / 8) ∨ stnM σ N kd nu len K W (f / 8) = -1 ∨ stnM σ N kd nu len K W (g / 8) = -1)) ∧ frst (hld (kmM σ f g) kd nu len K W 1) nu l = -1) ∨ m = 1 ∧ (fitM σ f g / 8 ≤ σ 71 25 + 10 * (σ 96 (f / 8) + σ 96 (g / 8)) ∧ (stnM σ N kd nu len K W (f / 8) = stnM σ N kd nu len K W (g / 8) ∨ stnM σ N kd nu len K W (f / 8) = -1 ∨ stnM σ N kd nu len K W (g / 8) = -1)) ∧ frst (hld (kmM σ f g) kd nu len K W 1) nu l = -1 := by
          rw [hm]; unfold b2i; split <;> omega
        refine R_iload rfl rfl ?_
        refine R_push rfl ?_
        refine R_aload rfl rfl rfl ?_
        refine T_geti rfl rfl rfl ?_
        rw [hC1a]
        refine R_mul rfl (by omega) (by omega) ?_
        refine R_aload rfl rfl rfl ?_
        refine T_getr (v := 93) rfl rfl rfl rfl ?_
        refine R_aload rfl rfl rfl ?_
        refine T_geti rfl rfl rfl ?_
        rw [hC1a]
        refine T_ald rfl rfl (by omega) (by omega) ?_
        rw [hC1c]
        refine R_add rfl (by omega) (by omega) ?_
        refine R_ic rfl (fun h167 => ?_) (fun h167 => ?_)
        · try simp only [ne_eq, b2i_e, b2i_1, Classical.not_not] at h167
          refine R_iload rfl rfl ?_
          refine R_zret rfl (by first | exact Or.inl rfl | exact Or.inr rfl | omega | grind) ?_
          refine hE _ _ ?_ (F3.tr hF rfl rfl)
          unfold mayM
          rcases hm1 with hm1 | hm1
          · rw [hm1.1]
            by_cases q : frst (hld (kmM σ f g) kd nu len K W 1) nu l = -1
            · rw [b2i_f (by omega)]
            · have := frst_ne hk0 q (N - l).toNat
              rw [show l + ((N - l).toNat : Int) = N by omega] at this
              rw [b2i_f (by omega)]
          · have : l = N := by omega
            rw [this] at hm1
            rw [b2i_t (by omega), hm1.1]
        · try simp only [ne_eq, b2i_e, b2i_1, Classical.not_not] at h167
          refine R_iload rfl rfl ?_
          refine R_if rfl (fun h172 => ?_) (fun h172 => ?_)
          · try simp only [ne_eq, b2i_e, b2i_1, Classical.not_not] at h172
            refine R_iload rfl rfl ?_
            refine R_zret rfl (by first | exact Or.inl rfl | exact Or.inr rfl | omega | grind) ?_
            refine hE _ _ ?_ (F3.tr hF rfl rfl)
            unfold mayM
            rcases hm1 with hm1 | hm1
            · rw [hm1.1]
              by_cases q : frst (hld (kmM σ f g) kd nu len K W 1) nu l = -1
              · rw [b2i_f (by omega)]
              · have := frst_ne hk0 q (N - l).toNat
                rw [show l + ((N - l).toNat : Int) = N by omega] at this
                rw [b2i_f (by omega)]
            · have : l = N := by omega
              rw [this] at hm1
              rw [b2i_t (by omega), hm1.1]
          · try simp only [ne_eq, b2i_e, b2i_1, Classical.not_not] at h172
            refine R_aload rfl rfl rfl ?_
            refine R_iload rfl rfl ?_
            refine R_push rfl ?_
            obtain ⟨s2, hev, hF2⟩ := sp_X10_isSo d (by omega) xs t dd rr s1 l 1 h N kd nu len K W hT (MT_fr hC3 hF rfl rfl rfl rfl rfl rfl rfl) ⟨by omega, by omega⟩ (by rw [hF.fn 86 rfl, hF.fn 85 rfl]; exact hag3)
            rw [hF.fn 85 rfl, hld_kn hT hk3 hk0 (by omega)] at hev
            refine R_invv rfl rfl rfl rfl rfl rfl (hev) rfl ?_
            show pCm _ _ _ 182 _ [(0, _)] _
            refine R_if rfl (fun h182 => ?_) (fun h182 => ?_)
            · try simp only [ne_eq, b2i_e, b2i_1, Classical.not_not] at h182
              refine R_push rfl ?_
              refine R_istore rfl rfl ?_
              refine R_inc rfl rfl (by omega) (by omega) ?_
              refine R_goto rfl ?_
              have hnl := hnl (by omega)
              have hfs : frst (hld (kmM σ f g) kd nu len K W 1) nu (l + 1) = -1 ∧ hld (kmM σ f g) kd nu len K W 1 l = 0 ∨ frst (hld (kmM σ f g) kd nu len K W 1) nu (l + 1) ≠ -1 ∧ hld (kmM σ f g) kd nu len K W 1 l = 1 := by
                rw [hfs, if_pos (by omega)]; split <;> omega
              rw [Int.add_assoc]
              exact ih (_, l + 1, s2) ⟨by dsimp only; omega, hF.tr (r3 := [87]) (s3 := []) hF2 rfl rfl, by dsimp only; first | rw [b2i_t (by omega)] | rw [b2i_f (by omega)]⟩ (by dsimp only; omega)
            · try simp only [ne_eq, b2i_e, b2i_1, Classical.not_not] at h182
              refine R_push rfl ?_
              refine R_goto rfl ?_
              refine R_istore rfl rfl ?_
              refine R_inc rfl rfl (by omega) (by omega) ?_
              refine R_goto rfl ?_
              have hnl := hnl (by omega)
              have hfs : frst (hld (kmM σ f g) kd nu len K W 1) nu (l + 1) = -1 ∧ hld (kmM σ f g) kd nu len K W 1 l = 0 ∨ frst (hld (kmM σ f g) kd nu len K W 1) nu (l + 1) ≠ -1 ∧ hld (kmM σ f g) kd nu len K W 1 l = 1 := by
                rw [hfs, if_pos (by omega)]; split <;> omega
              rw [Int.add_assoc]
              exact ih (_, l + 1, s2) ⟨by dsimp only; omega, hF.tr (r3 := [87]) (s3 := []) hF2 rfl rfl, by dsimp only; first | rw [b2i_t (by omega)] | rw [b2i_f (by omega)]⟩ (by dsimp only; omega)
      · exact ⟨⟨Int.le_refl _, hT.1.1⟩, Fr.rf, by dsimp only; rw [hv]; congr 1; apply propext; exact ⟨fun q => ⟨q, rfl⟩, fun q => q.1⟩⟩
    refine R_iload rfl rfl ?_
    refine R_if rfl (fun h97 => ?_) (fun h97 => ?_)
    · try simp only [ne_eq, b2i_e, b2i_1, Classical.not_not] at h97
      refine R_aload rfl rfl rfl ?_
      refine T_geti rfl rfl rfl ?_
      rw [h41]
      refine R_aload rfl rfl rfl ?_
      refine T_geti rfl rfl rfl ?_
      rw [F3.at 71 25 rfl]
      refine R_push rfl ?_
      refine R_aload rfl rfl rfl ?_
      refine T_getr (v := 101) rfl rfl rfl rfl ?_
      refine R_push rfl ?_
      refine T_ald rfl rfl (by omega) (by omega) ?_
      rw [hk3 5 (by omega) (by omega), show kmM σ f g 5 = σ 96 (f / 8) + σ 96 (g / 8) from rfl]
      refine R_mul rfl (by omega) (by omega) ?_
      refine R_add rfl (by omega) (by omega) ?_
      refine R_ic rfl (fun h129 => ?_) (fun h129 => ?_)
      · try simp only [ne_eq, b2i_e, b2i_1, Classical.not_not] at h129
        refine R_push rfl ?_
        exact J137 _ (by first | rw [b2i_t (by omega)] | rw [b2i_f (by omega)])
      · try simp only [ne_eq, b2i_e, b2i_1, Classical.not_not] at h129
        refine R_push rfl ?_
        refine R_goto rfl ?_
        exact J137 _ (by first | rw [b2i_t (by omega)] | rw [b2i_f (by omega)])
    · try simp only [ne_eq, b2i_e, b2i_1, Classical.not_not] at h97
      refine R_iload rfl rfl ?_
      refine R_if rfl (fun h102 => ?_) (fun h102 => ?_)
      · try simp only [ne_eq, b2i_e, b2i_1, Classical.not_not] at h102
        refine R_aload rfl rfl rfl ?_
        refine T_geti rfl rfl rfl ?_
        rw [h41]
        refine R_aload rfl rfl rfl ?_
        refine T_geti rfl rfl rfl ?_
        rw [F3.at 71 25 rfl]
        refine R_push rfl ?_
        refine R_aload rfl rfl rfl ?_
        refine T_getr (v := 101) rfl rfl rfl rfl ?_
        refine R_push rfl ?_
        refine T_ald rfl rfl (by omega) (by omega) ?_
        rw [hk3 5 (by omega) (by omega), show kmM σ f g 5 = σ 96 (f / 8) + σ 96 (g / 8) from rfl]
        refine R_mul rfl (by omega) (by omega) ?_
        refine R_add rfl (by omega) (by omega) ?_
        refine R_ic rfl (fun h129 => ?_) (fun h129 => ?_)
        · try simp only [ne_eq, b2i_e, b2i_1, Classical.not_not] at h129
          refine R_push rfl ?_
          exact J137 _ (by first | rw [b2i_t (by omega)] | rw [b2i_f (by omega)])
        · try simp only [ne_eq, b2i_e, b2i_1, Classical.not_not] at h129
          refine R_push rfl ?_
          refine R_goto rfl ?_
          exact J137 _ (by first | rw [b2i_t (by omega)] | rw [b2i_f (by omega)])
      · try simp only [ne_eq, b2i_e, b2i_1, Classical.not_not] at h102
        refine R_iload rfl rfl ?_
        refine R_iload rfl rfl ?_
        refine R_ic rfl (fun h108 => ?_) (fun h108 => ?_)
        · try simp only [ne_eq, b2i_e, b2i_1, Classical.not_not] at h108
          refine R_push rfl ?_
          exact J137 _ (by first | rw [b2i_t (by omega)] | rw [b2i_f (by omega)])
        · try simp only [ne_eq, b2i_e, b2i_1, Classical.not_not] at h108
          refine R_aload rfl rfl rfl ?_
          refine T_geti rfl rfl rfl ?_
          rw [h41]
          refine R_aload rfl rfl rfl ?_
          refine T_geti rfl rfl rfl ?_
          rw [F3.at 71 25 rfl]
          refine R_push rfl ?_
          refine R_aload rfl rfl rfl ?_
          refine T_getr (v := 101) rfl rfl rfl rfl ?_
          refine R_push rfl ?_
          refine T_ald rfl rfl (by omega) (by omega) ?_
          rw [hk3 5 (by omega) (by omega), show kmM σ f g 5 = σ 96 (f / 8) + σ 96 (g / 8) from rfl]
          refine R_mul rfl (by omega) (by omega) ?_
          refine R_add rfl (by omega) (by omega) ?_
          refine R_ic rfl (fun h129 => ?_) (fun h129 => ?_)
          · try simp only [ne_eq, b2i_e, b2i_1, Classical.not_not] at h129
            refine R_push rfl ?_
            exact J137 _ (by first | rw [b2i_t (by omega)] | rw [b2i_f (by omega)])
          · try simp only [ne_eq, b2i_e, b2i_1, Classical.not_not] at h129
            refine R_push rfl ?_
            refine R_goto rfl ?_
            exact J137 _ (by first | rw [b2i_t (by omega)] | rw [b2i_f (by omega)])
  refine R_iload rfl rfl ?_
  refine R_push rfl ?_
  refine R_dv rfl (by omega) (by omega) (by omega) ?_
  refine R_iload rfl rfl ?_
  refine R_push rfl ?_
  refine R_dv rfl (by omega) (by omega) (by omega) ?_
  refine R_ic rfl (fun h8 => ?_) (fun h8 => ?_)
  · try simp only [ne_eq, b2i_e, b2i_1, Classical.not_not] at h8
    refine R_push rfl ?_
    refine R_zret rfl (by first | exact Or.inl rfl | exact Or.inr rfl | omega | grind) ?_
    exact hE _ _ (by unfold mayM; rw [b2i_f (by omega)]) Fr.rf
  · try simp only [ne_eq, b2i_e, b2i_1, Classical.not_not] at h8
    refine R_aload rfl rfl rfl ?_
    refine T_getr (v := 115) rfl rfl rfl rfl ?_
    refine R_iload rfl rfl ?_
    refine T_ald rfl rfl (by omega) (by omega) ?_
    refine R_if rfl (fun h17 => ?_) (fun h17 => ?_)
    · try simp only [ne_eq, b2i_e, b2i_1, Classical.not_not] at h17
      refine R_aload rfl rfl rfl ?_
      refine T_getr (v := 115) rfl rfl rfl rfl ?_
      refine R_iload rfl rfl ?_
      refine T_ald rfl rfl (by omega) (by omega) ?_
      refine R_push rfl ?_
      refine R_ic rfl (fun h37 => ?_) (fun h37 => ?_)
      · try simp only [ne_eq, b2i_e, b2i_1, Classical.not_not] at h37
        refine R_aload rfl rfl rfl ?_
        refine T_getr (v := 115) rfl rfl rfl rfl ?_
        refine R_iload rfl rfl ?_
        refine T_ald rfl rfl (by omega) (by omega) ?_
        refine R_push rfl ?_
        refine R_ic rfl (fun h56 => ?_) (fun h56 => ?_)
        · try simp only [ne_eq, b2i_e, b2i_1, Classical.not_not] at h56
          refine R_push rfl ?_
          refine R_zret rfl (by first | exact Or.inl rfl | exact Or.inr rfl | omega | grind) ?_
          exact hE _ _ (by unfold mayM; rw [b2i_f (by omega)]) Fr.rf
        · try simp only [ne_eq, b2i_e, b2i_1, Classical.not_not] at h56
          refine R_aload rfl rfl rfl ?_
          refine T_getr (v := 115) rfl rfl rfl rfl ?_
          refine R_iload rfl rfl ?_
          refine T_ald rfl rfl (by omega) (by omega) ?_
          refine R_push rfl ?_
          refine R_ic rfl (fun h66 => ?_) (fun h66 => ?_)
          · try simp only [ne_eq, b2i_e, b2i_1, Classical.not_not] at h66
            exact J71 (by omega) (by omega)
          · try simp only [ne_eq, b2i_e, b2i_1, Classical.not_not] at h66
            refine R_push rfl ?_
            refine R_zret rfl (by first | exact Or.inl rfl | exact Or.inr rfl | omega | grind) ?_
            exact hE _ _ (by unfold mayM; rw [b2i_f (by omega)]) Fr.rf
      · try simp only [ne_eq, b2i_e, b2i_1, Classical.not_not] at h37
        refine R_aload rfl rfl rfl ?_
        refine T_getr (v := 115) rfl rfl rfl rfl ?_
        refine R_iload rfl rfl ?_
        refine T_ald rfl rfl (by omega) (by omega) ?_
        refine R_if rfl (fun h46 => ?_) (fun h46 => ?_)
        · try simp only [ne_eq, b2i_e, b2i_1, Classical.not_not] at h46
          exact J71 (by omega) (by omega)
        · try simp only [ne_eq, b2i_e, b2i_1, Classical.not_not] at h46
          refine R_aload rfl rfl rfl ?_
          refine T_getr (v := 115) rfl rfl rfl rfl ?_
          refine R_iload rfl rfl ?_
          refine T_ald rfl rfl (by omega) (by omega) ?_
          refine R_push rfl ?_
          refine R_ic rfl (fun h56 => ?_) (fun h56 => ?_)
          · try simp only [ne_eq, b2i_e, b2i_1, Classical.not_not] at h56
            refine R_push rfl ?_
            refine R_zret rfl (by first | exact Or.inl rfl | exact Or.inr rfl | omega | grind) ?_
            exact hE _ _ (by unfold mayM; rw [b2i_f (by omega)]) Fr.rf
          · try simp only [ne_eq, b2i_e, b2i_1, Classical.not_not] at h56
            refine R_aload rfl rfl rfl ?_
            refine T_getr (v := 115) rfl rfl rfl rfl ?_
            refine R_iload rfl rfl ?_
            refine T_ald rfl rfl (by omega) (by omega) ?_
            refine R_push rfl ?_
            refine R_ic rfl (fun h66 => ?_) (fun h66 => ?_)
            · try simp only [ne_eq, b2i_e, b2i_1, Classical.not_not] at h66
              exact J71 (by omega) (by omega)
            · try simp only [ne_eq, b2i_e, b2i_1, Classical.not_not] at h66
              refine R_push rfl ?_
              refine R_zret rfl (by first | exact Or.inl rfl | exact Or.inr rfl | omega | grind) ?_
              exact hE _ _ (by unfold mayM; rw [b2i_f (by omega)]) Fr.rf
    · try simp only [ne_eq, b2i_e, b2i_1, Classical.not_not] at h17
      refine R_aload rfl rfl rfl ?_
      refine T_getr (v := 115) rfl rfl rfl rfl ?_
      refine R_iload rfl rfl ?_
      refine T_ald rfl rfl (by omega) (by omega) ?_
      refine R_push rfl ?_
      refine R_ic rfl (fun h27 => ?_) (fun h27 => ?_)
      · try simp only [ne_eq, b2i_e, b2i_1, Classical.not_not] at h27
        exact J71 (by omega) (by omega)
      · try simp only [ne_eq, b2i_e, b2i_1, Classical.not_not] at h27
        refine R_aload rfl rfl rfl ?_
        refine T_getr (v := 115) rfl rfl rfl rfl ?_
        refine R_iload rfl rfl ?_
        refine T_ald rfl rfl (by omega) (by omega) ?_
        refine R_push rfl ?_
        refine R_ic rfl (fun h37 => ?_) (fun h37 => ?_)
        · try simp only [ne_eq, b2i_e, b2i_1, Classical.not_not] at h37
          refine R_aload rfl rfl rfl ?_
          refine T_getr (v := 115) rfl rfl rfl rfl ?_
          refine R_iload rfl rfl ?_
          refine T_ald rfl rfl (by omega) (by omega) ?_
          refine R_push rfl ?_
          refine R_ic rfl (fun h56 => ?_) (fun h56 => ?_)
          · try simp only [ne_eq, b2i_e, b2i_1, Classical.not_not] at h56
            refine R_push rfl ?_
            refine R_zret rfl (by first | exact Or.inl rfl | exact Or.inr rfl | omega | grind) ?_
            exact hE _ _ (by unfold mayM; rw [b2i_f (by omega)]) Fr.rf
          · try simp only [ne_eq, b2i_e, b2i_1, Classical.not_not] at h56
            refine R_aload rfl rfl rfl ?_
            refine T_getr (v := 115) rfl rfl rfl rfl ?_
            refine R_iload rfl rfl ?_
            refine T_ald rfl rfl (by omega) (by omega) ?_
            refine R_push rfl ?_
            refine R_ic rfl (fun h66 => ?_) (fun h66 => ?_)
            · try simp only [ne_eq, b2i_e, b2i_1, Classical.not_not] at h66
              exact J71 (by omega) (by omega)
            · try simp only [ne_eq, b2i_e, b2i_1, Classical.not_not] at h66
              refine R_push rfl ?_
              refine R_zret rfl (by first | exact Or.inl rfl | exact Or.inr rfl | omega | grind) ?_
              exact hE _ _ (by unfold mayM; rw [b2i_f (by omega)]) Fr.rf
        · try simp only [ne_eq, b2i_e, b2i_1, Classical.not_not] at h37
          refine R_aload rfl rfl rfl ?_
          refine T_getr (v := 115) rfl rfl rfl rfl ?_
          refine R_iload rfl rfl ?_
          refine T_ald rfl rfl (by omega) (by omega) ?_
          refine R_if rfl (fun h46 => ?_) (fun h46 => ?_)
          · try simp only [ne_eq, b2i_e, b2i_1, Classical.not_not] at h46
            exact J71 (by omega) (by omega)
          · try simp only [ne_eq, b2i_e, b2i_1, Classical.not_not] at h46
            refine R_aload rfl rfl rfl ?_
            refine T_getr (v := 115) rfl rfl rfl rfl ?_
            refine R_iload rfl rfl ?_
            refine T_ald rfl rfl (by omega) (by omega) ?_
            refine R_push rfl ?_
            refine R_ic rfl (fun h56 => ?_) (fun h56 => ?_)
            · try simp only [ne_eq, b2i_e, b2i_1, Classical.not_not] at h56
              refine R_push rfl ?_
              refine R_zret rfl (by first | exact Or.inl rfl | exact Or.inr rfl | omega | grind) ?_
              exact hE _ _ (by unfold mayM; rw [b2i_f (by omega)]) Fr.rf
            · try simp only [ne_eq, b2i_e, b2i_1, Classical.not_not] at h56
              refine R_aload rfl rfl rfl ?_
              refine T_getr (v := 115) rfl rfl rfl rfl ?_
              refine R_iload rfl rfl ?_
              refine T_ald rfl rfl (by omega) (by omega) ?_
              refine R_push rfl ?_
              refine R_ic rfl (fun h66 => ?_) (fun h66 => ?_)
              · try simp only [ne_eq, b2i_e, b2i_1, Classical.not_not] at h66
                exact J71 (by omega) (by omega)
              · try simp only [ne_eq, b2i_e, b2i_1, Classical.not_not] at h66
                refine R_push rfl ?_
                refine R_zret rfl (by first | exact Or.inl rfl | exact Or.inr rfl | omega | grind) ?_
                exact hE _ _ (by unfold mayM; rw [b2i_f (by omega)]) Fr.rf
set_option maxRecDepth 20000 in
set_option maxHeartbeats 2000000 in
theorem sp_X10_doubts (d : Nat) (hd : 5 ≤ d) (xs : List (Nat × Nat)) (t dd rr : Nat) (σ : Sg) (f g P : Int) (h0 : P ≤ 40) (hB : PBm σ P) (hf : 0 ≤ f ∧ f / 8 < P) (hg : 0 ≤ g ∧ g / 8 < P) (hf2 : ∀ k, 0 ≤ k → k < 8 → 0 ≤ σ 100 (8 * f + k) ∧ σ 100 (8 * f + k) ≤ 255) (hg2 : ∀ k, 0 ≤ k → k < 8 → 0 ≤ σ 100 (8 * g + k) ∧ σ 100 (8 * g + k) ≤ 255) (hra : 0 ≤ σ 101 f ∧ σ 101 f ≤ 7) (hrb : 0 ≤ σ 101 g ∧ σ 101 g ≤ 7) (hsm : σ 99 f = 0 ∧ σ 99 g = 1 ∨ σ 99 f = 1 ∧ σ 99 g = 0 ∨ σ 99 f = 3 ∧ σ 99 g = 3) (h N : Int) (kd nu len : Int → Int) (K W : Int → Int → Int) (hT : WT N kd nu len K W) (hC : MT σ h N kd nu len K W) (hnn : ∀ l, 0 ≤ l → l < N → 0 ≤ nu l ∧ nu l ≤ 99)  : ∃ σ', Ev d 76 [(87, 0), (0, f), (0, g)] (Wd xs t dd rr σ) (0, sumZ (fun l => if hld (kmM σ f g) kd nu len K W 2 l = 1 then nu l else 0) N) (Wd xs t dd rr σ') ∧ Fr [85, 86, 87] [(71, 41), (71, 42)] σ σ' := by
  obtain ⟨d, rfl⟩ : ∃ e, d = e + 1 := ⟨d - 1, by omega⟩
  have hN := hT.1
  have hh01 := hC.2.1
  refine evS (nL := 5) (code := k_X10_doubts) rfl dc_X10_doubts rfl (fun E hE => ?_)
  show pCm (Ev d) k_X10_doubts E 0 [(87, 0), (0, f), (0, g), (9, 0), (9, 0)] [] _
  refine R_aload rfl rfl rfl ?_
  refine R_iload rfl rfl ?_
  refine R_iload rfl rfl ?_
  obtain ⟨s3, hev3, hF3, h41, h42, hk3, hag3⟩ := sp_X10_meets d (by omega) xs t dd rr σ f g P h0 (by unfold PBm; rw [(Fr.rf (rows := [85, 86, 87]) (sl := []) (σ := σ)).fn 89 rfl, (Fr.rf (rows := [85, 86, 87]) (sl := []) (σ := σ)).fn 90 rfl, (Fr.rf (rows := [85, 86, 87]) (sl := []) (σ := σ)).fn 91 rfl, (Fr.rf (rows := [85, 86, 87]) (sl := []) (σ := σ)).fn 92 rfl, (Fr.rf (rows := [85, 86, 87]) (sl := []) (σ := σ)).fn 93 rfl, (Fr.rf (rows := [85, 86, 87]) (sl := []) (σ := σ)).fn 94 rfl, (Fr.rf (rows := [85, 86, 87]) (sl := []) (σ := σ)).fn 95 rfl, (Fr.rf (rows := [85, 86, 87]) (sl := []) (σ := σ)).fn 96 rfl, (Fr.rf (rows := [85, 86, 87]) (sl := []) (σ := σ)).fn 97 rfl]; exact hB) hf hg (by rw [(Fr.rf (rows := [85, 86, 87]) (sl := []) (σ := σ)).fn 100 rfl]; exact hf2) (by rw [(Fr.rf (rows := [85, 86, 87]) (sl := []) (σ := σ)).fn 100 rfl]; exact hg2) (by rw [(Fr.rf (rows := [85, 86, 87]) (sl := []) (σ := σ)).fn 101 rfl]; exact hra) (by rw [(Fr.rf (rows := [85, 86, 87]) (sl := []) (σ := σ)).fn 101 rfl]; exact hrb) (by rw [(Fr.rf (rows := [85, 86, 87]) (sl := []) (σ := σ)).fn 99 rfl]; exact hsm) h N kd nu len K W hT (MT_fr hC (Fr.rf (rows := [85, 86, 87]) (sl := []) (σ := σ)) rfl rfl rfl rfl rfl rfl rfl)
  have efM : fitM σ f g = fitM σ f g := by unfold fitM; rw [(Fr.rf (rows := [85, 86, 87]) (sl := []) (σ := σ)).fn 100 rfl, (Fr.rf (rows := [85, 86, 87]) (sl := []) (σ := σ)).fn 101 rfl]
  have ekM : kmM σ f g = kmM σ f g := by unfold kmM; rw [efM, (Fr.rf (rows := [85, 86, 87]) (sl := []) (σ := σ)).fn 99 rfl, (Fr.rf (rows := [85, 86, 87]) (sl := []) (σ := σ)).fn 89 rfl, (Fr.rf (rows := [85, 86, 87]) (sl := []) (σ := σ)).fn 90 rfl, (Fr.rf (rows := [85, 86, 87]) (sl := []) (σ := σ)).fn 91 rfl, (Fr.rf (rows := [85, 86, 87]) (sl := []) (σ := σ)).fn 92 rfl, (Fr.rf (rows := [85, 86, 87]) (sl := []) (σ := σ)).fn 96 rfl, (Fr.rf (rows := [85, 86, 87]) (sl := []) (σ := σ)).fn 93 rfl, (Fr.rf (rows := [85, 86, 87]) (sl := []) (σ := σ)).fn 94 rfl, (Fr.rf (rows := [85, 86, 87]) (sl := []) (σ := σ)).fn 95 rfl]
  rw [efM] at h41 h42
  rw [ekM] at hk3
  have F3 : Fr [85, 86, 87] [(71, 41), (71, 42)] σ s3 := (Fr.rf (rows := [85, 86, 87]) (sl := []) (σ := σ)).tr hF3 rfl rfl
  have hC3 := MT_fr hC F3 rfl rfl rfl rfl rfl rfl rfl
  refine R_invv rfl rfl rfl rfl rfl rfl (hev3) rfl ?_
  show pCm _ _ _ 6 _ [] _
  refine R_push rfl ?_
  refine R_istore rfl rfl ?_
  refine R_push rfl ?_
  refine R_aload rfl rfl rfl ?_
  refine T_geti rfl rfl rfl ?_
  rw [hC3.1]
  refine R_mul rfl (by omega) (by omega) ?_
  refine R_istore rfl rfl ?_
  suffices hh : pCm (Ev d) k_X10_doubts E 17 [(87, 0), (0, f), (0, g), (0, 0), (0, 24 * h + 0)] [] (Wd xs t dd rr s3) by rwa [Int.add_zero] at hh
  refine loop (pc := 17) (α := Int × Int × Sg) (fun x => (N - x.2.1).toNat) (fun x => ([(87, 0), (0, f), (0, g), (0, x.1), (0, 24 * h + x.2.1)], Wd xs t dd rr x.2.2)) (fun x => (0 ≤ x.2.1 ∧ x.2.1 ≤ N) ∧ Fr [87] [] s3 x.2.2 ∧ x.1 = sumZ (fun l => if hld (kmM σ f g) kd nu len K W 2 l = 1 then nu l else 0) x.2.1) ?_ (0, 0, s3) ?_
  · intro ⟨n, l, s1⟩ ⟨⟨hk0, hk1⟩, hF, hn⟩ ih
    dsimp only at hk0 hk1 hF hn ⊢
    obtain ⟨hC1a, hC1b, hC1c, hC1d⟩ := MT_fr hC3 hF rfl rfl rfl rfl rfl rfl rfl
    have hsm2 := sumZ_s (f := fun l => if hld (kmM σ f g) kd nu len K W 2 l = 1 then nu l else 0) hk0
    have hsb := sumZ_bd (f := fun l => if hld (kmM σ f g) kd nu len K W 2 l = 1 then nu l else 0) (c := 99) hk0 (fun i i0 i1 => by have := hnn i i0 (by omega); split <;> omega)
    have hgb := hld_bd (kn := kmM σ f g) (kd := kd) (nu := nu) (len := len) (K := K) (W := W) (k := 2) (l := l)
    have hnl : l < N → _ := hnn l hk0
    refine R_iload rfl rfl ?_
    refine R_push rfl ?_
    refine R_aload rfl rfl rfl ?_
    refine T_geti rfl rfl rfl ?_
    rw [hC1a]
    refine R_mul rfl (by omega) (by omega) ?_
    refine R_aload rfl rfl rfl ?_
    refine T_getr (v := 93) rfl rfl rfl rfl ?_
    refine R_aload rfl rfl rfl ?_
    refine T_geti rfl rfl rfl ?_
    rw [hC1a]
    refine T_ald rfl rfl (by omega) (by omega) ?_
    rw [hC1c]
    refine R_add rfl (by omega) (by omega) ?_
    refine R_ic rfl (fun h36 => ?_) (fun h36 => ?_)
    · try simp only [ne_eq, b2i_e, b2i_1, Classical.not_not] at h36
      refine R_iload rfl rfl ?_
      refine R_iret rfl ?_
      exact hE _ _ (by congr 1; rw [hn]; congr 1; omega) (F3.tr hF rfl rfl)
    · try simp only [ne_eq, b2i_e, b2i_1, Classical.not_not] at h36
      refine R_iload rfl rfl ?_
      refine R_aload rfl rfl rfl ?_
      refine R_iload rfl rfl ?_
      refine R_push rfl ?_
      obtain ⟨s2, hev, hF2⟩ := sp_X10_isSo d (by omega) xs t dd rr s1 l 2 h N kd nu len K W hT (MT_fr hC3 hF rfl rfl rfl rfl rfl rfl rfl) ⟨by omega, by omega⟩ (by rw [hF.fn 86 rfl, hF.fn 85 rfl]; exact hag3)
      rw [hF.fn 85 rfl, hld_kn hT hk3 hk0 (by omega)] at hev
      refine R_invv rfl rfl rfl rfl rfl rfl (hev) rfl ?_
      show pCm _ _ _ 47 _ [(0, _), (0, _)] _
      have J61 : ∀ v : Int, v = (if hld (kmM σ f g) kd nu len K W 2 l = 1 then nu l else 0) → pCm (Ev d) k_X10_doubts E 61 [(87, 0), (0, f), (0, g), (0, n), (0, 24 * h + l)] [(0, v), (0, n)] (Wd xs t dd rr s2) := by
        intro v hv
        have hvb : 0 ≤ v ∧ v ≤ 99 := by
          have := hnl (by omega)
          rw [hv]; split <;> omega
        subst hv
        refine R_add rfl (by omega) (by omega) ?_
        refine R_istore rfl rfl ?_
        refine R_inc rfl rfl (by omega) (by omega) ?_
        refine R_goto rfl ?_
        rw [Int.add_assoc]
        exact ih (_, l + 1, s2) ⟨by dsimp only; omega, hF.tr (r3 := [87]) (s3 := []) hF2 rfl rfl, by dsimp only; rw [hsm2, hn]⟩ (by dsimp only; omega)
      refine R_if rfl (fun h47 => ?_) (fun h47 => ?_)
      · try simp only [ne_eq, b2i_e, b2i_1, Classical.not_not] at h47
        refine R_push rfl ?_
        exact J61 _ (by first | rw [if_pos (by omega)] | rw [if_neg (by omega)])
      · try simp only [ne_eq, b2i_e, b2i_1, Classical.not_not] at h47
        refine R_aload rfl rfl rfl ?_
        refine T_getr (v := 95) rfl rfl rfl rfl ?_
        refine R_iload rfl rfl ?_
        refine T_ald rfl rfl (by omega) (by omega) ?_
        rw [(hF.tr (r3 := [87]) (s3 := []) hF2 rfl rfl).row 79 rfl, (hC3.2.2.2 l hk0 (by omega)).2.1]
        refine R_goto rfl ?_
        exact J61 _ (by first | rw [if_pos (by omega)] | rw [if_neg (by omega)])
  · exact ⟨⟨Int.le_refl _, hT.1.1⟩, Fr.rf, rfl⟩

set_option maxRecDepth 20000 in
set_option maxHeartbeats 2000000 in
theorem sp_X9_join (d : Nat) (hd : 7 ≤ d) (xs : List (Nat × Nat)) (t dd rr : Nat) (σ : Sg) (a b J : Int) (hab : a < 2147483648 ∧ b < 2147483648) (P : Int) (N : Int) (kd nu len : Int → Int) (K W : Int → Int → Int) (hJ : JS σ t P N kd nu len K W) (h13 : ∀ p, P ≤ p → p < 40 → σ 13 p = 0) (hC : CW σ P J) (hn : 0 ≤ σ 0 8 ∧ σ 0 8 ≤ 999) : ∃ σ', Ev d 10 [(16, 0), (0, a), (0, b)] (Wd xs t dd rr σ) (0, if ((0 ≤ a ∧ a < 320 ∧ a % 8 < σ 13 (a / 8)) ∧ (0 ≤ b ∧ b < 320 ∧ b % 8 < σ 13 (b / 8))) ∧ J < 80 ∧ (σ 17 a = -1 ∧ σ 17 b = -1) ∧ mayS σ N kd nu len K W a b = 1 then J else -1) (Wd xs t dd rr σ') ∧ (¬ (((0 ≤ a ∧ a < 320 ∧ a % 8 < σ 13 (a / 8)) ∧ (0 ≤ b ∧ b < 320 ∧ b % 8 < σ 13 (b / 8))) ∧ J < 80 ∧ (σ 17 a = -1 ∧ σ 17 b = -1) ∧ mayS σ N kd nu len K W a b = 1) → Fj σ σ') ∧ (((0 ≤ a ∧ a < 320 ∧ a % 8 < σ 13 (a / 8)) ∧ (0 ≤ b ∧ b < 320 ∧ b % 8 < σ 13 (b / 8))) ∧ J < 80 ∧ (σ 17 a = -1 ∧ σ 17 b = -1) ∧ mayS σ N kd nu len K W a b = 1 → Fr [29, 30, 31, 32, 34, 19, 20, 42, 43, 49, 50, 51] [(57, 4), (64, 10)] (up2 (up2 (up2 (up2 (up2 (up2 (up2 (up2 (up2 (σ) 22 (J) (a)) 23 (J) (b)) 24 (J) (fitS σ a b % 8)) 25 (J) (σ 0 8)) 26 (J) (-1)) 21 (0) (J + 1)) 27 (J) (b2i (σ 14 a = 3))) 17 (a) (J)) 17 (b) (J)) σ' ∧ GI σ' P (J + 1) ∧ σ' 57 4 = -1 ∧ σ' 64 10 = -1) := by
  obtain ⟨d, rfl⟩ : ∃ e, d = e + 1 := ⟨d - 1, by omega⟩
  have hP := hJ.1
  have h8a : (0 ≤ a ∧ a < 320 ∧ a % 8 < σ 13 (a / 8)) → a < 8 * P := fun w => by
    by_cases q : P ≤ a / 8
    · have := h13 (a / 8) q (by omega); omega
    · omega
  have h8b : (0 ≤ b ∧ b < 320 ∧ b % 8 < σ 13 (b / 8)) → b < 8 * P := fun w => by
    by_cases q : P ≤ b / 8
    · have := h13 (b / 8) q (by omega); omega
    · omega
  have hm01 := may_01 (σ := σ) (N := N) (kd := kd) (nu := nu) (len := len) (K := K) (W := W) (a := a) (b := b)
  have hJ2 := hC.1.2.1
  have hJ3 := hC.1.2.2.2.1
  refine evS (nL := 4) (code := k_X9_join) rfl dc_X9_join rfl (fun E hE => ?_)
  show pCm (Ev d) k_X9_join E 0 [(16, 0), (0, a), (0, b), (9, 0)] [] _
  refine R_aload rfl rfl rfl ?_
  refine T_getr (v := 28) rfl rfl rfl rfl ?_
  refine R_iload rfl rfl ?_
  refine R_invv rfl rfl rfl rfl rfl rfl (sp_X1_has d (by omega) xs t dd rr σ a hab.1) rfl ?_
  show pCm _ _ _ 8 _ [(0, _)] _
  refine R_if rfl (fun h8 => ?_) (fun h8 => ?_)
  · try simp only [ne_eq, b2i_e, b2i_1, Classical.not_not] at h8
    refine R_push rfl ?_
    refine R_iret rfl ?_
    exact hE _ _ (by rw [if_neg (by omega)]) ⟨fun _ => Fr.rf, fun w => absurd w (by omega)⟩
  · try simp only [ne_eq, b2i_e, b2i_1, Classical.not_not] at h8
    refine R_aload rfl rfl rfl ?_
    refine T_getr (v := 28) rfl rfl rfl rfl ?_
    refine R_iload rfl rfl ?_
    refine R_invv rfl rfl rfl rfl rfl rfl (sp_X1_has d (by omega) xs t dd rr σ b hab.2) rfl ?_
    show pCm _ _ _ 19 _ [(0, _)] _
    refine R_if rfl (fun h19 => ?_) (fun h19 => ?_)
    · try simp only [ne_eq, b2i_e, b2i_1, Classical.not_not] at h19
      refine R_push rfl ?_
      refine R_iret rfl ?_
      exact hE _ _ (by rw [if_neg (by omega)]) ⟨fun _ => Fr.rf, fun w => absurd w (by omega)⟩
    · try simp only [ne_eq, b2i_e, b2i_1, Classical.not_not] at h19
      refine R_aload rfl rfl rfl ?_
      refine T_getr (v := 37) rfl rfl rfl rfl ?_
      refine T_geti rfl rfl rfl ?_
      refine R_push rfl ?_
      refine R_ic rfl (fun h31 => ?_) (fun h31 => ?_)
      · try simp only [ne_eq, b2i_e, b2i_1, Classical.not_not] at h31
        have h9a := h8a (by omega)
        have h9b := h8b (by omega)
        refine R_aload rfl rfl rfl ?_
        refine T_getr (v := 28) rfl rfl rfl rfl ?_
        refine T_getr (v := 33) rfl rfl rfl rfl ?_
        refine R_iload rfl rfl ?_
        refine T_ald rfl rfl (by omega) (by omega) ?_
        refine R_push rfl ?_
        refine R_ic rfl (fun h46 => ?_) (fun h46 => ?_)
        · try simp only [ne_eq, b2i_e, b2i_1, Classical.not_not] at h46
          refine R_push rfl ?_
          refine R_iret rfl ?_
          first
          | exact hE _ _ (by rw [if_neg (by omega)]) ⟨fun _ => hFs1, fun w => absurd w (by omega)⟩
          | exact hE _ _ (by rw [if_neg (by omega)]) ⟨fun _ => Fr.rf, fun w => absurd w (by omega)⟩
        · try simp only [ne_eq, b2i_e, b2i_1, Classical.not_not] at h46
          refine R_aload rfl rfl rfl ?_
          refine T_getr (v := 28) rfl rfl rfl rfl ?_
          refine T_getr (v := 33) rfl rfl rfl rfl ?_
          refine R_iload rfl rfl ?_
          refine T_ald rfl rfl (by omega) (by omega) ?_
          refine R_push rfl ?_
          refine R_ic rfl (fun h59 => ?_) (fun h59 => ?_)
          · try simp only [ne_eq, b2i_e, b2i_1, Classical.not_not] at h59
            refine R_push rfl ?_
            refine R_iret rfl ?_
            first
            | exact hE _ _ (by rw [if_neg (by omega)]) ⟨fun _ => hFs1, fun w => absurd w (by omega)⟩
            | exact hE _ _ (by rw [if_neg (by omega)]) ⟨fun _ => Fr.rf, fun w => absurd w (by omega)⟩
          · try simp only [ne_eq, b2i_e, b2i_1, Classical.not_not] at h59
            refine R_aload rfl rfl rfl ?_
            refine T_getr (v := 52) rfl rfl rfl rfl ?_
            refine R_iload rfl rfl ?_
            refine R_iload rfl rfl ?_
            obtain ⟨s1, hevs1, hFs1⟩ := sp_X5_mayMeet d (by omega) xs t dd rr σ a b P N kd nu len K W hJ ⟨by omega, by omega⟩ ⟨by omega, by omega⟩
            refine R_invv rfl rfl rfl rfl rfl rfl (hevs1) rfl ?_
            show pCm _ _ _ 71 _ [(0, _)] _
            refine R_if rfl (fun h71 => ?_) (fun h71 => ?_)
            · try simp only [ne_eq, b2i_e, b2i_1, Classical.not_not] at h71
              refine R_aload rfl rfl rfl ?_
              refine T_getr (v := 37) rfl rfl rfl rfl ?_
              refine R_iload rfl rfl ?_
              refine R_iload rfl rfl ?_
              refine R_aload rfl rfl rfl ?_
              refine T_getr (v := 28) rfl rfl rfl rfl ?_
              refine R_iload rfl rfl ?_
              refine R_iload rfl rfl ?_
              obtain ⟨s3, hev3, hF3a⟩ := sp_X1_fit d (by omega) xs t dd rr s1 a b ⟨by omega, by omega⟩ ⟨by omega, by omega⟩ (by rw [hFs1.row 16 rfl]; exact hJ.2.2.1 a (by omega) (by omega)) (by rw [hFs1.row 16 rfl]; exact hJ.2.2.1 b (by omega) (by omega))
              have hev3 : Ev d 157 [(28, 0), (0, a), (0, b)] (Wd xs t dd rr s1) (0, fitS s1 a b) (Wd xs t dd rr s3) := hev3
              rw [fitS_fr (hFs1.fn 15 rfl) (hFs1.fn 16 rfl)] at hev3
              have hF3 : Fj σ s3 := hFs1.tr hF3a rfl rfl
              have hfb := fitS_bd (σ := σ) (a := a) (b := b)
              refine R_invv rfl rfl rfl rfl rfl rfl (hev3) rfl ?_
              show pCm _ _ _ 91 _ [(0, _), (0, _), (0, _), (37, 0)] _
              refine R_push rfl ?_
              refine R_rm rfl (by omega) (by omega) (by omega) ?_
              refine R_aload rfl rfl rfl ?_
              refine T_geti rfl rfl rfl ?_
              obtain ⟨s4, hev4, hs4⟩ := sp_X4_add d (by omega) xs t dd rr s3 a b (fitS σ a b % 8) (s3 0 8) J (by rw [hF3.row 21 rfl]; exact hJ2) ⟨by omega, by omega⟩
              have e414 : s4 14 a = σ 14 a := by rw [hs4]; simp [up2]; exact hF3.row 14 rfl a
              refine R_invv rfl rfl rfl rfl rfl rfl (hev4) rfl ?_
              show pCm _ _ _ 101 _ [(0, _)] _
              refine R_istore rfl rfl ?_
              have J128 : ∀ v : Int, v = b2i (σ 14 a = 3) → pCm (Ev d) k_X9_join E 128 [(16, 0), (0, a), (0, b), (0, J)] [(0, v), (0, J), (43, 0)] (Wd xs t dd rr s4) := by
                intro v hv
                have hv01 : v = 0 ∨ v = 1 := by rw [hv]; unfold b2i; split <;> omega
                refine T_zast rfl rfl (by omega) (by omega) (by omega) ?_
                refine R_aload rfl rfl rfl ?_
                refine T_getr (v := 28) rfl rfl rfl rfl ?_
                refine T_getr (v := 33) rfl rfl rfl rfl ?_
                refine R_iload rfl rfl ?_
                refine R_iload rfl rfl ?_
                refine T_iast rfl rfl (by omega) (by omega) ?_
                refine R_aload rfl rfl rfl ?_
                refine T_getr (v := 28) rfl rfl rfl rfl ?_
                refine T_getr (v := 33) rfl rfl rfl rfl ?_
                refine R_iload rfl rfl ?_
                refine R_iload rfl rfl ?_
                refine T_iast rfl rfl (by omega) (by omega) ?_
                refine R_aload rfl rfl rfl ?_
                generalize hs7 : up2 (up2 (up2 s4 27 J v) 17 a J) 17 b J = s7
                have hU : s7 = up2 (up2 (up2 (up2 (up2 (up2 (up2 (up2 (up2 (s3) 22 (J) (a)) 23 (J) (b)) 24 (J) (fitS σ a b % 8)) 25 (J) (σ 0 8)) 26 (J) (-1)) 21 (0) (J + 1)) 27 (J) (b2i (σ 14 a = 3))) 17 (a) (J)) 17 (b) (J) := by rw [← hs7, hs4, hv, hF3.row 0 rfl]
                have hr : ∀ k, k ≠ 17 → k ≠ 21 → k ≠ 22 → k ≠ 23 → k ≠ 24 → k ≠ 25 → k ≠ 26 → k ≠ 27 → ∀ i, s7 k i = s3 k i := fun k h1 h2 h3 h4 h5 h6 h7 h8 i => by
                  rw [hU]; simp [up2, h1, h2, h3, h4, h5, h6, h7, h8]
                have hC3 : ∀ k, (k = 1 ∨ k = 21 ∨ k = 22 ∨ k = 23 ∨ k = 24 ∨ k = 25 ∨ k = 26) → ∀ i, s3 k i = σ k i := fun k hk i => by
                  rcases hk with e | e | e | e | e | e | e <;> subst e <;> exact hF3.row _ rfl i
                have hC2 : CW s7 P (J + 1) := by
                  refine ⟨⟨by rw [hr 1 (by decide) (by decide) (by decide) (by decide) (by decide) (by decide) (by decide) (by decide), hC3 1 (by decide)]; exact hC.1.1, by rw [hU]; simp [up2], hC.1.2.2.1, ⟨by omega, by omega⟩, fun j h0 h1 => ?_⟩, fun j h0 h1 => ?_, fun i h0 h1 => ?_⟩
                  · by_cases q : j = J
                    · have e1 : s7 22 j = a := by rw [hU, q]; simp [up2]
                      have e2 : s7 23 j = b := by rw [hU, q]; simp [up2]
                      omega
                    · have e1 : s7 22 j = σ 22 j := by rw [hU]; simp [up2, q]; exact hC3 22 (by decide) j
                      have e2 : s7 23 j = σ 23 j := by rw [hU]; simp [up2, q]; exact hC3 23 (by decide) j
                      rw [e1, e2]; exact hC.1.2.2.2.2 j h0 (by omega)
                  · by_cases q : j = J
                    · have e1 : s7 24 j = fitS σ a b % 8 := by rw [hU, q]; simp [up2]
                      omega
                    · have e1 : s7 24 j = σ 24 j := by rw [hU]; simp [up2, q]; exact hC3 24 (by decide) j
                      rw [e1]; exact hC.2.1 j h0 (by omega)
                  · by_cases q : i = J
                    · have e1 : s7 25 i = σ 0 8 := by rw [hU, q]; simp [up2]
                      have e2 : s7 26 i = -1 := by rw [hU, q]; simp [up2]
                      omega
                    · have e1 : s7 25 i = σ 25 i := by rw [hU]; simp [up2, q]; exact hC3 25 (by decide) i
                      have e2 : s7 26 i = σ 26 i := by rw [hU]; simp [up2, q]; exact hC3 26 (by decide) i
                      rw [e1, e2]; exact hC.2.2 i h0 (by omega)
                obtain ⟨s8, hev8, hF8, hp8⟩ := sp_X9_regroup d (by omega) xs t dd rr s7 P (J + 1) hC2
                have hFz : Fr [29, 30, 31, 32, 34, 19, 20, 42, 43, 49, 50, 51] [(57, 4), (64, 10)] (up2 (up2 (up2 (up2 (up2 (up2 (up2 (up2 (up2 (σ) 22 (J) (a)) 23 (J) (b)) 24 (J) (fitS σ a b % 8)) 25 (J) (σ 0 8)) 26 (J) (-1)) 21 (0) (J + 1)) 27 (J) (b2i (σ 14 a = 3))) 17 (a) (J)) 17 (b) (J)) s8 := by
                  have hb : Fr [19, 20, 42, 43, 49, 50, 51] [] (up2 (up2 (up2 (up2 (up2 (up2 (up2 (up2 (up2 (σ) 22 (J) (a)) 23 (J) (b)) 24 (J) (fitS σ a b % 8)) 25 (J) (σ 0 8)) 26 (J) (-1)) 21 (0) (J + 1)) 27 (J) (b2i (σ 14 a = 3))) 17 (a) (J)) 17 (b) (J)) s7 := by rw [hU]; exact hF3.upb.upb.upb.upb.upb.upb.upb.upb.upb
                  exact hb.tr hF8 rfl rfl
                refine R_invv rfl rfl rfl rfl rfl rfl (hev8) rfl ?_
                show pCm _ _ _ 153 _ [] _
                refine R_iload rfl rfl ?_
                refine R_iret rfl ?_
                exact hE _ _ (by rw [if_pos (by omega)]) ⟨fun w => absurd (by omega) w, fun _ => ⟨hFz, hp8⟩⟩
              refine R_aload rfl rfl rfl ?_
              refine T_getr (v := 37) rfl rfl rfl rfl ?_
              refine T_getr (v := 43) rfl rfl rfl rfl ?_
              refine R_iload rfl rfl ?_
              refine R_aload rfl rfl rfl ?_
              refine T_getr (v := 28) rfl rfl rfl rfl ?_
              refine T_getr (v := 30) rfl rfl rfl rfl ?_
              refine R_iload rfl rfl ?_
              refine T_ald rfl rfl (by omega) (by omega) ?_
              rw [e414]
              refine R_push rfl ?_
              refine R_ic rfl (fun h120 => ?_) (fun h120 => ?_)
              · try simp only [ne_eq, b2i_e, b2i_1, Classical.not_not] at h120
                refine R_push rfl ?_
                exact J128 _ (by first | rw [b2i_t (by omega)] | rw [b2i_f (by omega)])
              · try simp only [ne_eq, b2i_e, b2i_1, Classical.not_not] at h120
                refine R_push rfl ?_
                refine R_goto rfl ?_
                exact J128 _ (by first | rw [b2i_t (by omega)] | rw [b2i_f (by omega)])
            · try simp only [ne_eq, b2i_e, b2i_1, Classical.not_not] at h71
              refine R_push rfl ?_
              refine R_iret rfl ?_
              first
              | exact hE _ _ (by rw [if_neg (by omega)]) ⟨fun _ => hFs1, fun w => absurd w (by omega)⟩
              | exact hE _ _ (by rw [if_neg (by omega)]) ⟨fun _ => Fr.rf, fun w => absurd w (by omega)⟩
      · try simp only [ne_eq, b2i_e, b2i_1, Classical.not_not] at h31
        refine R_push rfl ?_
        refine R_iret rfl ?_
        exact hE _ _ (by rw [if_neg (by omega)]) ⟨fun _ => Fr.rf, fun w => absurd w (by omega)⟩

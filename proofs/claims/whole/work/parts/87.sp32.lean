theorem CT_fr {σ σ' : Sg} {B : Nat} {N : Int} {kd nu len : Int → Int} {K W : Int → Int → Int} (h : CT σ B N kd nu len K W) (h0 : σ' B = σ B) (h1 : σ' (B + 1) = σ (B + 1)) (h2 : σ' (B + 2) = σ (B + 2)) (h3 : σ' (B + 3) = σ (B + 3)) (h4 : σ' (B + 4) = σ (B + 4)) : CT σ' B N kd nu len K W := by unfold CT; rw [h0, h1, h2, h3, h4]; exact h
set_option maxRecDepth 20000 in
set_option maxHeartbeats 2000000 in
theorem sp_X5_stoneOf_37 (d : Nat) (hd : 5 ≤ d) (xs : List (Nat × Nat)) (t dd rr : Nat) (σ : Sg) (p : Int) (hp : 0 ≤ p ∧ p < 40) (N : Int) (kd nu len : Int → Int) (K W : Int → Int → Int) (hT : WT N kd nu len K W) (hC : CT σ 37 N kd nu len K W) (hnn : ∀ l, 0 ≤ l → l < N → 0 ≤ nu l ∧ nu l ≤ 99) (ht : t = 53)  : ∃ σ', Ev d 204 [(52, 0), (0, p)] (Wd xs t dd rr σ) (0, stn (σ 2) (kPc (σ 7) (σ 8) (σ 9) (σ 10) (σ 3) p) N kd nu len K W p) (Wd xs t dd rr σ') ∧ Fr [51, 42, 43] [] σ σ' := by
  obtain ⟨d, rfl⟩ : ∃ e, d = e + 1 := ⟨d - 1, by omega⟩
  subst ht
  refine evS (nL := 2) (code := k_X5_stoneOf) rfl dc_X5_stoneOf rfl (fun E hE => ?_)
  show pCm (Ev d) k_X5_stoneOf E 0 [(52, 0), (0, p)] [] _
  refine R_aload rfl rfl rfl ?_
  refine T_getr (v := 17) rfl rfl rfl rfl ?_
  refine T_getr (v := 18) rfl rfl rfl rfl ?_
  refine R_iload rfl rfl ?_
  refine T_ald rfl rfl (by omega) (by omega) ?_
  refine R_push rfl ?_
  refine R_ic rfl (fun h10 => ?_) (fun h10 => ?_)
  · try simp only [ne_eq, b2i_e, b2i_1, Classical.not_not] at h10
    refine R_aload rfl rfl rfl ?_
    refine R_iload rfl rfl ?_
    obtain ⟨s1, hev1, hF1, hk1⟩ := sp_X5_tellPiece d (by omega) xs 53 dd rr σ p hp
    refine R_invv rfl rfl rfl rfl rfl rfl (hev1) rfl ?_
    show pCm _ _ _ 28 _ [] _
    refine R_aload rfl rfl rfl ?_
    refine T_getr (v := 53) rfl rfl rfl rfl ?_
    refine R_push rfl ?_
    refine R_aload rfl rfl rfl ?_
    refine T_getr (v := 67) rfl rfl rfl rfl ?_
    obtain ⟨s2, hev2, hF2⟩ := sp_X8_firstThatHolds_37 d (by omega) xs 53 dd rr s1 3 N kd nu len K W hT (CT_fr hC (hF1.fn 37 rfl) (hF1.fn 38 rfl) (hF1.fn 39 rfl) (hF1.fn 40 rfl) (hF1.fn 41 rfl)) (fun l l0 l1 => by have := hnn l l0 l1; omega) (by omega)
    rw [frst_c (fun l l0 l1 => hld_kn hT hk1 l0 l1)] at hev2
    refine R_invv rfl rfl rfl rfl rfl rfl (hev2) rfl ?_
    show pCm _ _ _ 42 _ [(0, _)] _
    refine R_iret rfl ?_
    exact hE _ _ (by unfold stn; rw [if_pos (by omega)]) (hF1.tr hF2 rfl rfl)
  · try simp only [ne_eq, b2i_e, b2i_1, Classical.not_not] at h10
    refine R_aload rfl rfl rfl ?_
    refine T_getr (v := 17) rfl rfl rfl rfl ?_
    refine T_getr (v := 18) rfl rfl rfl rfl ?_
    refine R_iload rfl rfl ?_
    refine T_ald rfl rfl (by omega) (by omega) ?_
    refine R_iret rfl ?_
    exact hE _ _ (by unfold stn; rw [if_neg (by omega)]) Fr.rf
set_option maxRecDepth 20000 in
set_option maxHeartbeats 2000000 in
theorem sp_X5_stoneOf_44 (d : Nat) (hd : 5 ≤ d) (xs : List (Nat × Nat)) (t dd rr : Nat) (σ : Sg) (p : Int) (hp : 0 ≤ p ∧ p < 40) (N : Int) (kd nu len : Int → Int) (K W : Int → Int → Int) (hT : WT N kd nu len K W) (hC : CT σ 44 N kd nu len K W) (hnn : ∀ l, 0 ≤ l → l < N → 0 ≤ nu l ∧ nu l ≤ 99) (ht : t = 60)  : ∃ σ', Ev d 204 [(52, 0), (0, p)] (Wd xs t dd rr σ) (0, stn (σ 2) (kPc (σ 7) (σ 8) (σ 9) (σ 10) (σ 3) p) N kd nu len K W p) (Wd xs t dd rr σ') ∧ Fr [51, 49, 50] [] σ σ' := by
  obtain ⟨d, rfl⟩ : ∃ e, d = e + 1 := ⟨d - 1, by omega⟩
  subst ht
  refine evS (nL := 2) (code := k_X5_stoneOf) rfl dc_X5_stoneOf rfl (fun E hE => ?_)
  show pCm (Ev d) k_X5_stoneOf E 0 [(52, 0), (0, p)] [] _
  refine R_aload rfl rfl rfl ?_
  refine T_getr (v := 17) rfl rfl rfl rfl ?_
  refine T_getr (v := 18) rfl rfl rfl rfl ?_
  refine R_iload rfl rfl ?_
  refine T_ald rfl rfl (by omega) (by omega) ?_
  refine R_push rfl ?_
  refine R_ic rfl (fun h10 => ?_) (fun h10 => ?_)
  · try simp only [ne_eq, b2i_e, b2i_1, Classical.not_not] at h10
    refine R_aload rfl rfl rfl ?_
    refine R_iload rfl rfl ?_
    obtain ⟨s1, hev1, hF1, hk1⟩ := sp_X5_tellPiece d (by omega) xs 60 dd rr σ p hp
    refine R_invv rfl rfl rfl rfl rfl rfl (hev1) rfl ?_
    show pCm _ _ _ 28 _ [] _
    refine R_aload rfl rfl rfl ?_
    refine T_getr (v := 60) rfl rfl rfl rfl ?_
    refine R_push rfl ?_
    refine R_aload rfl rfl rfl ?_
    refine T_getr (v := 67) rfl rfl rfl rfl ?_
    obtain ⟨s2, hev2, hF2⟩ := sp_X8_firstThatHolds_44 d (by omega) xs 60 dd rr s1 3 N kd nu len K W hT (CT_fr hC (hF1.fn 44 rfl) (hF1.fn 45 rfl) (hF1.fn 46 rfl) (hF1.fn 47 rfl) (hF1.fn 48 rfl)) (fun l l0 l1 => by have := hnn l l0 l1; omega) (by omega)
    rw [frst_c (fun l l0 l1 => hld_kn hT hk1 l0 l1)] at hev2
    refine R_invv rfl rfl rfl rfl rfl rfl (hev2) rfl ?_
    show pCm _ _ _ 42 _ [(0, _)] _
    refine R_iret rfl ?_
    exact hE _ _ (by unfold stn; rw [if_pos (by omega)]) (hF1.tr hF2 rfl rfl)
  · try simp only [ne_eq, b2i_e, b2i_1, Classical.not_not] at h10
    refine R_aload rfl rfl rfl ?_
    refine T_getr (v := 17) rfl rfl rfl rfl ?_
    refine T_getr (v := 18) rfl rfl rfl rfl ?_
    refine R_iload rfl rfl ?_
    refine T_ald rfl rfl (by omega) (by omega) ?_
    refine R_iret rfl ?_
    exact hE _ _ (by unfold stn; rw [if_neg (by omega)]) Fr.rf

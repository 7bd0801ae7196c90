theorem b2i_or {p : Prop} [Decidable p] : b2i p = 1 ∧ p ∨ b2i p = 0 ∧ ¬ p := by
  by_cases h : p
  · exact Or.inl ⟨b2i_t h, h⟩
  · exact Or.inr ⟨b2i_f h, h⟩
/-- the class's faces and mates, as rows have them -/
def hsS (σ : Sg) (f : Int) : Int := b2i (f % 8 < σ 13 (f / 8))
def mtS (σ : Sg) (J f : Int) : Int := if 0 ≤ σ 17 f ∧ σ 17 f < J then (if σ 22 (σ 17 f) = f then σ 23 (σ 17 f) else σ 22 (σ 17 f)) else -1
def blS (σ : Sg) (P J f : Int) : Int := bl P (σ 14) (σ 29) (σ 30) (mtS σ J) f
def gtS (σ : Sg) (P J c n : Int) : Int × (Int → Int) := gt2 P c (hsS σ) (σ 14) (σ 29) (σ 30) (mtS σ J) n
def BH (σ : Sg) (P J : Int) : Prop := CB σ P J ∧ HH P (hsS σ) (σ 29) (σ 30) (mtS σ J) ∧ (∀ x, 0 ≤ x → x < P → σ 32 x = mny (σ 29) P x) ∧ (∀ f, 0 ≤ f → f < 8 * P → hsS σ f = 1 → σ 17 f = -1 ∨ 0 ≤ σ 17 f ∧ σ 17 f < J) ∧ ∀ f k, 0 ≤ f → f < 8 * P → 0 ≤ k → k < 8 → 0 < nib (σ 18 f) k → hsS σ f = 1 ∧ hsS σ (f / 8 * 8 + k) = 1
theorem mtS_fr {σ s : Sg} {J : Int} (e1 : s 17 = σ 17) (e2 : s 22 = σ 22) (e3 : s 23 = σ 23) : mtS s J = mtS σ J := by funext f; unfold mtS; rw [e1, e2, e3]
theorem hsS_fr {σ s : Sg} (e : s 13 = σ 13) : hsS s = hsS σ := by funext f; unfold hsS; rw [e]
/-- blows' own rows alone changed -/
def Fb (σ s : Sg) : Prop := Fr [58, 59, 60, 61, 62, 63] [(57, 4), (57, 5)] σ s
theorem BH_fr {σ s : Sg} {P J : Int} (h : BH σ P J) (hF : Fb σ s) : BH s P J := by
  unfold BH CB
  rw [hsS_fr (hF.fn 13 rfl), mtS_fr (hF.fn 17 rfl) (hF.fn 22 rfl) (hF.fn 23 rfl), hF.fn 29 rfl, hF.fn 30 rfl, hF.fn 32 rfl, hF.fn 17 rfl, hF.fn 18 rfl, hF.fn 1 rfl, hF.fn 21 rfl, hF.fn 22 rfl, hF.fn 23 rfl]
  exact h
theorem blS_fr {σ s : Sg} {P J : Int} (hF : Fb σ s) : blS s P J = blS σ P J := by
  funext f
  unfold blS
  rw [mtS_fr (hF.fn 17 rfl) (hF.fn 22 rfl) (hF.fn 23 rfl), hF.fn 29 rfl, hF.fn 30 rfl, hF.fn 14 rfl]
theorem gtS_fr {σ s : Sg} {P J c n : Int} (hF : Fb σ s) : gtS s P J c n = gtS σ P J c n := by
  unfold gtS
  rw [hsS_fr (hF.fn 13 rfl), mtS_fr (hF.fn 17 rfl) (hF.fn 22 rfl) (hF.fn 23 rfl), hF.fn 29 rfl, hF.fn 30 rfl, hF.fn 14 rfl]
theorem mtS_iff {σ : Sg} {P J f : Int} (h : BH σ P J) (f0 : 0 ≤ f) (f1 : f < 8 * P) (hf : hsS σ f = 1) : (σ 17 f = -1 ∧ mtS σ J f = -1) ∨ (0 ≤ σ 17 f ∧ 0 ≤ mtS σ J f ∧ mtS σ J f < 8 * P) := by
  have h4 := h.2.2.2.1 f f0 f1 hf
  have hJ := h.1.2.2.2.2
  unfold mtS
  by_cases q : 0 ≤ σ 17 f ∧ σ 17 f < J
  · rw [if_pos q]
    have := hJ _ q.1 q.2
    exact Or.inr ⟨q.1, by split <;> omega, by split <;> omega⟩
  · rw [if_neg q]; exact Or.inl ⟨by omega, rfl⟩
set_option maxRecDepth 20000 in
set_option maxHeartbeats 2000000 in
theorem sp_X0_isOfGreatCobble (d : Nat) (hd : 1 ≤ d) (xs : List (Nat × Nat)) (t dd rr : Nat) (σ : Sg) (P J : Int) (hH : BH σ P J) (f : Int) (hf : 0 ≤ f ∧ f < 8 * P)  : Ev d 134 [(73, 0), (0, f)] (Wd xs t dd rr σ) (0, b2i (2 ≤ mny (σ 29) P (σ 29 (f / 8)))) (Wd xs t dd rr σ) := by
  obtain ⟨d, rfl⟩ : ∃ e, d = e + 1 := ⟨d - 1, by omega⟩
  obtain ⟨⟨hP, hJ, h0, hJ0, hJB⟩, hHH, h32, h17, hcut⟩ := id hH
  have hco := (hHH.2.1 (f / 8) (by omega) (by omega)).1
  have h32f := h32 (σ 29 (f / 8)) hco.1 hco.2
  refine evP (nL := 2) (code := k_X0_isOfGreatCobble) rfl pb0 rfl (fun E hE => ?_)
  show pCm (Ev d) k_X0_isOfGreatCobble E 0 [(73, 0), (0, f)] [] _
  refine R_aload rfl rfl rfl ?_
  refine T_getr (v := 44) rfl rfl rfl rfl ?_
  refine T_getr (v := 48) rfl rfl rfl rfl ?_
  refine R_aload rfl rfl rfl ?_
  refine T_getr (v := 44) rfl rfl rfl rfl ?_
  refine T_getr (v := 45) rfl rfl rfl rfl ?_
  refine R_iload rfl rfl ?_
  refine R_push rfl ?_
  refine R_dv rfl (by omega) (by omega) (by omega) ?_
  refine T_ald rfl rfl (by omega) (by omega) ?_
  refine T_ald rfl rfl (by omega) (by omega) ?_
  refine R_push rfl ?_
  refine R_ic rfl (fun h21 => ?_) (fun h21 => ?_)
  · try simp only [ne_eq, b2i_e, b2i_1, Classical.not_not] at h21
    refine R_push rfl ?_
    refine R_zret rfl (by first | exact Or.inl rfl | exact Or.inr rfl | omega | grind) ?_
    exact hE _ (by congr 1; first | rw [b2i_t (by omega)] | rw [b2i_f (by omega)])
  · try simp only [ne_eq, b2i_e, b2i_1, Classical.not_not] at h21
    refine R_push rfl ?_
    refine R_goto rfl ?_
    refine R_zret rfl (by first | exact Or.inl rfl | exact Or.inr rfl | omega | grind) ?_
    exact hE _ (by congr 1; first | rw [b2i_t (by omega)] | rw [b2i_f (by omega)])
set_option maxRecDepth 20000 in
set_option maxHeartbeats 2000000 in
theorem sp_X0_isHole (d : Nat) (hd : 2 ≤ d) (xs : List (Nat × Nat)) (t dd rr : Nat) (σ : Sg) (P J : Int) (hH : BH σ P J) (f : Int) (hf : 0 ≤ f ∧ f < 8 * P) (hs : hsS σ f = 1) : Ev d 133 [(73, 0), (0, f)] (Wd xs t dd rr σ) (0, b2i (blS σ P J f = 100 + f)) (Wd xs t dd rr σ) := by
  obtain ⟨d, rfl⟩ : ∃ e, d = e + 1 := ⟨d - 1, by omega⟩
  obtain ⟨⟨hP, hJ, h0, hJ0, hJB⟩, hHH, h32, h17, hcut⟩ := id hH
  have hco := (hHH.2.1 (f / 8) (by omega) (by omega)).1
  have hmt := mtS_iff hH hf.1 hf.2 hs
  have hble : blS σ P J f = _ := bl_e
  have hwh : 0 ≤ mtS σ J f → σ 30 (mtS σ J f / 8) < P := fun q => by
    have := (hHH.2.1 (mtS σ J f / 8) (by omega) (by omega)).2.1
    exact this.2
  have hb2 : blS σ P J f = 100 + f ↔ σ 14 f = 0 ∧ 2 ≤ mny (σ 29) P (σ 29 (f / 8)) ∧ σ 17 f = -1 := by
    rw [hble]
    by_cases q1 : σ 14 f = 0 ∧ 2 ≤ mny (σ 29) P (σ 29 (f / 8))
    · rw [if_pos q1]
      by_cases q2 : 0 ≤ mtS σ J f
      · rw [if_pos q2]; have := hwh q2; omega
      · rw [if_neg q2]; omega
    · rw [if_neg q1]; omega
  rw [b2i_iff hb2]
  refine evP (nL := 2) (code := k_X0_isHole) rfl pb0 rfl (fun E hE => ?_)
  show pCm (Ev d) k_X0_isHole E 0 [(73, 0), (0, f)] [] _
  refine R_aload rfl rfl rfl ?_
  refine T_getr (v := 28) rfl rfl rfl rfl ?_
  refine T_getr (v := 30) rfl rfl rfl rfl ?_
  refine R_iload rfl rfl ?_
  refine T_ald rfl rfl (by omega) (by omega) ?_
  refine R_if rfl (fun h9 => ?_) (fun h9 => ?_)
  · try simp only [ne_eq, b2i_e, b2i_1, Classical.not_not] at h9
    refine R_push rfl ?_
    refine R_zret rfl (by first | exact Or.inl rfl | exact Or.inr rfl | omega | grind) ?_
    exact hE _ (by congr 1; first | rw [b2i_t (by omega)] | rw [b2i_f (by omega)])
  · try simp only [ne_eq, b2i_e, b2i_1, Classical.not_not] at h9
    refine R_aload rfl rfl rfl ?_
    refine T_getr (v := 28) rfl rfl rfl rfl ?_
    refine T_getr (v := 33) rfl rfl rfl rfl ?_
    refine R_iload rfl rfl ?_
    refine T_ald rfl rfl (by omega) (by omega) ?_
    refine R_push rfl ?_
    refine R_ic rfl (fun h22 => ?_) (fun h22 => ?_)
    · try simp only [ne_eq, b2i_e, b2i_1, Classical.not_not] at h22
      refine R_push rfl ?_
      refine R_zret rfl (by first | exact Or.inl rfl | exact Or.inr rfl | omega | grind) ?_
      exact hE _ (by congr 1; first | rw [b2i_t (by omega)] | rw [b2i_f (by omega)])
    · try simp only [ne_eq, b2i_e, b2i_1, Classical.not_not] at h22
      refine R_aload rfl rfl rfl ?_
      refine R_iload rfl rfl ?_
      refine R_invv rfl rfl rfl rfl rfl rfl (sp_X0_isOfGreatCobble d (by omega) xs t dd rr σ P J hH f hf) rfl ?_
      show pCm _ _ _ 30 _ [(0, _)] _
      refine R_if rfl (fun h30 => ?_) (fun h30 => ?_)
      · try simp only [ne_eq, b2i_e, b2i_1, Classical.not_not] at h30
        refine R_push rfl ?_
        refine R_zret rfl (by first | exact Or.inl rfl | exact Or.inr rfl | omega | grind) ?_
        exact hE _ (by congr 1; first | rw [b2i_t (by omega)] | rw [b2i_f (by omega)])
      · try simp only [ne_eq, b2i_e, b2i_1, Classical.not_not] at h30
        refine R_push rfl ?_
        refine R_goto rfl ?_
        refine R_zret rfl (by first | exact Or.inl rfl | exact Or.inr rfl | omega | grind) ?_
        exact hE _ (by congr 1; first | rw [b2i_t (by omega)] | rw [b2i_f (by omega)])
set_option maxRecDepth 20000 in
set_option maxHeartbeats 2000000 in
theorem sp_X0_blowOf (d : Nat) (hd : 2 ≤ d) (xs : List (Nat × Nat)) (t dd rr : Nat) (σ : Sg) (P J : Int) (hH : BH σ P J) (f : Int) (hf : 0 ≤ f ∧ f < 8 * P) (hs : hsS σ f = 1) : Ev d 135 [(73, 0), (0, f)] (Wd xs t dd rr σ) (0, blS σ P J f) (Wd xs t dd rr σ) := by
  obtain ⟨d, rfl⟩ : ∃ e, d = e + 1 := ⟨d - 1, by omega⟩
  obtain ⟨⟨hP, hJ, h0, hJ0, hJB⟩, hHH, h32, h17, hcut⟩ := id hH
  have hco := (hHH.2.1 (f / 8) (by omega) (by omega)).1
  have hmt := mtS_iff hH hf.1 hf.2 hs
  have hble : blS σ P J f = _ := bl_e
  rw [hble]
  refine evP (nL := 3) (code := k_X0_blowOf) rfl pb0 rfl (fun E hE => ?_)
  show pCm (Ev d) k_X0_blowOf E 0 [(73, 0), (0, f), (9, 0)] [] _
  refine R_aload rfl rfl rfl ?_
  refine T_getr (v := 28) rfl rfl rfl rfl ?_
  refine T_getr (v := 30) rfl rfl rfl rfl ?_
  refine R_iload rfl rfl ?_
  refine T_ald rfl rfl (by omega) (by omega) ?_
  refine R_if rfl (fun h9 => ?_) (fun h9 => ?_)
  · try simp only [ne_eq, b2i_e, b2i_1, Classical.not_not] at h9
    refine R_push rfl ?_
    refine R_iret rfl ?_
    first
    | exact hE _ (by rw [if_neg (by omega)])
    | exact hE _ (by rw [if_pos (by omega), if_neg (by omega)])
    | exact hE _ (by rw [if_pos (by omega), if_pos (by omega)])
  · try simp only [ne_eq, b2i_e, b2i_1, Classical.not_not] at h9
    refine R_aload rfl rfl rfl ?_
    refine R_iload rfl rfl ?_
    refine R_invv rfl rfl rfl rfl rfl rfl (sp_X0_isOfGreatCobble d (by omega) xs t dd rr σ P J hH f hf) rfl ?_
    show pCm _ _ _ 17 _ [(0, _)] _
    refine R_if rfl (fun h17 => ?_) (fun h17 => ?_)
    · try simp only [ne_eq, b2i_e, b2i_1, Classical.not_not] at h17
      refine R_aload rfl rfl rfl ?_
      refine T_getr (v := 37) rfl rfl rfl rfl ?_
      refine R_aload rfl rfl rfl ?_
      refine T_getr (v := 28) rfl rfl rfl rfl ?_
      refine T_getr (v := 33) rfl rfl rfl rfl ?_
      refine R_iload rfl rfl ?_
      refine T_ald rfl rfl (by omega) (by omega) ?_
      refine R_iload rfl rfl ?_
      have hpt := sp_X4_partner d (by omega) xs t dd rr σ (σ 17 f) f J hJ hJ0.2
      have hpt : Ev d 196 [(37, 0), (0, σ 17 f), (0, f)] (Wd xs t dd rr σ) (0, mtS σ J f) (Wd xs t dd rr σ) := hpt
      refine R_invv rfl rfl rfl rfl rfl rfl (hpt) rfl ?_
      show pCm _ _ _ 39 _ [(0, _)] _
      refine R_istore rfl rfl ?_
      refine R_iload rfl rfl ?_
      refine R_push rfl ?_
      refine R_ic rfl (fun h42 => ?_) (fun h42 => ?_)
      · try simp only [ne_eq, b2i_e, b2i_1, Classical.not_not] at h42
        refine R_aload rfl rfl rfl ?_
        refine T_getr (v := 44) rfl rfl rfl rfl ?_
        refine T_getr (v := 46) rfl rfl rfl rfl ?_
        refine R_iload rfl rfl ?_
        refine R_push rfl ?_
        refine R_dv rfl (by omega) (by omega) (by omega) ?_
        refine T_ald rfl rfl (by omega) (by omega) ?_
        refine R_iret rfl ?_
        first
        | exact hE _ (by rw [if_neg (by omega)])
        | exact hE _ (by rw [if_pos (by omega), if_neg (by omega)])
        | exact hE _ (by rw [if_pos (by omega), if_pos (by omega)])
      · try simp only [ne_eq, b2i_e, b2i_1, Classical.not_not] at h42
        refine R_push rfl ?_
        refine R_iload rfl rfl ?_
        refine R_add rfl (by omega) (by omega) ?_
        refine R_goto rfl ?_
        refine R_iret rfl ?_
        first
        | exact hE _ (by rw [if_neg (by omega)])
        | exact hE _ (by rw [if_pos (by omega), if_neg (by omega)])
        | exact hE _ (by rw [if_pos (by omega), if_pos (by omega)])
    · try simp only [ne_eq, b2i_e, b2i_1, Classical.not_not] at h17
      refine R_push rfl ?_
      refine R_iret rfl ?_
      first
      | exact hE _ (by rw [if_neg (by omega)])
      | exact hE _ (by rw [if_pos (by omega), if_neg (by omega)])
      | exact hE _ (by rw [if_pos (by omega), if_pos (by omega)])
set_option maxRecDepth 20000 in
set_option maxHeartbeats 2000000 in
theorem sp_X0_isFaceOf (d : Nat) (hd : 2 ≤ d) (xs : List (Nat × Nat)) (t dd rr : Nat) (σ : Sg) (c : Int) (P J : Int) (hH : BH σ P J) (f : Int) (hf : 0 ≤ f ∧ f < 8 * P)  : Ev d 137 [(73, 0), (0, c), (0, f)] (Wd xs t dd rr σ) (0, b2i (hsS σ f = 1 ∧ σ 29 (f / 8) = c)) (Wd xs t dd rr σ) := by
  obtain ⟨d, rfl⟩ : ∃ e, d = e + 1 := ⟨d - 1, by omega⟩
  obtain ⟨⟨hP, hJ, h0, hJ0, hJB⟩, hHH, h32, h17, hcut⟩ := id hH
  have hsd : hsS σ f = 1 ↔ f % 8 < σ 13 (f / 8) := by
    unfold hsS b2i; split <;> omega
  refine evP (nL := 3) (code := k_X0_isFaceOf) rfl pb0 rfl (fun E hE => ?_)
  show pCm (Ev d) k_X0_isFaceOf E 0 [(73, 0), (0, c), (0, f)] [] _
  refine R_aload rfl rfl rfl ?_
  refine T_getr (v := 28) rfl rfl rfl rfl ?_
  refine R_iload rfl rfl ?_
  refine R_invv rfl rfl rfl rfl rfl rfl (sp_X1_has d (by omega) xs t dd rr σ f (by omega)) rfl ?_
  show pCm _ _ _ 8 _ [(0, _)] _
  refine R_if rfl (fun h8 => ?_) (fun h8 => ?_)
  · try simp only [ne_eq, b2i_e, b2i_1, Classical.not_not] at h8
    refine R_push rfl ?_
    refine R_zret rfl (by first | exact Or.inl rfl | exact Or.inr rfl | omega | grind) ?_
    exact hE _ (by congr 1; first | rw [b2i_t (by omega)] | rw [b2i_f (by omega)])
  · try simp only [ne_eq, b2i_e, b2i_1, Classical.not_not] at h8
    refine R_aload rfl rfl rfl ?_
    refine T_getr (v := 44) rfl rfl rfl rfl ?_
    refine T_getr (v := 45) rfl rfl rfl rfl ?_
    refine R_iload rfl rfl ?_
    refine R_push rfl ?_
    refine R_dv rfl (by omega) (by omega) (by omega) ?_
    refine T_ald rfl rfl (by omega) (by omega) ?_
    refine R_iload rfl rfl ?_
    refine R_ic rfl (fun h24 => ?_) (fun h24 => ?_)
    · try simp only [ne_eq, b2i_e, b2i_1, Classical.not_not] at h24
      refine R_push rfl ?_
      refine R_zret rfl (by first | exact Or.inl rfl | exact Or.inr rfl | omega | grind) ?_
      exact hE _ (by congr 1; first | rw [b2i_t (by omega)] | rw [b2i_f (by omega)])
    · try simp only [ne_eq, b2i_e, b2i_1, Classical.not_not] at h24
      refine R_push rfl ?_
      refine R_goto rfl ?_
      refine R_zret rfl (by first | exact Or.inl rfl | exact Or.inr rfl | omega | grind) ?_
      exact hE _ (by congr 1; first | rw [b2i_t (by omega)] | rw [b2i_f (by omega)])
set_option maxRecDepth 20000 in
set_option maxHeartbeats 2000000 in
theorem sp_X0_holesIn (d : Nat) (hd : 3 ≤ d) (xs : List (Nat × Nat)) (t dd rr : Nat) (σ : Sg) (c : Int) (P J : Int) (hH : BH σ P J)  : Ev d 136 [(73, 0), (0, c)] (Wd xs t dd rr σ) (0, sumZ (gg2 P c (hsS σ) (σ 14) (σ 29) (σ 30) (mtS σ J)) (8 * P)) (Wd xs t dd rr σ) := by
  obtain ⟨d, rfl⟩ : ∃ e, d = e + 1 := ⟨d - 1, by omega⟩
  obtain ⟨⟨hP, hJ, h0, hJ0, hJB⟩, hHH, h32, h17, hcut⟩ := id hH
  refine evP (nL := 4) (code := k_X0_holesIn) rfl pb0 rfl (fun E hE => ?_)
  show pCm (Ev d) k_X0_holesIn E 0 [(73, 0), (0, c), (9, 0), (9, 0)] [] _
  refine R_push rfl ?_
  refine R_istore rfl rfl ?_
  refine R_push rfl ?_
  refine R_istore rfl rfl ?_
  refine loop (pc := 4) (α := Int × Int) (fun a => ((8 * P) - a.2).toNat) (fun a => ([(73, 0), (0, c), (0, a.1), (0, a.2)], Wd xs t dd rr σ)) (fun a => 0 ≤ a.2 ∧ a.2 ≤ (8 * P) ∧ a.1 = sumZ (gg2 P c (hsS σ) (σ 14) (σ 29) (σ 30) (mtS σ J)) a.2) ?_ (0, 0) ?_
  · intro ⟨n, k⟩ ⟨hk0, hk1, hn⟩ ih
    dsimp only at hk0 hk1 hn ⊢
    have hs := sumZ_bd (f := gg2 P c (hsS σ) (σ 14) (σ 29) (σ 30) (mtS σ J)) (c := 1) hk0 (fun i hi0 hi1 => b2i_bd)
    have hg2 : gg2 P c (hsS σ) (σ 14) (σ 29) (σ 30) (mtS σ J) k = 1 ∧ (hsS σ k = 1 ∧ σ 29 (k / 8) = c ∧ blS σ P J k = 100 + k) ∨ gg2 P c (hsS σ) (σ 14) (σ 29) (σ 30) (mtS σ J) k = 0 ∧ ¬ (hsS σ k = 1 ∧ σ 29 (k / 8) = c ∧ blS σ P J k = 100 + k) := b2i_or
    refine R_iload rfl rfl ?_
    refine R_aload rfl rfl rfl ?_
    refine T_getr (v := 17) rfl rfl rfl rfl ?_
    refine T_geti rfl rfl rfl ?_
    refine R_push rfl ?_
    refine R_mul rfl (by omega) (by omega) ?_
    refine R_ic rfl (fun h15 => ?_) (fun h15 => ?_)
    · try simp only [ne_eq, b2i_e, b2i_1, Classical.not_not] at h15
      refine R_iload rfl rfl ?_
      refine R_iret rfl ?_
      exact hE _ (by congr 1; rw [hn]; congr 1; omega)
    · try simp only [ne_eq, b2i_e, b2i_1, Classical.not_not] at h15
      refine R_aload rfl rfl rfl ?_
      refine R_iload rfl rfl ?_
      refine R_iload rfl rfl ?_
      refine R_invv rfl rfl rfl rfl rfl rfl (sp_X0_isFaceOf d (by omega) xs t dd rr σ c P J hH k ⟨by omega, by omega⟩) rfl ?_
      show pCm _ _ _ 24 _ [(0, _)] _
      refine R_if rfl (fun h24 => ?_) (fun h24 => ?_)
      · try simp only [ne_eq, b2i_e, b2i_1, Classical.not_not] at h24
        refine R_inc rfl rfl (by omega) (by omega) ?_
        refine R_goto rfl ?_
        exact ih (_, _) ⟨by dsimp only; omega, by dsimp only; omega, by dsimp only; rw [sumZ_s hk0]; first | omega | (rw [b2i_t (by omega)]; omega) | (rw [b2i_f (by omega)]; omega) | (rw [if_pos (by omega)]; omega) | (rw [if_neg (by omega)]; omega)⟩ (by dsimp only; omega)
      · try simp only [ne_eq, b2i_e, b2i_1, Classical.not_not] at h24
        refine R_aload rfl rfl rfl ?_
        refine R_iload rfl rfl ?_
        refine R_invv rfl rfl rfl rfl rfl rfl (sp_X0_isHole d (by omega) xs t dd rr σ P J hH k ⟨by omega, by omega⟩ (by omega)) rfl ?_
        show pCm _ _ _ 32 _ [(0, _)] _
        refine R_if rfl (fun h32 => ?_) (fun h32 => ?_)
        · try simp only [ne_eq, b2i_e, b2i_1, Classical.not_not] at h32
          refine R_inc rfl rfl (by omega) (by omega) ?_
          refine R_goto rfl ?_
          exact ih (_, _) ⟨by dsimp only; omega, by dsimp only; omega, by dsimp only; rw [sumZ_s hk0]; first | omega | (rw [b2i_t (by omega)]; omega) | (rw [b2i_f (by omega)]; omega) | (rw [if_pos (by omega)]; omega) | (rw [if_neg (by omega)]; omega)⟩ (by dsimp only; omega)
        · try simp only [ne_eq, b2i_e, b2i_1, Classical.not_not] at h32
          refine R_inc rfl rfl (by omega) (by omega) ?_
          refine R_inc rfl rfl (by omega) (by omega) ?_
          refine R_goto rfl ?_
          exact ih (_, _) ⟨by dsimp only; omega, by dsimp only; omega, by dsimp only; rw [sumZ_s hk0]; first | omega | (rw [b2i_t (by omega)]; omega) | (rw [b2i_f (by omega)]; omega) | (rw [if_pos (by omega)]; omega) | (rw [if_neg (by omega)]; omega)⟩ (by dsimp only; omega)
  · exact ⟨Int.le_refl _, (by omega), sumZ_0.symm⟩
theorem gt2_1 {P c : Int} {hs so co who mt : Int → Int} (hP : 0 ≤ P) : ∀ n : Nat, (gt2 P c hs so co who mt n).1 = sumZ (gg1 c co who) P + sumZ (gg2 P c hs so co who mt) n := by
  have k1 : ∀ n : Nat, (gt1 c co who n).1 = sumZ (gg1 c co who) n := by
    intro n
    induction n with
    | zero => rfl
    | succ n ih =>
      have e : gt1 c co who ((n + 1 : Nat) : Int) = _ := gt1_s (n := n) (by omega)
      have e2 : sumZ (gg1 c co who) ((n + 1 : Nat) : Int) = _ := sumZ_s (n := n) (by omega)
      have hb : 0 ≤ gg1 c co who n ∧ gg1 c co who n ≤ 1 := b2i_bd
      rw [e, e2, ← ih]
      unfold gst
      split
      · show (gt1 c co who n).1 + 1 = _; omega
      · omega
  intro n
  induction n with
  | zero =>
    have := k1 P.toNat
    rw [Int.toNat_of_nonneg hP] at this
    show (gt1 c co who P).1 = _ + 0
    omega
  | succ n ih =>
    have e : gt2 P c hs so co who mt ((n + 1 : Nat) : Int) = _ := gt2_s (n := n) (by omega)
    have e2 : sumZ (gg2 P c hs so co who mt) ((n + 1 : Nat) : Int) = _ := sumZ_s (n := n) (by omega)
    have hb : 0 ≤ gg2 P c hs so co who mt n ∧ gg2 P c hs so co who mt n ≤ 1 := b2i_bd
    rw [e, e2]
    unfold gst
    split
    · show (gt2 P c hs so co who mt n).1 + 1 = _; omega
    · omega
set_option maxRecDepth 20000 in
set_option maxHeartbeats 2000000 in
theorem sp_X0_addBlow (d : Nat) (hd : 1 ≤ d) (xs : List (Nat × Nat)) (t dd rr : Nat) (σ : Sg) (y : Int) (ht : 0 ≤ σ 57 5 ∧ σ 57 5 < 1000) : ∃ σ', Ev d 141 [(73, 0), (0, y)] (Wd xs t dd rr σ) (8, 0) (Wd xs t dd rr σ') ∧ Fr [58] [(57, 5)] σ σ' ∧ σ' 57 5 = σ 57 5 + 1 ∧ ∀ i, σ' 58 i = if i = σ 57 5 ∧ σ 57 5 < 12 then y else σ 58 i := by
  obtain ⟨d, rfl⟩ : ∃ e, d = e + 1 := ⟨d - 1, by omega⟩
  refine evS (nL := 2) (code := k_X0_addBlow) rfl dc_X0_addBlow rfl (fun E hE => ?_)
  show pCm (Ev d) k_X0_addBlow E 0 [(73, 0), (0, y)] [] _
  refine R_aload rfl rfl rfl ?_
  refine T_geti rfl rfl rfl ?_
  refine R_push rfl ?_
  refine R_ic rfl (fun h6 => ?_) (fun h6 => ?_)
  · try simp only [ne_eq, b2i_e, b2i_1, Classical.not_not] at h6
    refine R_aload rfl rfl rfl ?_
    refine R_dup rfl rfl ?_
    refine T_geti rfl rfl rfl ?_
    refine R_push rfl ?_
    refine R_add rfl (by omega) (by omega) ?_
    refine T_puti rfl rfl rfl ?_
    refine R_vret rfl ?_
    first
    | exact hE _ _ rfl ⟨(Fr.rf (rows := [58]) (sl := [(57, 5)])).up rfl, by simp [up2], fun i => by rw [if_neg (by omega)]; simp [up2]⟩
    | exact hE _ _ rfl ⟨by rw [← hs]; exact ((Fr.rf (rows := [58]) (sl := [(57, 5)])).upr rfl).up rfl, by simp [up2, e5], fun i => by
        rw [← hs]
        by_cases q : i = σ 57 5
        · rw [if_pos ⟨q, by omega⟩, q]; simp [up2]
        · rw [if_neg (by omega)]; simp [up2, q]⟩
  · try simp only [ne_eq, b2i_e, b2i_1, Classical.not_not] at h6
    refine R_aload rfl rfl rfl ?_
    refine T_getr (v := 74) rfl rfl rfl rfl ?_
    refine R_aload rfl rfl rfl ?_
    refine T_geti rfl rfl rfl ?_
    refine R_iload rfl rfl ?_
    refine T_iast rfl rfl (by omega) (by omega) ?_
    generalize hs : up2 σ 58 (σ 57 5) y = s1
    have e5 : s1 57 5 = σ 57 5 := by rw [← hs]; simp [up2]
    refine R_aload rfl rfl rfl ?_
    refine R_dup rfl rfl ?_
    refine T_geti rfl rfl rfl ?_
    refine R_push rfl ?_
    refine R_add rfl (by omega) (by omega) ?_
    refine T_puti rfl rfl rfl ?_
    refine R_vret rfl ?_
    first
    | exact hE _ _ rfl ⟨(Fr.rf (rows := [58]) (sl := [(57, 5)])).up rfl, by simp [up2], fun i => by rw [if_neg (by omega)]; simp [up2]⟩
    | exact hE _ _ rfl ⟨by rw [← hs]; exact ((Fr.rf (rows := [58]) (sl := [(57, 5)])).upr rfl).up rfl, by simp [up2, e5], fun i => by
        rw [← hs]
        by_cases q : i = σ 57 5
        · rw [if_pos ⟨q, by omega⟩, q]; simp [up2]
        · rw [if_neg (by omega)]; simp [up2, q]⟩

/-- what the reference judges by -/
def JM (σ : Sg) (P h N : Int) (kd nu len : Int → Int) (K W : Int → Int → Int) : Prop := σ 71 26 = P ∧ (0 ≤ P ∧ P ≤ 40) ∧ PBm σ P ∧ (∀ f, 0 ≤ f → f < 8 * P → 0 ≤ σ 101 f ∧ σ 101 f ≤ 7) ∧ (∀ i, 0 ≤ i → i < 64 * P → 0 ≤ σ 100 i ∧ σ 100 i ≤ 255) ∧ (∀ p, 0 ≤ p → p < P → -1 ≤ σ 88 p) ∧ (0 ≤ σ 71 25 ∧ σ 71 25 ≤ 400) ∧ WT N kd nu len K W ∧ MT σ h N kd nu len K W ∧ ∀ l, 0 ≤ l → l < N → 0 ≤ nu l ∧ nu l ≤ 99
def Fk (σ s : Sg) : Prop := Fr [85, 86, 87] [(71, 0), (71, 41), (71, 42)] σ s
theorem JM_fr {σ s : Sg} {P h N : Int} {kd nu len : Int → Int} {K W : Int → Int → Int} (hJ : JM σ P h N kd nu len K W) (hF : Fk σ s) : JM s P h N kd nu len K W := by
  obtain ⟨h0, h1, h2, h3, h4, h5, h6, h7, h8, h9⟩ := hJ
  refine ⟨by rw [hF.at 71 26 rfl]; exact h0, h1, ?_, ?_, ?_, ?_, ?_, h7, MT_fr h8 hF rfl rfl rfl rfl rfl rfl rfl, h9⟩
  · unfold PBm
    rw [hF.fn 89 rfl, hF.fn 90 rfl, hF.fn 91 rfl, hF.fn 92 rfl, hF.fn 93 rfl, hF.fn 94 rfl, hF.fn 95 rfl, hF.fn 96 rfl, hF.fn 97 rfl]
    exact h2
  · rw [hF.fn 101 rfl]; exact h3
  · rw [hF.fn 100 rfl]; exact h4
  · rw [hF.fn 88 rfl]; exact h5
  · rw [hF.at 71 25 rfl]; exact h6
theorem fitM_fr {σ s : Sg} {a b : Int} (h1 : s 100 = σ 100) (h2 : s 101 = σ 101) : fitM s a b = fitM σ a b := by unfold fitM; rw [h1, h2]
theorem mayM_fr {σ s : Sg} {N : Int} {kd nu len : Int → Int} {K W : Int → Int → Int} {a b : Int} (hF : Fk σ s) : mayM s N kd nu len K W a b = mayM σ N kd nu len K W a b := by
  have e := fitM_fr (a := a) (b := b) (hF.fn 100 rfl) (hF.fn 101 rfl)
  have e2 : ∀ p, stnM s N kd nu len K W p = stnM σ N kd nu len K W p := fun p => by
    unfold stnM; rw [hF.fn 88 rfl, hF.fn 93 rfl, hF.fn 94 rfl, hF.fn 95 rfl, hF.fn 96 rfl, hF.fn 89 rfl]
  have e3 : kmM s a b = kmM σ a b := by
    unfold kmM; rw [e, hF.fn 99 rfl, hF.fn 89 rfl, hF.fn 90 rfl, hF.fn 91 rfl, hF.fn 92 rfl, hF.fn 96 rfl, hF.fn 93 rfl, hF.fn 94 rfl, hF.fn 95 rfl]
  unfold mayM
  rw [e, e2, e2, e3, hF.fn 99 rfl, hF.at 71 25 rfl, hF.fn 96 rfl]
def dbM (σ : Sg) (N : Int) (kd nu len : Int → Int) (K W : Int → Int → Int) (a b : Int) : Int := sumZ (fun l => if hld (kmM σ a b) kd nu len K W 2 l = 1 then nu l else 0) N
theorem dbM_fr {σ s : Sg} {N : Int} {kd nu len : Int → Int} {K W : Int → Int → Int} {a b : Int} (hF : Fk σ s) : dbM s N kd nu len K W a b = dbM σ N kd nu len K W a b := by
  have e := fitM_fr (a := a) (b := b) (hF.fn 100 rfl) (hF.fn 101 rfl)
  have e3 : kmM s a b = kmM σ a b := by
    unfold kmM; rw [e, hF.fn 99 rfl, hF.fn 89 rfl, hF.fn 90 rfl, hF.fn 91 rfl, hF.fn 92 rfl, hF.fn 96 rfl, hF.fn 93 rfl, hF.fn 94 rfl, hF.fn 95 rfl]
  unfold dbM; rw [e3]
theorem mayM_or {σ : Sg} {N : Int} {kd nu len : Int → Int} {K W : Int → Int → Int} {a b : Int} : mayM σ N kd nu len K W a b = 0 ∨ mayM σ N kd nu len K W a b = 1 ∧ a / 8 ≠ b / 8 ∧ (σ 99 a = 0 ∧ σ 99 b = 1 ∨ σ 99 a = 1 ∧ σ 99 b = 0 ∨ σ 99 a = 3 ∧ σ 99 b = 3) := by
  unfold mayM
  rcases (b2i_or (p := a / 8 ≠ b / 8 ∧ (σ 99 a = 0 ∧ σ 99 b = 1 ∨ σ 99 a = 1 ∧ σ 99 b = 0 ∨ σ 99 a = 3 ∧ σ 99 b = 3) ∧ fitM σ a b / 8 ≤ σ 71 25 + 10 * (σ 96 (a / 8) + σ 96 (b / 8)) ∧ (stnM σ N kd nu len K W (a / 8) = stnM σ N kd nu len K W (b / 8) ∨ stnM σ N kd nu len K W (a / 8) = -1 ∨ stnM σ N kd nu len K W (b / 8) = -1) ∧ frst (hld (kmM σ a b) kd nu len K W 1) nu N = -1)) with w | w
  · exact Or.inr ⟨w.1, w.2.1, w.2.2.1⟩
  · exact Or.inl w.1
theorem sp_X10_mayMeetJ (d : Nat) (hd : 5 ≤ d) (xs : List (Nat × Nat)) (t dd rr : Nat) (σ : Sg) (a b P h N : Int) (kd nu len : Int → Int) (K W : Int → Int → Int) (hJ : JM σ P h N kd nu len K W) (ha : 0 ≤ a ∧ a < 8 * P) (hb : 0 ≤ b ∧ b < 8 * P) : ∃ σ', Ev d 75 [(87, 0), (0, a), (0, b)] (Wd xs t dd rr σ) (0, mayM σ N kd nu len K W a b) (Wd xs t dd rr σ') ∧ Fk σ σ' ∧ σ' 71 0 = σ 71 0 := by
  obtain ⟨h0, h1, h2, h3, h4, h5, h6, h7, h8, h9⟩ := hJ
  obtain ⟨s, hev, hF⟩ := sp_X10_mayMeet d hd xs t dd rr σ a b P h1.2 h2 ⟨ha.1, by omega⟩ ⟨hb.1, by omega⟩ (fun k k0 k1 => h4 _ (by omega) (by omega)) (fun k k0 k1 => h4 _ (by omega) (by omega)) (h3 a ha.1 ha.2) (h3 b hb.1 hb.2) h5 h6 h N kd nu len K W h7 h8 h9
  exact ⟨s, hev, hF.tr (r2 := []) (s2 := []) Fr.rf rfl rfl, hF.at 71 0 rfl⟩
theorem sp_X10_doubtsJ (d : Nat) (hd : 5 ≤ d) (xs : List (Nat × Nat)) (t dd rr : Nat) (σ : Sg) (a b P h N : Int) (kd nu len : Int → Int) (K W : Int → Int → Int) (hJ : JM σ P h N kd nu len K W) (ha : 0 ≤ a ∧ a < 8 * P) (hb : 0 ≤ b ∧ b < 8 * P) (hsm : σ 99 a = 0 ∧ σ 99 b = 1 ∨ σ 99 a = 1 ∧ σ 99 b = 0 ∨ σ 99 a = 3 ∧ σ 99 b = 3) : ∃ σ', Ev d 76 [(87, 0), (0, a), (0, b)] (Wd xs t dd rr σ) (0, dbM σ N kd nu len K W a b) (Wd xs t dd rr σ') ∧ Fk σ σ' ∧ σ' 71 0 = σ 71 0 := by
  obtain ⟨h0, h1, h2, h3, h4, h5, h6, h7, h8, h9⟩ := hJ
  obtain ⟨s, hev, hF⟩ := sp_X10_doubts d hd xs t dd rr σ a b P h1.2 h2 ⟨ha.1, by omega⟩ ⟨hb.1, by omega⟩ (fun k k0 k1 => h4 _ (by omega) (by omega)) (fun k k0 k1 => h4 _ (by omega) (by omega)) (h3 a ha.1 ha.2) (h3 b hb.1 hb.2) hsm h N kd nu len K W h7 h8 h9
  exact ⟨s, hev, hF.tr (r2 := []) (s2 := []) Fr.rf rfl rfl, hF.at 71 0 rfl⟩
theorem sp_X10_measuresJ (d : Nat) (hd : 2 ≤ d) (xs : List (Nat × Nat)) (t dd rr : Nat) (σ : Sg) (a b P h N : Int) (kd nu len : Int → Int) (K W : Int → Int → Int) (hJ : JM σ P h N kd nu len K W) (ha : 0 ≤ a ∧ a < 8 * P) (hb : 0 ≤ b ∧ b < 8 * P) : ∃ σ', Ev d 72 [(87, 0), (0, a), (0, b)] (Wd xs t dd rr σ) (8, 0) (Wd xs t dd rr σ') ∧ Fk σ σ' ∧ σ' 71 41 = fitM σ a b / 8 ∧ σ' 71 42 = fitM σ a b % 8 ∧ σ' 71 0 = σ 71 0 := by
  obtain ⟨h0, h1, h2, h3, h4, h5, h6, h7, h8, h9⟩ := hJ
  obtain ⟨s, hev, hF, e1, e2⟩ := sp_X10_measures d hd xs t dd rr σ a b ⟨ha.1, by omega⟩ ⟨hb.1, by omega⟩ (fun k k0 k1 => h4 _ (by omega) (by omega)) (fun k k0 k1 => h4 _ (by omega) (by omega)) (h3 a ha.1 ha.2) (h3 b hb.1 hb.2)
  exact ⟨s, hev, hF.tr (r2 := []) (s2 := []) Fr.rf rfl rfl, e1, e2, hF.at 71 0 rfl⟩
set_option maxRecDepth 20000 in
set_option maxHeartbeats 2000000 in
theorem sp_X10_meet (d : Nat) (hd : 6 ≤ d) (xs : List (Nat × Nat)) (t dd rr : Nat) (σ : Sg) (a b w : Int) (hab : a < 2147483648 ∧ b < 2147483648) (P : Int) (h N : Int) (kd nu len : Int → Int) (K W : Int → Int → Int) (hJ : JM σ P h N kd nu len K W)  : ∃ σ', Ev d 78 [(87, 0), (0, a), (0, b), (0, w)] (Wd xs t dd rr σ) (0, if (0 ≤ a ∧ a / 8 < P ∧ a % 8 < σ 98 (a / 8)) ∧ (0 ≤ b ∧ b / 8 < P ∧ b % 8 < σ 98 (b / 8)) ∧ a / 8 ≠ b / 8 ∧ 0 ≤ w ∧ w ≤ 3 then meV (fitM σ a b) (mayM σ N kd nu len K W a b) (dbM σ N kd nu len K W a b) w else 0) (Wd xs t dd rr σ') ∧ Fk σ σ' ∧ σ' 71 0 = if (0 ≤ a ∧ a / 8 < P ∧ a % 8 < σ 98 (a / 8)) ∧ (0 ≤ b ∧ b / 8 < P ∧ b % 8 < σ 98 (b / 8)) ∧ a / 8 ≠ b / 8 ∧ 0 ≤ w ∧ w ≤ 3 then 0 else 1 := by
  obtain ⟨d, rfl⟩ : ∃ e, d = e + 1 := ⟨d - 1, by omega⟩
  obtain ⟨hP, h0, hJr⟩ := id hJ
  clear hJr
  have hm01 := mayM_or (σ := σ) (N := N) (kd := kd) (nu := nu) (len := len) (K := K) (W := W) (a := a) (b := b)
  refine evS (nL := 5) (code := k_X10_meet) rfl dc_X10_meet rfl (fun E hE => ?_)
  show pCm (Ev d) k_X10_meet E 0 [(87, 0), (0, a), (0, b), (0, w), (9, 0)] [] _
  refine R_aload rfl rfl rfl ?_
  have J42 : ∀ v : Int, v = (if (0 ≤ a ∧ a / 8 < P ∧ a % 8 < σ 98 (a / 8)) ∧ (0 ≤ b ∧ b / 8 < P ∧ b % 8 < σ 98 (b / 8)) ∧ a / 8 ≠ b / 8 ∧ 0 ≤ w ∧ w ≤ 3 then 0 else 1) → pCm (Ev d) k_X10_meet E 42 [(87, 0), (0, a), (0, b), (0, w), (9, 0)] [(0, v), (87, 0)] (Wd xs t dd rr σ) := by
    intro v hv
    have hv : v = 0 ∧ ((0 ≤ a ∧ a / 8 < P ∧ a % 8 < σ 98 (a / 8)) ∧ (0 ≤ b ∧ b / 8 < P ∧ b % 8 < σ 98 (b / 8)) ∧ a / 8 ≠ b / 8 ∧ 0 ≤ w ∧ w ≤ 3) ∨ v = 1 ∧ ¬ ((0 ≤ a ∧ a / 8 < P ∧ a % 8 < σ 98 (a / 8)) ∧ (0 ≤ b ∧ b / 8 < P ∧ b % 8 < σ 98 (b / 8)) ∧ a / 8 ≠ b / 8 ∧ 0 ≤ w ∧ w ≤ 3) := by
      rw [hv]; split <;> omega
    refine T_puti rfl rfl rfl ?_
    generalize hs1 : up2 σ 71 0 v = s1
    have hF1 : Fk σ s1 := by rw [← hs1]; exact Fr.rf.up rfl
    have h71 : s1 71 0 = v := by rw [← hs1]; simp [up2]
    refine R_aload rfl rfl rfl ?_
    refine T_geti rfl rfl rfl ?_
    rw [h71]
    refine R_if rfl (fun h49 => ?_) (fun h49 => ?_)
    · try simp only [ne_eq, b2i_e, b2i_1, Classical.not_not] at h49
      refine R_iload rfl rfl ?_
      refine R_push rfl ?_
      refine R_ic rfl (fun h56 => ?_) (fun h56 => ?_)
      · try simp only [ne_eq, b2i_e, b2i_1, Classical.not_not] at h56
        refine R_aload rfl rfl rfl ?_
        refine R_iload rfl rfl ?_
        refine R_iload rfl rfl ?_
        obtain ⟨s2, hevs2, hFs2, e7s2⟩ := sp_X10_mayMeetJ d (by omega) xs t dd rr s1 (a) (b) P h N kd nu len K W (JM_fr hJ hF1) ⟨by omega, by omega⟩ ⟨by omega, by omega⟩
        rw [mayM_fr hF1] at hevs2
        have hFs2 : Fk σ s2 := hF1.tr hFs2 rfl rfl
        refine R_invv rfl rfl rfl rfl rfl rfl (hevs2) rfl ?_
        show pCm _ _ _ 87 _ [(0, _)] _
        refine R_istore rfl rfl ?_
        refine R_iload rfl rfl ?_
        refine R_push rfl ?_
        refine R_ic rfl (fun h91 => ?_) (fun h91 => ?_)
        · try simp only [ne_eq, b2i_e, b2i_1, Classical.not_not] at h91
          refine R_iload rfl rfl ?_
          refine R_if rfl (fun h109 => ?_) (fun h109 => ?_)
          · try simp only [ne_eq, b2i_e, b2i_1, Classical.not_not] at h109
            refine R_push rfl ?_
            refine R_iret rfl ?_
            first
            | (refine hE _ _ (Eq.symm (congrArg (Prod.mk 0) ((if_pos (by omega)).trans ?_))) ⟨hFs3, by rw [e73, e7s2, h71, if_pos (by omega)]; omega⟩
               unfold meV
               rw [if_neg (by omega), if_neg (by omega), if_neg (by omega), if_pos (by omega)])
            | (refine hE _ _ (Eq.symm (congrArg (Prod.mk 0) ((if_pos (by omega)).trans ?_))) ⟨hFs2, by rw [e7s2, h71, if_pos (by omega)]; omega⟩
               unfold meV
               rw [if_neg (by omega), if_neg (by omega)]
               first | (rw [if_pos (by omega)]; omega) | rw [if_neg (by omega), if_neg (by omega)])
          · try simp only [ne_eq, b2i_e, b2i_1, Classical.not_not] at h109
            refine R_aload rfl rfl rfl ?_
            refine R_iload rfl rfl ?_
            refine R_iload rfl rfl ?_
            obtain ⟨s3, hev3, hF3, e73⟩ := sp_X10_doubtsJ d (by omega) xs t dd rr s2 a b P h N kd nu len K W (JM_fr hJ hFs2) ⟨by omega, by omega⟩ ⟨by omega, by omega⟩ (by rw [hFs2.row 99 rfl, hFs2.row 99 rfl]; omega)
            rw [dbM_fr hFs2] at hev3
            have hFs3 : Fk σ s3 := hFs2.tr hF3 rfl rfl
            refine R_invv rfl rfl rfl rfl rfl rfl (hev3) rfl ?_
            show pCm _ _ _ 118 _ [(0, _)] _
            refine R_goto rfl ?_
            refine R_iret rfl ?_
            first
            | (refine hE _ _ (Eq.symm (congrArg (Prod.mk 0) ((if_pos (by omega)).trans ?_))) ⟨hFs3, by rw [e73, e7s2, h71, if_pos (by omega)]; omega⟩
               unfold meV
               rw [if_neg (by omega), if_neg (by omega), if_neg (by omega), if_pos (by omega)])
            | (refine hE _ _ (Eq.symm (congrArg (Prod.mk 0) ((if_pos (by omega)).trans ?_))) ⟨hFs2, by rw [e7s2, h71, if_pos (by omega)]; omega⟩
               unfold meV
               rw [if_neg (by omega), if_neg (by omega)]
               first | (rw [if_pos (by omega)]; omega) | rw [if_neg (by omega), if_neg (by omega)])
        · try simp only [ne_eq, b2i_e, b2i_1, Classical.not_not] at h91
          refine R_iload rfl rfl ?_
          refine R_if rfl (fun h96 => ?_) (fun h96 => ?_)
          · try simp only [ne_eq, b2i_e, b2i_1, Classical.not_not] at h96
            refine R_push rfl ?_
            refine R_goto rfl ?_
            refine R_iret rfl ?_
            first
            | (refine hE _ _ (Eq.symm (congrArg (Prod.mk 0) ((if_pos (by omega)).trans ?_))) ⟨hFs3, by rw [e73, e7s2, h71, if_pos (by omega)]; omega⟩
               unfold meV
               rw [if_neg (by omega), if_neg (by omega), if_neg (by omega), if_pos (by omega)])
            | (refine hE _ _ (Eq.symm (congrArg (Prod.mk 0) ((if_pos (by omega)).trans ?_))) ⟨hFs2, by rw [e7s2, h71, if_pos (by omega)]; omega⟩
               unfold meV
               rw [if_neg (by omega), if_neg (by omega)]
               first | (rw [if_pos (by omega)]; omega) | rw [if_neg (by omega), if_neg (by omega)])
          · try simp only [ne_eq, b2i_e, b2i_1, Classical.not_not] at h96
            refine R_push rfl ?_
            refine R_goto rfl ?_
            refine R_iret rfl ?_
            first
            | (refine hE _ _ (Eq.symm (congrArg (Prod.mk 0) ((if_pos (by omega)).trans ?_))) ⟨hFs3, by rw [e73, e7s2, h71, if_pos (by omega)]; omega⟩
               unfold meV
               rw [if_neg (by omega), if_neg (by omega), if_neg (by omega), if_pos (by omega)])
            | (refine hE _ _ (Eq.symm (congrArg (Prod.mk 0) ((if_pos (by omega)).trans ?_))) ⟨hFs2, by rw [e7s2, h71, if_pos (by omega)]; omega⟩
               unfold meV
               rw [if_neg (by omega), if_neg (by omega)]
               first | (rw [if_pos (by omega)]; omega) | rw [if_neg (by omega), if_neg (by omega)])
      · try simp only [ne_eq, b2i_e, b2i_1, Classical.not_not] at h56
        refine R_aload rfl rfl rfl ?_
        refine R_iload rfl rfl ?_
        refine R_iload rfl rfl ?_
        obtain ⟨s2, hev2, hF2, e41, e42, e70⟩ := sp_X10_measuresJ d (by omega) xs t dd rr s1 a b P h N kd nu len K W (JM_fr hJ hF1) ⟨by omega, by omega⟩ ⟨by omega, by omega⟩
        rw [fitM_fr (hF1.fn 100 rfl) (hF1.fn 101 rfl)] at e41 e42
        have hFs2 : Fk σ s2 := hF1.tr hF2 rfl rfl
        rw [h71] at e70
        refine R_invv rfl rfl rfl rfl rfl rfl (hev2) rfl ?_
        show pCm _ _ _ 65 _ [] _
        refine R_iload rfl rfl ?_
        refine R_if rfl (fun h66 => ?_) (fun h66 => ?_)
        · try simp only [ne_eq, b2i_e, b2i_1, Classical.not_not] at h66
          refine R_aload rfl rfl rfl ?_
          refine T_geti rfl rfl rfl ?_
          rw [e42]
          refine R_iret rfl ?_
          refine hE _ _ (Eq.symm (congrArg (Prod.mk 0) ((if_pos (by omega)).trans ?_))) ⟨hFs2, by rw [e70, if_pos (by omega)]; omega⟩
          unfold meV
          first | rw [if_pos (by omega)] | rw [if_neg (by omega), if_pos (by omega)]
        · try simp only [ne_eq, b2i_e, b2i_1, Classical.not_not] at h66
          refine R_aload rfl rfl rfl ?_
          refine T_geti rfl rfl rfl ?_
          rw [e41]
          refine R_goto rfl ?_
          refine R_iret rfl ?_
          refine hE _ _ (Eq.symm (congrArg (Prod.mk 0) ((if_pos (by omega)).trans ?_))) ⟨hFs2, by rw [e70, if_pos (by omega)]; omega⟩
          unfold meV
          first | rw [if_pos (by omega)] | rw [if_neg (by omega), if_pos (by omega)]
    · try simp only [ne_eq, b2i_e, b2i_1, Classical.not_not] at h49
      refine R_push rfl ?_
      refine R_iret rfl ?_
      exact hE _ _ (by rw [if_neg (by omega)]) ⟨hF1, by rw [h71, if_neg (by omega)]; omega⟩
  refine R_aload rfl rfl rfl ?_
  refine R_iload rfl rfl ?_
  refine R_invv rfl rfl rfl rfl rfl rfl (sp_X10_isFace d (by omega) xs t dd rr σ a P hP h0 hab.1) rfl ?_
  show pCm _ _ _ 6 _ [(0, _), (87, 0)] _
  refine R_if rfl (fun h6 => ?_) (fun h6 => ?_)
  · try simp only [ne_eq, b2i_e, b2i_1, Classical.not_not] at h6
    refine R_push rfl ?_
    exact J42 _ (by first | rw [if_pos (by omega)] | rw [if_neg (by omega)])
  · try simp only [ne_eq, b2i_e, b2i_1, Classical.not_not] at h6
    refine R_aload rfl rfl rfl ?_
    refine R_iload rfl rfl ?_
    refine R_invv rfl rfl rfl rfl rfl rfl (sp_X10_isFace d (by omega) xs t dd rr σ b P hP h0 hab.2) rfl ?_
    show pCm _ _ _ 14 _ [(0, _), (87, 0)] _
    refine R_if rfl (fun h14 => ?_) (fun h14 => ?_)
    · try simp only [ne_eq, b2i_e, b2i_1, Classical.not_not] at h14
      refine R_push rfl ?_
      exact J42 _ (by first | rw [if_pos (by omega)] | rw [if_neg (by omega)])
    · try simp only [ne_eq, b2i_e, b2i_1, Classical.not_not] at h14
      refine R_iload rfl rfl ?_
      refine R_push rfl ?_
      refine R_dv rfl (by omega) (by omega) (by omega) ?_
      refine R_iload rfl rfl ?_
      refine R_push rfl ?_
      refine R_dv rfl (by omega) (by omega) (by omega) ?_
      refine R_ic rfl (fun h25 => ?_) (fun h25 => ?_)
      · try simp only [ne_eq, b2i_e, b2i_1, Classical.not_not] at h25
        refine R_push rfl ?_
        exact J42 _ (by first | rw [if_pos (by omega)] | rw [if_neg (by omega)])
      · try simp only [ne_eq, b2i_e, b2i_1, Classical.not_not] at h25
        refine R_iload rfl rfl ?_
        refine R_push rfl ?_
        refine R_push rfl ?_
        refine R_inv rfl rfl rfl rfl rfl (sp_X10_within d (by omega) _ _ _ _) rfl ?_
        show pCm _ _ _ 34 _ [(0, _), (87, 0)] _
        refine R_if rfl (fun h34 => ?_) (fun h34 => ?_)
        · try simp only [ne_eq, b2i_e, b2i_1, Classical.not_not] at h34
          refine R_push rfl ?_
          exact J42 _ (by first | rw [if_pos (by omega)] | rw [if_neg (by omega)])
        · try simp only [ne_eq, b2i_e, b2i_1, Classical.not_not] at h34
          refine R_push rfl ?_
          refine R_goto rfl ?_
          exact J42 _ (by first | rw [if_pos (by omega)] | rw [if_neg (by omega)])
set_option maxRecDepth 20000 in
set_option maxHeartbeats 2000000 in
theorem sp_X10_candidate (d : Nat) (hd : 6 ≤ d) (xs : List (Nat × Nat)) (t dd rr : Nat) (σ : Sg) (f i : Int) (hfi : f < 2147483648 ∧ i < 2147483648) (P : Int) (h N : Int) (kd nu len : Int → Int) (K W : Int → Int → Int) (hJ : JM σ P h N kd nu len K W)  : ∃ σ', Ev d 79 [(87, 0), (0, f), (0, i)] (Wd xs t dd rr σ) (0, if (0 ≤ f ∧ f / 8 < P ∧ f % 8 < σ 98 (f / 8)) ∧ 0 ≤ i then (cnF (fun k => b2i (hsM σ k = 1 ∧ mayM σ N kd nu len K W f k = 1)) i (8 * P)).2 else -1) (Wd xs t dd rr σ') ∧ Fk σ σ' ∧ σ' 71 0 = 0 := by
  obtain ⟨d, rfl⟩ : ∃ e, d = e + 1 := ⟨d - 1, by omega⟩
  obtain ⟨hP, h0, hJr⟩ := id hJ
  clear hJr
  refine evS (nL := 5) (code := k_X10_candidate) rfl dc_X10_candidate rfl (fun E hE => ?_)
  show pCm (Ev d) k_X10_candidate E 0 [(87, 0), (0, f), (0, i), (9, 0), (9, 0)] [] _
  refine R_aload rfl rfl rfl ?_
  refine R_push rfl ?_
  refine T_puti rfl rfl rfl ?_
  generalize hs1 : up2 σ 71 0 0 = s1
  have hF1 : Fk σ s1 := by rw [← hs1]; exact Fr.rf.up rfl
  have h71 : s1 71 0 = 0 := by rw [← hs1]; simp [up2]
  refine R_aload rfl rfl rfl ?_
  refine R_iload rfl rfl ?_
  have hfo := sp_X10_isFace d (by omega) xs t dd rr s1 f P (by rw [hF1.at 71 26 rfl]; exact hP) h0 (by omega)
  rw [hF1.row 98 rfl] at hfo
  refine R_invv rfl rfl rfl rfl rfl rfl (hfo) rfl ?_
  show pCm _ _ _ 10 _ [(0, _)] _
  refine R_if rfl (fun h10 => ?_) (fun h10 => ?_)
  · try simp only [ne_eq, b2i_e, b2i_1, Classical.not_not] at h10
    refine R_push rfl ?_
    refine R_iret rfl ?_
    exact hE _ _ (by rw [if_neg (by omega)]) ⟨hF1, h71⟩
  · try simp only [ne_eq, b2i_e, b2i_1, Classical.not_not] at h10
    refine R_iload rfl rfl ?_
    refine R_if rfl (fun h14 => ?_) (fun h14 => ?_)
    · try simp only [ne_eq, b2i_e, b2i_1, Classical.not_not] at h14
      refine R_iload rfl rfl ?_
      refine R_istore rfl rfl ?_
      refine R_push rfl ?_
      refine R_istore rfl rfl ?_
      refine loop (pc := 24) (α := Int × Int × Sg) (fun x => (8 * P - x.2.1).toNat) (fun x => ([(87, 0), (0, f), (0, i), (0, x.1), (0, x.2.1)], Wd xs t dd rr x.2.2)) (fun x => (0 ≤ x.2.1 ∧ x.2.1 ≤ 8 * P) ∧ (Fk σ x.2.2 ∧ x.2.2 71 0 = 0) ∧ (0 ≤ x.1 ∧ x.1 ≤ i) ∧ cnF (fun k => b2i (hsM σ k = 1 ∧ mayM σ N kd nu len K W f k = 1)) i x.2.1 = (x.1, -1)) ?_ (i, 0, s1) ?_
      · intro ⟨n, k, s2⟩ ⟨⟨hk0, hk1⟩, ⟨hF, e70⟩, hn, hc⟩ ih
        dsimp only at hk0 hk1 hF e70 hn hc ⊢
        have e26 := hF.at 71 26 rfl
        have hcs : cnF (fun k => b2i (hsM σ k = 1 ∧ mayM σ N kd nu len K W f k = 1)) i (k + 1) = if b2i (hsM σ k = 1 ∧ mayM σ N kd nu len K W f k = 1) = 1 then (if n = 0 then (0, k) else (n - 1, -1)) else (n, -1) := by
          rw [cnF_s hk0, hc]
          unfold cst
          by_cases w : b2i (hsM σ k = 1 ∧ mayM σ N kd nu len K W f k = 1) = 1
          · rw [if_pos ⟨rfl, w⟩, if_pos w]
          · rw [if_neg (fun z => w z.2), if_neg w]
        have hs01 : hsM σ k = 0 ∨ hsM σ k = 1 := by have := (b2i_bd (p := k % 8 < σ 98 (k / 8))); unfold hsM; omega
        refine R_iload rfl rfl ?_
        refine R_push rfl ?_
        refine R_aload rfl rfl rfl ?_
        refine T_geti rfl rfl rfl ?_
        refine R_mul rfl (by omega) (by omega) ?_
        refine R_ic rfl (fun h33 => ?_) (fun h33 => ?_)
        · try simp only [ne_eq, b2i_e, b2i_1, Classical.not_not] at h33
          refine R_push rfl ?_
          refine R_iret rfl ?_
          exact hE _ _ (by
            rw [show k = 8 * P by omega] at hc
            rw [if_pos (by omega), hc]) ⟨hF, e70⟩
        · try simp only [ne_eq, b2i_e, b2i_1, Classical.not_not] at h33
          refine R_aload rfl rfl rfl ?_
          refine R_iload rfl rfl ?_
          have hfo := sp_X10_isFace d (by omega) xs t dd rr s2 k P (by rw [e26]; exact hP) h0 (by omega)
          rw [show b2i (0 ≤ k ∧ k / 8 < P ∧ k % 8 < s2 98 (k / 8)) = hsM σ k by rw [hF.row 98 rfl]; exact b2i_iff ⟨fun w => w.2.2, fun w => ⟨by omega, by omega, w⟩⟩] at hfo
          refine R_invv rfl rfl rfl rfl rfl rfl (hfo) rfl ?_
          show pCm _ _ _ 42 _ [(0, _)] _
          refine R_if rfl (fun h42 => ?_) (fun h42 => ?_)
          · try simp only [ne_eq, b2i_e, b2i_1, Classical.not_not] at h42
            refine R_inc rfl rfl (by omega) (by omega) ?_
            refine R_goto rfl ?_
            first
            | (rw [b2i_f (by omega), if_neg (by omega)] at hcs
               exact ih (n, k + 1, s2) ⟨by dsimp only; omega, ⟨hF, e70⟩, by dsimp only; omega, hcs⟩ (by dsimp only; omega))
            | (rw [b2i_f (by omega), if_neg (by omega)] at hcs
               exact ih (n, k + 1, s3) ⟨by dsimp only; omega, ⟨hFs3, by dsimp only; omega⟩, by dsimp only; omega, hcs⟩ (by dsimp only; omega))
            | (rw [b2i_t (by omega), if_pos rfl, if_neg (by omega)] at hcs
               exact ih (n - 1, k + 1, s3) ⟨by dsimp only; omega, ⟨hFs3, by dsimp only; omega⟩, by dsimp only; omega, hcs⟩ (by dsimp only; omega))
          · try simp only [ne_eq, b2i_e, b2i_1, Classical.not_not] at h42
            have hm01 := mayM_or (σ := σ) (N := N) (kd := kd) (nu := nu) (len := len) (K := K) (W := W) (a := f) (b := k)
            refine R_aload rfl rfl rfl ?_
            refine R_iload rfl rfl ?_
            refine R_iload rfl rfl ?_
            obtain ⟨s3, hevs3, hFs3, e7s3⟩ := sp_X10_mayMeetJ d (by omega) xs t dd rr s2 (f) (k) P h N kd nu len K W (JM_fr hJ hF) ⟨by omega, by omega⟩ ⟨by omega, by omega⟩
            rw [mayM_fr hF] at hevs3
            have hFs3 : Fk σ s3 := hF.tr hFs3 rfl rfl
            refine R_invv rfl rfl rfl rfl rfl rfl (hevs3) rfl ?_
            show pCm _ _ _ 52 _ [(0, _)] _
            refine R_if rfl (fun h52 => ?_) (fun h52 => ?_)
            · try simp only [ne_eq, b2i_e, b2i_1, Classical.not_not] at h52
              refine R_inc rfl rfl (by omega) (by omega) ?_
              refine R_goto rfl ?_
              first
              | (rw [b2i_f (by omega), if_neg (by omega)] at hcs
                 exact ih (n, k + 1, s2) ⟨by dsimp only; omega, ⟨hF, e70⟩, by dsimp only; omega, hcs⟩ (by dsimp only; omega))
              | (rw [b2i_f (by omega), if_neg (by omega)] at hcs
                 exact ih (n, k + 1, s3) ⟨by dsimp only; omega, ⟨hFs3, by dsimp only; omega⟩, by dsimp only; omega, hcs⟩ (by dsimp only; omega))
              | (rw [b2i_t (by omega), if_pos rfl, if_neg (by omega)] at hcs
                 exact ih (n - 1, k + 1, s3) ⟨by dsimp only; omega, ⟨hFs3, by dsimp only; omega⟩, by dsimp only; omega, hcs⟩ (by dsimp only; omega))
            · try simp only [ne_eq, b2i_e, b2i_1, Classical.not_not] at h52
              refine R_iload rfl rfl ?_
              refine R_if rfl (fun h56 => ?_) (fun h56 => ?_)
              · try simp only [ne_eq, b2i_e, b2i_1, Classical.not_not] at h56
                refine R_inc rfl rfl (by omega) (by omega) ?_
                refine R_inc rfl rfl (by omega) (by omega) ?_
                refine R_goto rfl ?_
                first
                | (rw [b2i_f (by omega), if_neg (by omega)] at hcs
                   exact ih (n, k + 1, s2) ⟨by dsimp only; omega, ⟨hF, e70⟩, by dsimp only; omega, hcs⟩ (by dsimp only; omega))
                | (rw [b2i_f (by omega), if_neg (by omega)] at hcs
                   exact ih (n, k + 1, s3) ⟨by dsimp only; omega, ⟨hFs3, by dsimp only; omega⟩, by dsimp only; omega, hcs⟩ (by dsimp only; omega))
                | (rw [b2i_t (by omega), if_pos rfl, if_neg (by omega)] at hcs
                   exact ih (n - 1, k + 1, s3) ⟨by dsimp only; omega, ⟨hFs3, by dsimp only; omega⟩, by dsimp only; omega, hcs⟩ (by dsimp only; omega))
              · try simp only [ne_eq, b2i_e, b2i_1, Classical.not_not] at h56
                refine R_iload rfl rfl ?_
                refine R_iret rfl ?_
                refine hE _ _ ?_ ⟨hFs3, by omega⟩
                rw [b2i_t (by omega), if_pos rfl, if_pos (by omega)] at hcs
                have hst := cnF_st (g := (fun k => b2i (hsM σ k = 1 ∧ mayM σ N kd nu len K W f k = 1))) (i := i) (n := k + 1) (by omega) (by rw [hcs]; dsimp only; omega) (8 * P - (k + 1)).toNat
                rw [show k + 1 + ((8 * P - (k + 1)).toNat : Int) = 8 * P by omega, hcs] at hst
                rw [if_pos (by omega), hst]
      · exact ⟨by dsimp only; omega, ⟨hF1, h71⟩, by dsimp only; omega, rfl⟩
    · try simp only [ne_eq, b2i_e, b2i_1, Classical.not_not] at h14
      refine R_push rfl ?_
      refine R_iret rfl ?_
      exact hE _ _ (by rw [if_neg (by omega)]) ⟨hF1, h71⟩
set_option maxRecDepth 20000 in
set_option maxHeartbeats 2000000 in
theorem sp_X10_rivals (d : Nat) (hd : 6 ≤ d) (xs : List (Nat × Nat)) (t dd rr : Nat) (σ : Sg) (j : Int) (P : Int) (h N : Int) (kd nu len : Int → Int) (K W : Int → Int → Int) (hJ : JM σ P h N kd nu len K W) (hj : 0 ≤ j ∧ j < 80) (ha : 0 ≤ σ 102 j ∧ σ 102 j < 8 * P) (hb : 0 ≤ σ 103 j ∧ σ 103 j < 8 * P) : ∃ σ', Ev d 89 [(87, 0), (0, j)] (Wd xs t dd rr σ) (0, if σ 106 j = -1 then sumZ (fun k => b2i ((k ≠ σ 102 j ∧ k ≠ σ 103 j) ∧ hsM σ k = 1 ∧ (mayM σ N kd nu len K W k (σ 102 j) = 1 ∨ mayM σ N kd nu len K W k (σ 103 j) = 1))) (8 * P) else 0) (Wd xs t dd rr σ') ∧ Fk σ σ' ∧ σ' 71 0 = σ 71 0 := by
  obtain ⟨d, rfl⟩ : ∃ e, d = e + 1 := ⟨d - 1, by omega⟩
  obtain ⟨hP, h0, hJr⟩ := id hJ
  clear hJr
  refine evS (nL := 5) (code := k_X10_rivals) rfl dc_X10_rivals rfl (fun E hE => ?_)
  show pCm (Ev d) k_X10_rivals E 0 [(87, 0), (0, j), (9, 0), (9, 0), (9, 0)] [] _
  refine R_push rfl ?_
  refine R_istore rfl rfl ?_
  refine R_push rfl ?_
  refine R_istore rfl rfl ?_
  refine fgt wc_X10_rivals [1, 1, 1, 1, 0] ?_
  refine loop (pc := 4) (α := Int × Int × Sg) (fun x => (8 * P - x.2.1).toNat) (fun x => ([(87, 0), (0, j), (0, x.1), (0, x.2.1), (9, 0)], Wd xs t dd rr x.2.2)) (fun x => (0 ≤ x.2.1 ∧ x.2.1 ≤ 8 * P) ∧ (Fk σ x.2.2 ∧ x.2.2 71 0 = σ 71 0) ∧ (x.2.1 = 0 ∨ σ 106 j = -1) ∧ x.1 = sumZ (fun k => b2i ((k ≠ σ 102 j ∧ k ≠ σ 103 j) ∧ hsM σ k = 1 ∧ (mayM σ N kd nu len K W k (σ 102 j) = 1 ∨ mayM σ N kd nu len K W k (σ 103 j) = 1))) x.2.1) ?_ (0, 0, σ) ?_
  · intro ⟨n, k, s1⟩ ⟨⟨hk0, hk1⟩, ⟨hF, e70⟩, hon, hn⟩ ih
    dsimp only at hk0 hk1 hF e70 hon hn ⊢
    have e26 := hF.at 71 26 rfl
    have e106 := hF.row 106 rfl j
    have e102 := hF.row 102 rfl j
    have e103 := hF.row 103 rfl j
    have hss := sumZ_s (f := (fun k => b2i ((k ≠ σ 102 j ∧ k ≠ σ 103 j) ∧ hsM σ k = 1 ∧ (mayM σ N kd nu len K W k (σ 102 j) = 1 ∨ mayM σ N kd nu len K W k (σ 103 j) = 1)))) hk0
    have hsb := sumZ_bd (f := (fun k => b2i ((k ≠ σ 102 j ∧ k ≠ σ 103 j) ∧ hsM σ k = 1 ∧ (mayM σ N kd nu len K W k (σ 102 j) = 1 ∨ mayM σ N kd nu len K W k (σ 103 j) = 1)))) (c := 1) hk0 (fun _ _ _ => b2i_bd)
    rw [← hn] at hss hsb
    have hs01 : hsM σ k = 0 ∨ hsM σ k = 1 := by have := (b2i_bd (p := k % 8 < σ 98 (k / 8))); unfold hsM; omega
    have hm01 := mayM_or (σ := σ) (N := N) (kd := kd) (nu := nu) (len := len) (K := K) (W := W) (a := k) (b := σ 102 j)
    have hm02 := mayM_or (σ := σ) (N := N) (kd := kd) (nu := nu) (len := len) (K := K) (W := W) (a := k) (b := σ 103 j)
    refine R_iload rfl rfl ?_
    refine R_push rfl ?_
    refine R_aload rfl rfl rfl ?_
    refine T_geti rfl rfl rfl ?_
    refine R_mul rfl (by omega) (by omega) ?_
    refine R_ic rfl (fun h12 => ?_) (fun h12 => ?_)
    · try simp only [ne_eq, b2i_e, b2i_1, Classical.not_not] at h12
      refine R_iload rfl rfl ?_
      refine R_iret rfl ?_
      first
      | exact hE _ _ (by
          rw [if_neg (by omega), hn, show k = 0 by omega]
          try rfl) ⟨hF, e70⟩
      | exact hE _ _ (by
          rw [hn, show k = 8 * P by omega]
          by_cases z : σ 106 j = -1
          · rw [if_pos z]
          · rw [if_neg z, show 8 * P = 0 by omega]
            try rfl) ⟨hF, e70⟩
    · try simp only [ne_eq, b2i_e, b2i_1, Classical.not_not] at h12
      refine R_aload rfl rfl rfl ?_
      refine R_iload rfl rfl ?_
      have hon2 := sp_X10_isOn d (by omega) xs t dd rr s1 j hj
      rw [e106] at hon2
      refine R_invv rfl rfl rfl rfl rfl rfl (hon2) rfl ?_
      show pCm _ _ _ 20 _ [(0, _)] _
      refine R_if rfl (fun h20 => ?_) (fun h20 => ?_)
      · try simp only [ne_eq, b2i_e, b2i_1, Classical.not_not] at h20
        refine R_iload rfl rfl ?_
        refine R_iret rfl ?_
        first
        | exact hE _ _ (by
            rw [if_neg (by omega), hn, show k = 0 by omega]
            try rfl) ⟨hF, e70⟩
        | exact hE _ _ (by
            rw [hn, show k = 8 * P by omega]
            by_cases z : σ 106 j = -1
            · rw [if_pos z]
            · rw [if_neg z, show 8 * P = 0 by omega]
              try rfl) ⟨hF, e70⟩
      · try simp only [ne_eq, b2i_e, b2i_1, Classical.not_not] at h20
        have J56 : ∀ v : Int, v = b2i ((k ≠ σ 102 j ∧ k ≠ σ 103 j) ∧ hsM σ k = 1) → pCm (Ev d) k_X10_rivals E 56 [(87, 0), (0, j), (0, n), (0, k), (9, 0)] [(0, v)] (Wd xs t dd rr s1) := by
          intro v hv
          have hv : v = 1 ∧ ((k ≠ σ 102 j ∧ k ≠ σ 103 j) ∧ hsM σ k = 1) ∨ v = 0 ∧ ¬ ((k ≠ σ 102 j ∧ k ≠ σ 103 j) ∧ hsM σ k = 1) := by
            rw [hv]; exact b2i_or
          refine R_istore rfl rfl ?_
          refine R_iload rfl rfl ?_
          refine R_iload rfl rfl ?_
          refine R_if rfl (fun h61 => ?_) (fun h61 => ?_)
          · try simp only [ne_eq, b2i_e, b2i_1, Classical.not_not] at h61
            refine R_push rfl ?_
            refine R_add rfl (by omega) (by omega) ?_
            refine R_istore rfl rfl ?_
            refine R_inc rfl rfl (by omega) (by omega) ?_
            refine R_goto rfl ?_
            refine fgt wc_X10_rivals [1, 1, 1, 1, 0] ?_
            first
            | exact ih (n + 0, k + 1, s1) ⟨by dsimp only; omega, ⟨hF, e70⟩, Or.inr (by omega), by dsimp only; rw [hss, b2i_f (by omega)]⟩ (by dsimp only; omega)
            | exact ih (n + 0, k + 1, s3) ⟨by dsimp only; omega, ⟨hFs3, by dsimp only; omega⟩, Or.inr (by omega), by dsimp only; rw [hss, b2i_f (by omega)]⟩ (by dsimp only; omega)
            | exact ih (n + 1, k + 1, s3) ⟨by dsimp only; omega, ⟨hFs3, by dsimp only; omega⟩, Or.inr (by omega), by dsimp only; rw [hss, b2i_t (by omega)]⟩ (by dsimp only; omega)
            | exact ih (n + 1, k + 1, s2) ⟨by dsimp only; omega, ⟨hFs2, by dsimp only; omega⟩, Or.inr (by omega), by dsimp only; rw [hss, b2i_t (by omega)]⟩ (by dsimp only; omega)
          · try simp only [ne_eq, b2i_e, b2i_1, Classical.not_not] at h61
            refine R_aload rfl rfl rfl ?_
            refine R_iload rfl rfl ?_
            refine R_aload rfl rfl rfl ?_
            refine T_getr (v := 118) rfl rfl rfl rfl ?_
            refine R_iload rfl rfl ?_
            refine T_ald rfl rfl (by omega) (by omega) ?_
            rw [e102]
            obtain ⟨s2, hevs2, hFs2, e7s2⟩ := sp_X10_mayMeetJ d (by omega) xs t dd rr s1 (k) (σ 102 j) P h N kd nu len K W (JM_fr hJ hF) ⟨by omega, by omega⟩ ⟨by omega, by omega⟩
            rw [mayM_fr hF] at hevs2
            have hFs2 : Fk σ s2 := hF.tr hFs2 rfl rfl
            refine R_invv rfl rfl rfl rfl rfl rfl (hevs2) rfl ?_
            show pCm _ _ _ 75 _ [(0, _), (0, _)] _
            refine R_if rfl (fun h75 => ?_) (fun h75 => ?_)
            · try simp only [ne_eq, b2i_e, b2i_1, Classical.not_not] at h75
              refine R_push rfl ?_
              refine R_goto rfl ?_
              refine R_add rfl (by omega) (by omega) ?_
              refine R_istore rfl rfl ?_
              refine R_inc rfl rfl (by omega) (by omega) ?_
              refine R_goto rfl ?_
              refine fgt wc_X10_rivals [1, 1, 1, 1, 0] ?_
              first
              | exact ih (n + 0, k + 1, s1) ⟨by dsimp only; omega, ⟨hF, e70⟩, Or.inr (by omega), by dsimp only; rw [hss, b2i_f (by omega)]⟩ (by dsimp only; omega)
              | exact ih (n + 0, k + 1, s3) ⟨by dsimp only; omega, ⟨hFs3, by dsimp only; omega⟩, Or.inr (by omega), by dsimp only; rw [hss, b2i_f (by omega)]⟩ (by dsimp only; omega)
              | exact ih (n + 1, k + 1, s3) ⟨by dsimp only; omega, ⟨hFs3, by dsimp only; omega⟩, Or.inr (by omega), by dsimp only; rw [hss, b2i_t (by omega)]⟩ (by dsimp only; omega)
              | exact ih (n + 1, k + 1, s2) ⟨by dsimp only; omega, ⟨hFs2, by dsimp only; omega⟩, Or.inr (by omega), by dsimp only; rw [hss, b2i_t (by omega)]⟩ (by dsimp only; omega)
            · try simp only [ne_eq, b2i_e, b2i_1, Classical.not_not] at h75
              refine R_aload rfl rfl rfl ?_
              refine R_iload rfl rfl ?_
              refine R_aload rfl rfl rfl ?_
              refine T_getr (v := 119) rfl rfl rfl rfl ?_
              refine R_iload rfl rfl ?_
              refine T_ald rfl rfl (by omega) (by omega) ?_
              rw [hFs2.row 103 rfl]
              obtain ⟨s3, hevs3, hFs3, e7s3⟩ := sp_X10_mayMeetJ d (by omega) xs t dd rr s2 (k) (σ 103 j) P h N kd nu len K W (JM_fr hJ hFs2) ⟨by omega, by omega⟩ ⟨by omega, by omega⟩
              rw [mayM_fr hFs2] at hevs3
              have hFs3 : Fk σ s3 := hFs2.tr hFs3 rfl rfl
              refine R_invv rfl rfl rfl rfl rfl rfl (hevs3) rfl ?_
              show pCm _ _ _ 89 _ [(0, _), (0, _)] _
              refine R_if rfl (fun h89 => ?_) (fun h89 => ?_)
              · try simp only [ne_eq, b2i_e, b2i_1, Classical.not_not] at h89
                refine R_push rfl ?_
                refine R_add rfl (by omega) (by omega) ?_
                refine R_istore rfl rfl ?_
                refine R_inc rfl rfl (by omega) (by omega) ?_
                refine R_goto rfl ?_
                refine fgt wc_X10_rivals [1, 1, 1, 1, 0] ?_
                first
                | exact ih (n + 0, k + 1, s1) ⟨by dsimp only; omega, ⟨hF, e70⟩, Or.inr (by omega), by dsimp only; rw [hss, b2i_f (by omega)]⟩ (by dsimp only; omega)
                | exact ih (n + 0, k + 1, s3) ⟨by dsimp only; omega, ⟨hFs3, by dsimp only; omega⟩, Or.inr (by omega), by dsimp only; rw [hss, b2i_f (by omega)]⟩ (by dsimp only; omega)
                | exact ih (n + 1, k + 1, s3) ⟨by dsimp only; omega, ⟨hFs3, by dsimp only; omega⟩, Or.inr (by omega), by dsimp only; rw [hss, b2i_t (by omega)]⟩ (by dsimp only; omega)
                | exact ih (n + 1, k + 1, s2) ⟨by dsimp only; omega, ⟨hFs2, by dsimp only; omega⟩, Or.inr (by omega), by dsimp only; rw [hss, b2i_t (by omega)]⟩ (by dsimp only; omega)
              · try simp only [ne_eq, b2i_e, b2i_1, Classical.not_not] at h89
                refine R_push rfl ?_
                refine R_goto rfl ?_
                refine R_add rfl (by omega) (by omega) ?_
                refine R_istore rfl rfl ?_
                refine R_inc rfl rfl (by omega) (by omega) ?_
                refine R_goto rfl ?_
                refine fgt wc_X10_rivals [1, 1, 1, 1, 0] ?_
                first
                | exact ih (n + 0, k + 1, s1) ⟨by dsimp only; omega, ⟨hF, e70⟩, Or.inr (by omega), by dsimp only; rw [hss, b2i_f (by omega)]⟩ (by dsimp only; omega)
                | exact ih (n + 0, k + 1, s3) ⟨by dsimp only; omega, ⟨hFs3, by dsimp only; omega⟩, Or.inr (by omega), by dsimp only; rw [hss, b2i_f (by omega)]⟩ (by dsimp only; omega)
                | exact ih (n + 1, k + 1, s3) ⟨by dsimp only; omega, ⟨hFs3, by dsimp only; omega⟩, Or.inr (by omega), by dsimp only; rw [hss, b2i_t (by omega)]⟩ (by dsimp only; omega)
                | exact ih (n + 1, k + 1, s2) ⟨by dsimp only; omega, ⟨hFs2, by dsimp only; omega⟩, Or.inr (by omega), by dsimp only; rw [hss, b2i_t (by omega)]⟩ (by dsimp only; omega)
        refine R_aload rfl rfl rfl ?_
        refine R_iload rfl rfl ?_
        have hfo := sp_X10_isFace d (by omega) xs t dd rr s1 k P (by rw [e26]; exact hP) h0 (by omega)
        rw [show b2i (0 ≤ k ∧ k / 8 < P ∧ k % 8 < s1 98 (k / 8)) = hsM σ k by rw [hF.row 98 rfl]; exact b2i_iff ⟨fun w => w.2.2, fun w => ⟨by omega, by omega, w⟩⟩] at hfo
        refine R_invv rfl rfl rfl rfl rfl rfl (hfo) rfl ?_
        show pCm _ _ _ 28 _ [(0, _)] _
        refine R_if rfl (fun h28 => ?_) (fun h28 => ?_)
        · try simp only [ne_eq, b2i_e, b2i_1, Classical.not_not] at h28
          refine R_push rfl ?_
          exact J56 _ (by first | rw [b2i_t (by omega)] | rw [b2i_f (by omega)])
        · try simp only [ne_eq, b2i_e, b2i_1, Classical.not_not] at h28
          refine R_iload rfl rfl ?_
          refine R_aload rfl rfl rfl ?_
          refine T_getr (v := 118) rfl rfl rfl rfl ?_
          refine R_iload rfl rfl ?_
          refine T_ald rfl rfl (by omega) (by omega) ?_
          rw [e102]
          refine R_ic rfl (fun h38 => ?_) (fun h38 => ?_)
          · try simp only [ne_eq, b2i_e, b2i_1, Classical.not_not] at h38
            refine R_push rfl ?_
            exact J56 _ (by first | rw [b2i_t (by omega)] | rw [b2i_f (by omega)])
          · try simp only [ne_eq, b2i_e, b2i_1, Classical.not_not] at h38
            refine R_iload rfl rfl ?_
            refine R_aload rfl rfl rfl ?_
            refine T_getr (v := 119) rfl rfl rfl rfl ?_
            refine R_iload rfl rfl ?_
            refine T_ald rfl rfl (by omega) (by omega) ?_
            rw [e103]
            refine R_ic rfl (fun h48 => ?_) (fun h48 => ?_)
            · try simp only [ne_eq, b2i_e, b2i_1, Classical.not_not] at h48
              refine R_push rfl ?_
              exact J56 _ (by first | rw [b2i_t (by omega)] | rw [b2i_f (by omega)])
            · try simp only [ne_eq, b2i_e, b2i_1, Classical.not_not] at h48
              refine R_push rfl ?_
              refine R_goto rfl ?_
              exact J56 _ (by first | rw [b2i_t (by omega)] | rw [b2i_f (by omega)])
  · exact ⟨by dsimp only; omega, ⟨Fr.rf, rfl⟩, Or.inl rfl, rfl⟩

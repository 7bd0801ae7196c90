/-- how two faces measure, for the class -/
def fitS (σ : Sg) (a b : Int) : Int := fitZ (byt (σ 15 a)) (byt (σ 15 b)) (σ 16 a) (σ 16 b) 8
def kmS (σ : Sg) (a b : Int) : Int → Int := kMt (σ 14) (σ 3) (σ 4) (σ 5) (σ 6) (σ 10) (σ 7) (σ 8) (σ 9) a b (fitS σ a b / 8)
def stnS (σ : Sg) (N : Int) (kd nu len : Int → Int) (K W : Int → Int → Int) (p : Int) : Int := stn (σ 2) (kPc (σ 7) (σ 8) (σ 9) (σ 10) (σ 3) p) N kd nu len K W p
def mayS (σ : Sg) (N : Int) (kd nu len : Int → Int) (K W : Int → Int → Int) (a b : Int) : Int := b2i (a / 8 ≠ b / 8 ∧ (σ 14 a = 0 ∧ σ 14 b = 1 ∨ σ 14 a = 1 ∧ σ 14 b = 0 ∨ σ 14 a = 3 ∧ σ 14 b = 3) ∧ fitS σ a b / 8 ≤ σ 36 2 + 10 * (σ 10 (a / 8) + σ 10 (b / 8)) ∧ (stnS σ N kd nu len K W (a / 8) = stnS σ N kd nu len K W (b / 8) ∨ stnS σ N kd nu len K W (a / 8) = -1 ∨ stnS σ N kd nu len K W (b / 8) = -1) ∧ frst (hld (kmS σ a b) kd nu len K W 1) nu N = -1)
theorem fitS_bd {σ : Sg} {a b : Int} : 0 ≤ fitS σ a b ∧ fitS σ a b ≤ 16487 := by
  have := fitZ_bd (F := byt (σ 15 a)) (S := byt (σ 15 b)) (rf := σ 16 a) (rs := σ 16 b) (fun k _ _ => by have := byt_bd (r := σ 15 a) (k := k); omega) (fun k _ _ => by have := byt_bd (r := σ 15 b) (k := k); omega) 8 (by omega)
  exact ⟨this.1, this.2.2 (by omega)⟩
set_option maxRecDepth 20000 in
set_option maxHeartbeats 2000000 in
theorem sp_X5_mayMeet_37 (d : Nat) (hd : 6 ≤ d) (xs : List (Nat × Nat)) (t dd rr : Nat) (σ : Sg) (a b : Int) (P : Int) (h0 : P ≤ 40) (hB : PBs σ P) (ha : 0 ≤ a ∧ a / 8 < P) (hb : 0 ≤ b ∧ b / 8 < P) (hra : 0 ≤ σ 16 a ∧ σ 16 a ≤ 7) (hrb : 0 ≤ σ 16 b ∧ σ 16 b ≤ 7) (N : Int) (kd nu len : Int → Int) (K W : Int → Int → Int) (hT : WT N kd nu len K W) (hC : CT σ 37 N kd nu len K W) (hnn : ∀ l, 0 ≤ l → l < N → 0 ≤ nu l ∧ nu l ≤ 99) (ht : t = 53) (hnr : 0 ≤ σ 36 2 ∧ σ 36 2 ≤ 400) : ∃ σ', Ev d 201 [(52, 0), (0, a), (0, b)] (Wd xs t dd rr σ) (0, mayS σ N kd nu len K W a b) (Wd xs t dd rr σ') ∧ Fr [19, 20, 51, 42, 43] [] σ σ' := by
  obtain ⟨d, rfl⟩ : ∃ e, d = e + 1 := ⟨d - 1, by omega⟩
  subst ht
  have hfb := fitS_bd (σ := σ) (a := a) (b := b)
  have ba := hB (a / 8) (by omega) ha.2
  have bb := hB (b / 8) (by omega) hb.2
  refine evS (nL := 7) (code := k_X5_mayMeet) rfl dc_X5_mayMeet rfl (fun E hE => ?_)
  show pCm (Ev d) k_X5_mayMeet E 0 [(52, 0), (0, a), (0, b), (9, 0), (9, 0), (9, 0), (9, 0)] [] _
  refine R_iload rfl rfl ?_
  refine R_push rfl ?_
  refine R_dv rfl (by omega) (by omega) (by omega) ?_
  refine R_istore rfl rfl ?_
  refine R_iload rfl rfl ?_
  refine R_push rfl ?_
  refine R_dv rfl (by omega) (by omega) (by omega) ?_
  refine R_istore rfl rfl ?_
  refine R_iload rfl rfl ?_
  refine R_iload rfl rfl ?_
  refine R_ic rfl (fun h14 => ?_) (fun h14 => ?_)
  · try simp only [ne_eq, b2i_e, b2i_1, Classical.not_not] at h14
    refine R_push rfl ?_
    refine R_zret rfl (by first | exact Or.inl rfl | exact Or.inr rfl | omega | grind) ?_
    exact hE _ _ (by unfold mayS; rw [b2i_f (by omega)]) Fr.rf
  · try simp only [ne_eq, b2i_e, b2i_1, Classical.not_not] at h14
    refine R_aload rfl rfl rfl ?_
    refine T_getr (v := 28) rfl rfl rfl rfl ?_
    refine T_getr (v := 30) rfl rfl rfl rfl ?_
    refine R_iload rfl rfl ?_
    refine T_ald rfl rfl (by omega) (by omega) ?_
    refine R_aload rfl rfl rfl ?_
    refine T_getr (v := 28) rfl rfl rfl rfl ?_
    refine T_getr (v := 30) rfl rfl rfl rfl ?_
    refine R_iload rfl rfl ?_
    refine T_ald rfl rfl (by omega) (by omega) ?_
    refine R_inv rfl rfl rfl rfl rfl (sp_X5_sortsMeet d (by omega) _ _ _) rfl ?_
    show pCm _ _ _ 38 _ [(0, _)] _
    refine R_if rfl (fun h38 => ?_) (fun h38 => ?_)
    · try simp only [ne_eq, b2i_e, b2i_1, Classical.not_not] at h38
      refine R_aload rfl rfl rfl ?_
      refine T_getr (v := 28) rfl rfl rfl rfl ?_
      refine R_iload rfl rfl ?_
      refine R_iload rfl rfl ?_
      obtain ⟨s1, hev1, hF1⟩ := sp_X1_fit d (by omega) xs 53 dd rr σ a b ⟨by omega, by omega⟩ ⟨by omega, by omega⟩ hra hrb
      have hev1 : Ev d 157 [(28, 0), (0, a), (0, b)] (Wd xs 53 dd rr σ) (0, fitS σ a b) (Wd xs 53 dd rr s1) := hev1
      refine R_invv rfl rfl rfl rfl rfl rfl (hev1) rfl ?_
      show pCm _ _ _ 52 _ [(0, _)] _
      refine R_push rfl ?_
      refine R_dv rfl (by omega) (by omega) (by omega) ?_
      refine R_istore rfl rfl ?_
      refine R_aload rfl rfl rfl ?_
      refine T_geti rfl rfl rfl ?_
      rw [hF1.row 36 rfl]
      refine R_push rfl ?_
      refine R_aload rfl rfl rfl ?_
      refine T_getr (v := 17) rfl rfl rfl rfl ?_
      refine T_getr (v := 26) rfl rfl rfl rfl ?_
      refine R_iload rfl rfl ?_
      refine T_ald rfl rfl (by omega) (by omega) ?_
      rw [hF1.row 10 rfl]
      refine R_aload rfl rfl rfl ?_
      refine T_getr (v := 17) rfl rfl rfl rfl ?_
      refine T_getr (v := 26) rfl rfl rfl rfl ?_
      refine R_iload rfl rfl ?_
      refine T_ald rfl rfl (by omega) (by omega) ?_
      rw [hF1.row 10 rfl]
      refine R_add rfl (by omega) (by omega) ?_
      refine R_mul rfl (by omega) (by omega) ?_
      refine R_add rfl (by omega) (by omega) ?_
      refine R_istore rfl rfl ?_
      refine R_iload rfl rfl ?_
      refine R_iload rfl rfl ?_
      refine R_ic rfl (fun h91 => ?_) (fun h91 => ?_)
      · try simp only [ne_eq, b2i_e, b2i_1, Classical.not_not] at h91
        refine R_push rfl ?_
        refine R_zret rfl (by first | exact Or.inl rfl | exact Or.inr rfl | omega | grind) ?_
        first
        | exact hE _ _ (by unfold mayS; rw [b2i_f (by omega)]) (hF1.tr (r2 := []) (s2 := []) Fr.rf rfl rfl)
        | exact hE _ _ (by unfold mayS; rw [b2i_f (by omega)]) hFs3'
      · try simp only [ne_eq, b2i_e, b2i_1, Classical.not_not] at h91
        refine R_aload rfl rfl rfl ?_
        refine R_iload rfl rfl ?_
        obtain ⟨s2, hevs2, hFs2⟩ := sp_X5_stoneOf_37 d (by omega) xs 53 dd rr s1 (a / 8) ⟨by omega, by omega⟩ N kd nu len K W hT (CT_fr hC (hF1.fn 37 rfl) (hF1.fn 38 rfl) (hF1.fn 39 rfl) (hF1.fn 40 rfl) (hF1.fn 41 rfl)) hnn rfl
        rw [hF1.fn 2 rfl, hF1.fn 7 rfl, hF1.fn 8 rfl, hF1.fn 9 rfl, hF1.fn 10 rfl, hF1.fn 3 rfl] at hevs2
        have hFs2' := hF1.tr (r3 := [19, 20, 51, 42, 43]) (s3 := []) hFs2 rfl rfl
        refine R_invv rfl rfl rfl rfl rfl rfl (hevs2) rfl ?_
        show pCm _ _ _ 99 _ [(0, _)] _
        show pCm _ _ _ _ _ ((0, stnS σ N kd nu len K W (a / 8)) :: _) _
        refine R_aload rfl rfl rfl ?_
        refine R_iload rfl rfl ?_
        obtain ⟨s3, hevs3, hFs3⟩ := sp_X5_stoneOf_37 d (by omega) xs 53 dd rr s2 (b / 8) ⟨by omega, by omega⟩ N kd nu len K W hT (CT_fr hC (hFs2'.fn 37 rfl) (hFs2'.fn 38 rfl) (hFs2'.fn 39 rfl) (hFs2'.fn 40 rfl) (hFs2'.fn 41 rfl)) hnn rfl
        rw [hFs2'.fn 2 rfl, hFs2'.fn 7 rfl, hFs2'.fn 8 rfl, hFs2'.fn 9 rfl, hFs2'.fn 10 rfl, hFs2'.fn 3 rfl] at hevs3
        have hFs3' := hFs2'.tr (r3 := [19, 20, 51, 42, 43]) (s3 := []) hFs3 rfl rfl
        refine R_invv rfl rfl rfl rfl rfl rfl (hevs3) rfl ?_
        show pCm _ _ _ 105 _ [(0, _), (0, _)] _
        show pCm _ _ _ _ _ ((0, stnS σ N kd nu len K W (b / 8)) :: _) _
        refine R_inv rfl rfl rfl rfl rfl (sp_X5_stonesMeet d (by omega) _ _ _) rfl ?_
        show pCm _ _ _ 108 _ [(0, _)] _
        refine R_if rfl (fun h108 => ?_) (fun h108 => ?_)
        · try simp only [ne_eq, b2i_e, b2i_1, Classical.not_not] at h108
          refine R_aload rfl rfl rfl ?_
          refine R_iload rfl rfl ?_
          refine R_iload rfl rfl ?_
          refine R_iload rfl rfl ?_
          obtain ⟨s4, hev4, hF4, hk4⟩ := sp_X5_tellMeeting d (by omega) xs 53 dd rr s3 a b (fitS σ a b / 8) P h0 (by
            intro p p0 p1
            rw [hFs3'.row 3 rfl, hFs3'.row 4 rfl, hFs3'.row 5 rfl, hFs3'.row 6 rfl, hFs3'.row 7 rfl, hFs3'.row 8 rfl, hFs3'.row 9 rfl, hFs3'.row 10 rfl, hFs3'.row 11 rfl]
            exact hB p p0 p1) ha hb
          rw [hFs3'.fn 14 rfl, hFs3'.fn 3 rfl, hFs3'.fn 4 rfl, hFs3'.fn 5 rfl, hFs3'.fn 6 rfl, hFs3'.fn 10 rfl, hFs3'.fn 7 rfl, hFs3'.fn 8 rfl, hFs3'.fn 9 rfl] at hk4
          have hF4' := hFs3'.tr (r3 := [19, 20, 51, 42, 43]) (s3 := []) hF4 rfl rfl
          refine R_invv rfl rfl rfl rfl rfl rfl (hev4) rfl ?_
          show pCm _ _ _ 121 _ [] _
          refine R_aload rfl rfl rfl ?_
          refine T_getr (v := 53) rfl rfl rfl rfl ?_
          refine R_push rfl ?_
          refine R_aload rfl rfl rfl ?_
          refine T_getr (v := 67) rfl rfl rfl rfl ?_
          obtain ⟨s5, hev5, hF5⟩ := sp_X8_firstThatHolds_37 d (by omega) xs 53 dd rr s4 1 N kd nu len K W hT (CT_fr hC (hF4'.fn 37 rfl) (hF4'.fn 38 rfl) (hF4'.fn 39 rfl) (hF4'.fn 40 rfl) (hF4'.fn 41 rfl)) (fun l l0 l1 => by have := hnn l l0 l1; omega) (by omega)
          rw [frst_c (fun l l0 l1 => hld_kn hT hk4 l0 l1)] at hev5
          have hev5 : Ev d 236 [(53, 0), (0, 129), (67, 0)] (Wd xs 53 dd rr s4) (0, frst (hld (kmS σ a b) kd nu len K W 1) nu N) (Wd xs 53 dd rr s5) := hev5
          refine R_invv rfl rfl rfl rfl rfl rfl (hev5) rfl ?_
          show pCm _ _ _ 135 _ [(0, _)] _
          refine R_push rfl ?_
          refine R_ic rfl (fun h136 => ?_) (fun h136 => ?_)
          · try simp only [ne_eq, b2i_e, b2i_1, Classical.not_not] at h136
            refine R_push rfl ?_
            refine R_zret rfl (by first | exact Or.inl rfl | exact Or.inr rfl | omega | grind) ?_
            first
            | exact hE _ _ (by unfold mayS; rw [b2i_f (by omega)]) (hF4'.tr hF5 rfl rfl)
            | exact hE _ _ (by unfold mayS; rw [b2i_t (by omega)]) (hF4'.tr hF5 rfl rfl)
          · try simp only [ne_eq, b2i_e, b2i_1, Classical.not_not] at h136
            refine R_push rfl ?_
            refine R_goto rfl ?_
            refine R_zret rfl (by first | exact Or.inl rfl | exact Or.inr rfl | omega | grind) ?_
            first
            | exact hE _ _ (by unfold mayS; rw [b2i_f (by omega)]) (hF4'.tr hF5 rfl rfl)
            | exact hE _ _ (by unfold mayS; rw [b2i_t (by omega)]) (hF4'.tr hF5 rfl rfl)
        · try simp only [ne_eq, b2i_e, b2i_1, Classical.not_not] at h108
          refine R_push rfl ?_
          refine R_zret rfl (by first | exact Or.inl rfl | exact Or.inr rfl | omega | grind) ?_
          first
          | exact hE _ _ (by unfold mayS; rw [b2i_f (by omega)]) (hF1.tr (r2 := []) (s2 := []) Fr.rf rfl rfl)
          | exact hE _ _ (by unfold mayS; rw [b2i_f (by omega)]) hFs3'
    · try simp only [ne_eq, b2i_e, b2i_1, Classical.not_not] at h38
      refine R_push rfl ?_
      refine R_zret rfl (by first | exact Or.inl rfl | exact Or.inr rfl | omega | grind) ?_
      exact hE _ _ (by unfold mayS; rw [b2i_f (by omega)]) Fr.rf
set_option maxRecDepth 20000 in
set_option maxHeartbeats 2000000 in
theorem sp_X5_doubtOf_37 (d : Nat) (hd : 6 ≤ d) (xs : List (Nat × Nat)) (t dd rr : Nat) (σ : Sg) (a b : Int) (P : Int) (h0 : P ≤ 40) (hB : PBs σ P) (ha : 0 ≤ a ∧ a / 8 < P) (hb : 0 ≤ b ∧ b / 8 < P) (hra : 0 ≤ σ 16 a ∧ σ 16 a ≤ 7) (hrb : 0 ≤ σ 16 b ∧ σ 16 b ≤ 7) (N : Int) (kd nu len : Int → Int) (K W : Int → Int → Int) (hT : WT N kd nu len K W) (hC : CT σ 37 N kd nu len K W) (hnn : ∀ l, 0 ≤ l → l < N → 0 ≤ nu l ∧ nu l ≤ 99) (ht : t = 53)  : ∃ σ', Ev d 205 [(52, 0), (0, a), (0, b)] (Wd xs t dd rr σ) (0, sumZ (fun l => if hld (kmS σ a b) kd nu len K W 2 l = 1 then nu l else 0) N) (Wd xs t dd rr σ') ∧ Fr [19, 20, 51, 42, 43] [] σ σ' := by
  obtain ⟨d, rfl⟩ : ∃ e, d = e + 1 := ⟨d - 1, by omega⟩
  subst ht
  have hfb := fitS_bd (σ := σ) (a := a) (b := b)
  refine evS (nL := 3) (code := k_X5_doubtOf) rfl dc_X5_doubtOf rfl (fun E hE => ?_)
  show pCm (Ev d) k_X5_doubtOf E 0 [(52, 0), (0, a), (0, b)] [] _
  refine R_aload rfl rfl rfl ?_
  refine R_iload rfl rfl ?_
  refine R_iload rfl rfl ?_
  refine R_aload rfl rfl rfl ?_
  refine T_getr (v := 28) rfl rfl rfl rfl ?_
  refine R_iload rfl rfl ?_
  refine R_iload rfl rfl ?_
  obtain ⟨s1, hev1, hF1⟩ := sp_X1_fit d (by omega) xs 53 dd rr σ a b ⟨by omega, by omega⟩ ⟨by omega, by omega⟩ hra hrb
  have hev1 : Ev d 157 [(28, 0), (0, a), (0, b)] (Wd xs 53 dd rr σ) (0, fitS σ a b) (Wd xs 53 dd rr s1) := hev1
  refine R_invv rfl rfl rfl rfl rfl rfl (hev1) rfl ?_
  show pCm _ _ _ 12 _ [(0, _), (0, _), (0, _), (52, 0)] _
  refine R_push rfl ?_
  refine R_dv rfl (by omega) (by omega) (by omega) ?_
  obtain ⟨s4, hev4, hF4, hk4⟩ := sp_X5_tellMeeting d (by omega) xs 53 dd rr s1 a b (fitS σ a b / 8) P h0 (by
    intro p p0 p1
    rw [hF1.row 3 rfl, hF1.row 4 rfl, hF1.row 5 rfl, hF1.row 6 rfl, hF1.row 7 rfl, hF1.row 8 rfl, hF1.row 9 rfl, hF1.row 10 rfl, hF1.row 11 rfl]
    exact hB p p0 p1) ha hb
  rw [hF1.fn 14 rfl, hF1.fn 3 rfl, hF1.fn 4 rfl, hF1.fn 5 rfl, hF1.fn 6 rfl, hF1.fn 10 rfl, hF1.fn 7 rfl, hF1.fn 8 rfl, hF1.fn 9 rfl] at hk4
  have hF4' := hF1.tr (r3 := [19, 20, 51, 42, 43]) (s3 := []) hF4 rfl rfl
  refine R_invv rfl rfl rfl rfl rfl rfl (hev4) rfl ?_
  show pCm _ _ _ 18 _ [] _
  refine R_aload rfl rfl rfl ?_
  refine T_getr (v := 53) rfl rfl rfl rfl ?_
  refine R_aload rfl rfl rfl ?_
  refine T_getr (v := 67) rfl rfl rfl rfl ?_
  obtain ⟨s5, hev5, hF5⟩ := sp_X8_sumOfDoubt_37 d (by omega) xs 53 dd rr s4 N kd nu len K W hT (CT_fr hC (hF4'.fn 37 rfl) (hF4'.fn 38 rfl) (hF4'.fn 39 rfl) (hF4'.fn 40 rfl) (hF4'.fn 41 rfl)) hnn
  rw [sumZ_congr (g := fun l => if hld (kmS σ a b) kd nu len K W 2 l = 1 then nu l else 0) (fun l l0 l1 => by rw [hld_kn hT hk4 l0 l1]; rfl)] at hev5
  refine R_invv rfl rfl rfl rfl rfl rfl (hev5) rfl ?_
  show pCm _ _ _ 29 _ [(0, _)] _
  refine R_iret rfl ?_
  exact hE _ _ rfl (hF4'.tr hF5 rfl rfl)
set_option maxRecDepth 20000 in
set_option maxHeartbeats 2000000 in
theorem sp_X5_mayMeet_44 (d : Nat) (hd : 6 ≤ d) (xs : List (Nat × Nat)) (t dd rr : Nat) (σ : Sg) (a b : Int) (P : Int) (h0 : P ≤ 40) (hB : PBs σ P) (ha : 0 ≤ a ∧ a / 8 < P) (hb : 0 ≤ b ∧ b / 8 < P) (hra : 0 ≤ σ 16 a ∧ σ 16 a ≤ 7) (hrb : 0 ≤ σ 16 b ∧ σ 16 b ≤ 7) (N : Int) (kd nu len : Int → Int) (K W : Int → Int → Int) (hT : WT N kd nu len K W) (hC : CT σ 44 N kd nu len K W) (hnn : ∀ l, 0 ≤ l → l < N → 0 ≤ nu l ∧ nu l ≤ 99) (ht : t = 60) (hnr : 0 ≤ σ 36 2 ∧ σ 36 2 ≤ 400) : ∃ σ', Ev d 201 [(52, 0), (0, a), (0, b)] (Wd xs t dd rr σ) (0, mayS σ N kd nu len K W a b) (Wd xs t dd rr σ') ∧ Fr [19, 20, 51, 49, 50] [] σ σ' := by
  obtain ⟨d, rfl⟩ : ∃ e, d = e + 1 := ⟨d - 1, by omega⟩
  subst ht
  have hfb := fitS_bd (σ := σ) (a := a) (b := b)
  have ba := hB (a / 8) (by omega) ha.2
  have bb := hB (b / 8) (by omega) hb.2
  refine evS (nL := 7) (code := k_X5_mayMeet) rfl dc_X5_mayMeet rfl (fun E hE => ?_)
  show pCm (Ev d) k_X5_mayMeet E 0 [(52, 0), (0, a), (0, b), (9, 0), (9, 0), (9, 0), (9, 0)] [] _
  refine R_iload rfl rfl ?_
  refine R_push rfl ?_
  refine R_dv rfl (by omega) (by omega) (by omega) ?_
  refine R_istore rfl rfl ?_
  refine R_iload rfl rfl ?_
  refine R_push rfl ?_
  refine R_dv rfl (by omega) (by omega) (by omega) ?_
  refine R_istore rfl rfl ?_
  refine R_iload rfl rfl ?_
  refine R_iload rfl rfl ?_
  refine R_ic rfl (fun h14 => ?_) (fun h14 => ?_)
  · try simp only [ne_eq, b2i_e, b2i_1, Classical.not_not] at h14
    refine R_push rfl ?_
    refine R_zret rfl (by first | exact Or.inl rfl | exact Or.inr rfl | omega | grind) ?_
    exact hE _ _ (by unfold mayS; rw [b2i_f (by omega)]) Fr.rf
  · try simp only [ne_eq, b2i_e, b2i_1, Classical.not_not] at h14
    refine R_aload rfl rfl rfl ?_
    refine T_getr (v := 28) rfl rfl rfl rfl ?_
    refine T_getr (v := 30) rfl rfl rfl rfl ?_
    refine R_iload rfl rfl ?_
    refine T_ald rfl rfl (by omega) (by omega) ?_
    refine R_aload rfl rfl rfl ?_
    refine T_getr (v := 28) rfl rfl rfl rfl ?_
    refine T_getr (v := 30) rfl rfl rfl rfl ?_
    refine R_iload rfl rfl ?_
    refine T_ald rfl rfl (by omega) (by omega) ?_
    refine R_inv rfl rfl rfl rfl rfl (sp_X5_sortsMeet d (by omega) _ _ _) rfl ?_
    show pCm _ _ _ 38 _ [(0, _)] _
    refine R_if rfl (fun h38 => ?_) (fun h38 => ?_)
    · try simp only [ne_eq, b2i_e, b2i_1, Classical.not_not] at h38
      refine R_aload rfl rfl rfl ?_
      refine T_getr (v := 28) rfl rfl rfl rfl ?_
      refine R_iload rfl rfl ?_
      refine R_iload rfl rfl ?_
      obtain ⟨s1, hev1, hF1⟩ := sp_X1_fit d (by omega) xs 60 dd rr σ a b ⟨by omega, by omega⟩ ⟨by omega, by omega⟩ hra hrb
      have hev1 : Ev d 157 [(28, 0), (0, a), (0, b)] (Wd xs 60 dd rr σ) (0, fitS σ a b) (Wd xs 60 dd rr s1) := hev1
      refine R_invv rfl rfl rfl rfl rfl rfl (hev1) rfl ?_
      show pCm _ _ _ 52 _ [(0, _)] _
      refine R_push rfl ?_
      refine R_dv rfl (by omega) (by omega) (by omega) ?_
      refine R_istore rfl rfl ?_
      refine R_aload rfl rfl rfl ?_
      refine T_geti rfl rfl rfl ?_
      rw [hF1.row 36 rfl]
      refine R_push rfl ?_
      refine R_aload rfl rfl rfl ?_
      refine T_getr (v := 17) rfl rfl rfl rfl ?_
      refine T_getr (v := 26) rfl rfl rfl rfl ?_
      refine R_iload rfl rfl ?_
      refine T_ald rfl rfl (by omega) (by omega) ?_
      rw [hF1.row 10 rfl]
      refine R_aload rfl rfl rfl ?_
      refine T_getr (v := 17) rfl rfl rfl rfl ?_
      refine T_getr (v := 26) rfl rfl rfl rfl ?_
      refine R_iload rfl rfl ?_
      refine T_ald rfl rfl (by omega) (by omega) ?_
      rw [hF1.row 10 rfl]
      refine R_add rfl (by omega) (by omega) ?_
      refine R_mul rfl (by omega) (by omega) ?_
      refine R_add rfl (by omega) (by omega) ?_
      refine R_istore rfl rfl ?_
      refine R_iload rfl rfl ?_
      refine R_iload rfl rfl ?_
      refine R_ic rfl (fun h91 => ?_) (fun h91 => ?_)
      · try simp only [ne_eq, b2i_e, b2i_1, Classical.not_not] at h91
        refine R_push rfl ?_
        refine R_zret rfl (by first | exact Or.inl rfl | exact Or.inr rfl | omega | grind) ?_
        first
        | exact hE _ _ (by unfold mayS; rw [b2i_f (by omega)]) (hF1.tr (r2 := []) (s2 := []) Fr.rf rfl rfl)
        | exact hE _ _ (by unfold mayS; rw [b2i_f (by omega)]) hFs3'
      · try simp only [ne_eq, b2i_e, b2i_1, Classical.not_not] at h91
        refine R_aload rfl rfl rfl ?_
        refine R_iload rfl rfl ?_
        obtain ⟨s2, hevs2, hFs2⟩ := sp_X5_stoneOf_44 d (by omega) xs 60 dd rr s1 (a / 8) ⟨by omega, by omega⟩ N kd nu len K W hT (CT_fr hC (hF1.fn 44 rfl) (hF1.fn 45 rfl) (hF1.fn 46 rfl) (hF1.fn 47 rfl) (hF1.fn 48 rfl)) hnn rfl
        rw [hF1.fn 2 rfl, hF1.fn 7 rfl, hF1.fn 8 rfl, hF1.fn 9 rfl, hF1.fn 10 rfl, hF1.fn 3 rfl] at hevs2
        have hFs2' := hF1.tr (r3 := [19, 20, 51, 49, 50]) (s3 := []) hFs2 rfl rfl
        refine R_invv rfl rfl rfl rfl rfl rfl (hevs2) rfl ?_
        show pCm _ _ _ 99 _ [(0, _)] _
        show pCm _ _ _ _ _ ((0, stnS σ N kd nu len K W (a / 8)) :: _) _
        refine R_aload rfl rfl rfl ?_
        refine R_iload rfl rfl ?_
        obtain ⟨s3, hevs3, hFs3⟩ := sp_X5_stoneOf_44 d (by omega) xs 60 dd rr s2 (b / 8) ⟨by omega, by omega⟩ N kd nu len K W hT (CT_fr hC (hFs2'.fn 44 rfl) (hFs2'.fn 45 rfl) (hFs2'.fn 46 rfl) (hFs2'.fn 47 rfl) (hFs2'.fn 48 rfl)) hnn rfl
        rw [hFs2'.fn 2 rfl, hFs2'.fn 7 rfl, hFs2'.fn 8 rfl, hFs2'.fn 9 rfl, hFs2'.fn 10 rfl, hFs2'.fn 3 rfl] at hevs3
        have hFs3' := hFs2'.tr (r3 := [19, 20, 51, 49, 50]) (s3 := []) hFs3 rfl rfl
        refine R_invv rfl rfl rfl rfl rfl rfl (hevs3) rfl ?_
        show pCm _ _ _ 105 _ [(0, _), (0, _)] _
        show pCm _ _ _ _ _ ((0, stnS σ N kd nu len K W (b / 8)) :: _) _
        refine R_inv rfl rfl rfl rfl rfl (sp_X5_stonesMeet d (by omega) _ _ _) rfl ?_
        show pCm _ _ _ 108 _ [(0, _)] _
        refine R_if rfl (fun h108 => ?_) (fun h108 => ?_)
        · try simp only [ne_eq, b2i_e, b2i_1, Classical.not_not] at h108
          refine R_aload rfl rfl rfl ?_
          refine R_iload rfl rfl ?_
          refine R_iload rfl rfl ?_
          refine R_iload rfl rfl ?_
          obtain ⟨s4, hev4, hF4, hk4⟩ := sp_X5_tellMeeting d (by omega) xs 60 dd rr s3 a b (fitS σ a b / 8) P h0 (by
            intro p p0 p1
            rw [hFs3'.row 3 rfl, hFs3'.row 4 rfl, hFs3'.row 5 rfl, hFs3'.row 6 rfl, hFs3'.row 7 rfl, hFs3'.row 8 rfl, hFs3'.row 9 rfl, hFs3'.row 10 rfl, hFs3'.row 11 rfl]
            exact hB p p0 p1) ha hb
          rw [hFs3'.fn 14 rfl, hFs3'.fn 3 rfl, hFs3'.fn 4 rfl, hFs3'.fn 5 rfl, hFs3'.fn 6 rfl, hFs3'.fn 10 rfl, hFs3'.fn 7 rfl, hFs3'.fn 8 rfl, hFs3'.fn 9 rfl] at hk4
          have hF4' := hFs3'.tr (r3 := [19, 20, 51, 49, 50]) (s3 := []) hF4 rfl rfl
          refine R_invv rfl rfl rfl rfl rfl rfl (hev4) rfl ?_
          show pCm _ _ _ 121 _ [] _
          refine R_aload rfl rfl rfl ?_
          refine T_getr (v := 60) rfl rfl rfl rfl ?_
          refine R_push rfl ?_
          refine R_aload rfl rfl rfl ?_
          refine T_getr (v := 67) rfl rfl rfl rfl ?_
          obtain ⟨s5, hev5, hF5⟩ := sp_X8_firstThatHolds_44 d (by omega) xs 60 dd rr s4 1 N kd nu len K W hT (CT_fr hC (hF4'.fn 44 rfl) (hF4'.fn 45 rfl) (hF4'.fn 46 rfl) (hF4'.fn 47 rfl) (hF4'.fn 48 rfl)) (fun l l0 l1 => by have := hnn l l0 l1; omega) (by omega)
          rw [frst_c (fun l l0 l1 => hld_kn hT hk4 l0 l1)] at hev5
          have hev5 : Ev d 236 [(60, 0), (0, 129), (67, 0)] (Wd xs 60 dd rr s4) (0, frst (hld (kmS σ a b) kd nu len K W 1) nu N) (Wd xs 60 dd rr s5) := hev5
          refine R_invv rfl rfl rfl rfl rfl rfl (hev5) rfl ?_
          show pCm _ _ _ 135 _ [(0, _)] _
          refine R_push rfl ?_
          refine R_ic rfl (fun h136 => ?_) (fun h136 => ?_)
          · try simp only [ne_eq, b2i_e, b2i_1, Classical.not_not] at h136
            refine R_push rfl ?_
            refine R_zret rfl (by first | exact Or.inl rfl | exact Or.inr rfl | omega | grind) ?_
            first
            | exact hE _ _ (by unfold mayS; rw [b2i_f (by omega)]) (hF4'.tr hF5 rfl rfl)
            | exact hE _ _ (by unfold mayS; rw [b2i_t (by omega)]) (hF4'.tr hF5 rfl rfl)
          · try simp only [ne_eq, b2i_e, b2i_1, Classical.not_not] at h136
            refine R_push rfl ?_
            refine R_goto rfl ?_
            refine R_zret rfl (by first | exact Or.inl rfl | exact Or.inr rfl | omega | grind) ?_
            first
            | exact hE _ _ (by unfold mayS; rw [b2i_f (by omega)]) (hF4'.tr hF5 rfl rfl)
            | exact hE _ _ (by unfold mayS; rw [b2i_t (by omega)]) (hF4'.tr hF5 rfl rfl)
        · try simp only [ne_eq, b2i_e, b2i_1, Classical.not_not] at h108
          refine R_push rfl ?_
          refine R_zret rfl (by first | exact Or.inl rfl | exact Or.inr rfl | omega | grind) ?_
          first
          | exact hE _ _ (by unfold mayS; rw [b2i_f (by omega)]) (hF1.tr (r2 := []) (s2 := []) Fr.rf rfl rfl)
          | exact hE _ _ (by unfold mayS; rw [b2i_f (by omega)]) hFs3'
    · try simp only [ne_eq, b2i_e, b2i_1, Classical.not_not] at h38
      refine R_push rfl ?_
      refine R_zret rfl (by first | exact Or.inl rfl | exact Or.inr rfl | omega | grind) ?_
      exact hE _ _ (by unfold mayS; rw [b2i_f (by omega)]) Fr.rf
set_option maxRecDepth 20000 in
set_option maxHeartbeats 2000000 in
theorem sp_X5_doubtOf_44 (d : Nat) (hd : 6 ≤ d) (xs : List (Nat × Nat)) (t dd rr : Nat) (σ : Sg) (a b : Int) (P : Int) (h0 : P ≤ 40) (hB : PBs σ P) (ha : 0 ≤ a ∧ a / 8 < P) (hb : 0 ≤ b ∧ b / 8 < P) (hra : 0 ≤ σ 16 a ∧ σ 16 a ≤ 7) (hrb : 0 ≤ σ 16 b ∧ σ 16 b ≤ 7) (N : Int) (kd nu len : Int → Int) (K W : Int → Int → Int) (hT : WT N kd nu len K W) (hC : CT σ 44 N kd nu len K W) (hnn : ∀ l, 0 ≤ l → l < N → 0 ≤ nu l ∧ nu l ≤ 99) (ht : t = 60)  : ∃ σ', Ev d 205 [(52, 0), (0, a), (0, b)] (Wd xs t dd rr σ) (0, sumZ (fun l => if hld (kmS σ a b) kd nu len K W 2 l = 1 then nu l else 0) N) (Wd xs t dd rr σ') ∧ Fr [19, 20, 51, 49, 50] [] σ σ' := by
  obtain ⟨d, rfl⟩ : ∃ e, d = e + 1 := ⟨d - 1, by omega⟩
  subst ht
  have hfb := fitS_bd (σ := σ) (a := a) (b := b)
  refine evS (nL := 3) (code := k_X5_doubtOf) rfl dc_X5_doubtOf rfl (fun E hE => ?_)
  show pCm (Ev d) k_X5_doubtOf E 0 [(52, 0), (0, a), (0, b)] [] _
  refine R_aload rfl rfl rfl ?_
  refine R_iload rfl rfl ?_
  refine R_iload rfl rfl ?_
  refine R_aload rfl rfl rfl ?_
  refine T_getr (v := 28) rfl rfl rfl rfl ?_
  refine R_iload rfl rfl ?_
  refine R_iload rfl rfl ?_
  obtain ⟨s1, hev1, hF1⟩ := sp_X1_fit d (by omega) xs 60 dd rr σ a b ⟨by omega, by omega⟩ ⟨by omega, by omega⟩ hra hrb
  have hev1 : Ev d 157 [(28, 0), (0, a), (0, b)] (Wd xs 60 dd rr σ) (0, fitS σ a b) (Wd xs 60 dd rr s1) := hev1
  refine R_invv rfl rfl rfl rfl rfl rfl (hev1) rfl ?_
  show pCm _ _ _ 12 _ [(0, _), (0, _), (0, _), (52, 0)] _
  refine R_push rfl ?_
  refine R_dv rfl (by omega) (by omega) (by omega) ?_
  obtain ⟨s4, hev4, hF4, hk4⟩ := sp_X5_tellMeeting d (by omega) xs 60 dd rr s1 a b (fitS σ a b / 8) P h0 (by
    intro p p0 p1
    rw [hF1.row 3 rfl, hF1.row 4 rfl, hF1.row 5 rfl, hF1.row 6 rfl, hF1.row 7 rfl, hF1.row 8 rfl, hF1.row 9 rfl, hF1.row 10 rfl, hF1.row 11 rfl]
    exact hB p p0 p1) ha hb
  rw [hF1.fn 14 rfl, hF1.fn 3 rfl, hF1.fn 4 rfl, hF1.fn 5 rfl, hF1.fn 6 rfl, hF1.fn 10 rfl, hF1.fn 7 rfl, hF1.fn 8 rfl, hF1.fn 9 rfl] at hk4
  have hF4' := hF1.tr (r3 := [19, 20, 51, 49, 50]) (s3 := []) hF4 rfl rfl
  refine R_invv rfl rfl rfl rfl rfl rfl (hev4) rfl ?_
  show pCm _ _ _ 18 _ [] _
  refine R_aload rfl rfl rfl ?_
  refine T_getr (v := 60) rfl rfl rfl rfl ?_
  refine R_aload rfl rfl rfl ?_
  refine T_getr (v := 67) rfl rfl rfl rfl ?_
  obtain ⟨s5, hev5, hF5⟩ := sp_X8_sumOfDoubt_44 d (by omega) xs 60 dd rr s4 N kd nu len K W hT (CT_fr hC (hF4'.fn 44 rfl) (hF4'.fn 45 rfl) (hF4'.fn 46 rfl) (hF4'.fn 47 rfl) (hF4'.fn 48 rfl)) hnn
  rw [sumZ_congr (g := fun l => if hld (kmS σ a b) kd nu len K W 2 l = 1 then nu l else 0) (fun l l0 l1 => by rw [hld_kn hT hk4 l0 l1]; rfl)] at hev5
  refine R_invv rfl rfl rfl rfl rfl rfl (hev5) rfl ?_
  show pCm _ _ _ 29 _ [(0, _)] _
  refine R_iret rfl ?_
  exact hE _ _ rfl (hF4'.tr hF5 rfl rfl)

theorem WB_M0 {σ : Sg} {P J c : Int} (hM : MH0 σ P J) (q : tM σ P J c ≤ 12) : WB (UF P c (hsM σ) (σ 99) (cobM σ P J) (whoM σ P J) (mtM σ J) (fun f g => σ 116 (8 * f + g))) := by
  have hi : ∀ f, 0 ≤ f → f < 8 * P → hsM σ f = 1 → cobM σ P J (f / 8) = c → 0 ≤ bl P (σ 99) (cobM σ P J) (whoM σ P J) (mtM σ J) f → 0 ≤ idx (gt2 P c (hsM σ) (σ 99) (cobM σ P J) (whoM σ P J) (mtM σ J) (8 * P)).2 (gt2 P c (hsM σ) (σ 99) (cobM σ P J) (whoM σ P J) (mtM σ J) (8 * P)).1 (bl P (σ 99) (cobM σ P J) (whoM σ P J) (mtM σ J) f) ∧ idx (gt2 P c (hsM σ) (σ 99) (cobM σ P J) (whoM σ P J) (mtM σ J) (8 * P)).2 (gt2 P c (hsM σ) (σ 99) (cobM σ P J) (whoM σ P J) (mtM σ J) (8 * P)).1 (bl P (σ 99) (cobM σ P J) (whoM σ P J) (mtM σ J) f) < 12 := fun f f0 f1 hf hc hb => by
    have := idx_in (c := c) hM.2.1.1 (bl_in (so := σ 99) hM.2.1 f0 f1 hf hc hb)
    have q' : (gt2 P c (hsM σ) (σ 99) (cobM σ P J) (whoM σ P J) (mtM σ J) (8 * P)).1 ≤ 12 := q
    exact ⟨this.1, by omega⟩
  have h0 := hM.2.1.1
  have hwo := wgt_ok (R := (gt2 P c (hsM σ) (σ 99) (cobM σ P J) (whoM σ P J) (mtM σ J) (8 * P)).2) (T := (gt2 P c (hsM σ) (σ 99) (cobM σ P J) (whoM σ P J) (mtM σ J) (8 * P)).1) (P := P) (c := c) (hs := hsM σ) (so := σ 99) (co := cobM σ P J) (who := whoM σ P J) (mt := mtM σ J) (cw := fun f g => σ 116 (8 * f + g)) h0 (fun f f0 f1 g g0 g1 hf hc hw b1 b2 => by
    have h2 := ((hM.2.2.1 f g f0 f1 g0 g1).2 hw).2
    exact ⟨hi f f0 f1 hf hc b1, hi (f / 8 * 8 + g) (by omega) (by omega) h2 (by rw [show (f / 8 * 8 + g) / 8 = f / 8 by omega]; exact hc) b2⟩) (fun f f0 f1 g g0 g1 => (hM.2.2.1 f g f0 f1 g0 g1).1.2) (8 * P).toNat (by omega)
  rw [Int.toNat_of_nonneg (by omega)] at hwo
  exact ⟨hwo.1, fun k k0 k1 => by
    have := hwo.2 k k0 k1
    have e : sumZ (fun j => UF P c (hsM σ) (σ 99) (cobM σ P J) (whoM σ P J) (mtM σ J) (fun f g => σ 116 (8 * f + g)) (12 * k + j)) 12 ≤ 120 * (8 * P) := this
    omega⟩
def whM (σ : Sg) (P J c : Int) : Int := sumZ (fun p => b2i (cobM σ P J p = c ∧ whoM σ P J p = p)) P
def faM (σ : Sg) (P J c : Int) : Int := sumZ (fun p => if cobM σ P J p = c then σ 97 p else 0) P
def fwM (σ : Sg) (P J w : Int) : Int := sumZ (fun p => if whoM σ P J p = w then σ 97 p else 0) P
def chM (σ : Sg) (P J c : Int) : Int := chR (whM σ P J c) (faM σ P J c) (ordM σ P J c) (fwM σ P J) (tM σ P J c)
theorem sum_z {f : Int → Int} {P : Int} (hf : ∀ p, 0 ≤ p → p < P → 0 ≤ f p) (h : sumZ f P = 0) : ∀ p, 0 ≤ p → p < P → f p = 0 := by
  intro p p0 p1
  have h1 := sumZ_mono (f := f) (n := P) hf (p + 1) (by omega) (by omega)
  have h2 := sumZ_mono (f := f) (n := p) (fun q q0 q1 => hf q q0 (by omega)) 0 (by omega) p0
  have h2 : 0 ≤ sumZ f p := h2
  have h3 : sumZ f (p + 1) = sumZ f p + f p := sumZ_s p0
  have := hf p p0 p1
  omega
theorem sum_0 {f : Int → Int} {P : Int} (hP : 0 ≤ P) (h : ∀ p, 0 ≤ p → p < P → f p = 0) : sumZ f P = 0 := by
  rw [sumZ_congr (g := fun _ => 0) h]
  have := sumZ_bd (f := fun _ => 0) (c := 0) hP (fun i _ _ => ⟨Int.le_refl _, Int.le_refl _⟩)
  omega
theorem ordM_in {σ : Sg} {P J c i : Int} (hM : MH0 σ P J) (hq : 0 ≤ qM σ P J c) (i0 : 0 ≤ i) (i1 : i < tM σ P J c) : BN P c (hsM σ) (σ 99) (cobM σ P J) (whoM σ P J) (mtM σ J) (ordM σ P J c i) := by
  have hb := q_bd (c := c) hM
  have hT : 0 ≤ tM σ P J c ∧ tM σ P J c ≤ 12 := by omega
  obtain ⟨g1, g2, g3, g4⟩ := gt2_ok (c := c) (hs := hsM σ) (so := σ 99) (co := cobM σ P J) (who := whoM σ P J) (mt := mtM σ J) hM.2.1.1
  have e : qM σ P J c = if tM σ P J c ≤ 12 then Lq (UF P c (hsM σ) (σ 99) (cobM σ P J) (whoM σ P J) (mtM σ J) (fun f g => σ 116 (8 * f + g))) (AF P c (hsM σ) (σ 99) (cobM σ P J) (whoM σ P J) (mtM σ J)) (tM σ P J c) 0 else -2 := rfl
  rw [if_pos hT.2] at e
  rw [e] at hq
  have hW := WB_M0 hM hT.2
  have hdz := dnz_ok (A := AF P c (hsM σ) (σ 99) (cobM σ P J) (whoM σ P J) (mtM σ J)) hW hT hq i.toNat (by omega)
  rw [Int.toNat_of_nonneg i0] at hdz
  have hne : dnz (UF P c (hsM σ) (σ 99) (cobM σ P J) (whoM σ P J) (mtM σ J) (fun f g => σ 116 (8 * f + g))) (AF P c (hsM σ) (σ 99) (cobM σ P J) (whoM σ P J) (mtM σ J)) (tM σ P J c) i ≠ pShl 1 (tM σ P J c) - 1 := fun q => by
    have h2 := hdz.2.1
    rw [q, zc_all hT] at h2
    omega
  have hpk := (pck_ok (A := AF P c (hsM σ) (σ 99) (cobM σ P J) (whoM σ P J) (mtM σ J)) hW hT hdz.1.1 (by omega) hdz.2.2).1
  exact g2 _ hpk.1 hpk.2
theorem faM_0 {σ : Sg} {P J c : Int} (hM : MH0 σ P J) (hfl : ∀ p, 0 ≤ p → p < P → 0 ≤ σ 97 p ∧ σ 97 p ≤ 9) (hq : 0 ≤ qM σ P J c) (h : faM σ P J c = 0) : ∀ i, 0 ≤ i → i < tM σ P J c → ordM σ P J c i < 100 → fwM σ P J (ordM σ P J c i) = 0 := by
  intro i i0 i1 hw
  have hP := hM.2.1.1
  have hin := ordM_in hM hq i0 i1
  have hz := sum_z (f := fun p => if cobM σ P J p = c then σ 97 p else 0) (fun p p0 p1 => by have := hfl p p0 p1; split <;> omega) h
  refine sum_0 hP.1 (fun p p0 p1 => ?_)
  have hh := hM.2.1.2.1 p p0 p1
  split
  · rename_i e
    have hc : cobM σ P J p = c := by
      rcases hin with w | w
      · have w3 := w.2.2
        unfold gg1 b2i at w3
        split at w3
        · rename_i z; rw [← z.1, ← e, hh.2.2.2]
        · omega
      · omega
    have := hz p p0 p1
    rwa [if_pos hc] at this
  · rfl
set_option maxRecDepth 20000 in
set_option maxHeartbeats 2000000 in
theorem sp_X10_cobble (d : Nat) (hd : 6 ≤ d) (xs : List (Nat × Nat)) (t dd rr : Nat) (σ : Sg) (p w P J : Int) (hM : MH0 σ P J) (hfl : ∀ p, 0 ≤ p → p < P → 0 ≤ σ 97 p ∧ σ 97 p ≤ 9) (hTn : ∀ j, 0 ≤ j → j < J → 0 ≤ σ 104 j ∧ σ 104 j ≤ 7) : ∃ σ', Ev d 108 [(87, 0), (0, p), (0, w)] (Wd xs t dd rr σ) (0, if (0 ≤ p ∧ p < P) ∧ 0 ≤ w ∧ w ≤ 7 then coV (mny (cobM σ P J) P (cobM σ P J p)) (whM σ P J (cobM σ P J p)) (tM σ P J (cobM σ P J p) - whM σ P J (cobM σ P J p)) (sumZ (fun j => b2i (σ 106 j = -1 ∧ cobM σ P J (σ 102 j / 8) = (cobM σ P J p) ∧ opM σ P J j = 1)) J) (qM σ P J (cobM σ P J p)) (chM σ P J (cobM σ P J p)) (faM σ P J (cobM σ P J p)) w else 0) (Wd xs t dd rr σ') ∧ Fr [107, 108, 109, 110, 111, 112, 113, 114, 115, 117, 118] [(71, 55), (71, 0)] σ σ' ∧ σ' 71 0 = if (0 ≤ p ∧ p < P) ∧ 0 ≤ w ∧ w ≤ 7 then 0 else 1 := by
  obtain ⟨d, rfl⟩ : ∃ e, d = e + 1 := ⟨d - 1, by omega⟩
  obtain ⟨⟨hP, hJ, h0, hJ0, hJB⟩, hHH, hcut, hHJ⟩ := id hM
  refine evS (nL := 5) (code := k_X10_cobble) rfl dc_X10_cobble rfl (fun E hE => ?_)
  show pCm (Ev d) k_X10_cobble E 0 [(87, 0), (0, p), (0, w), (9, 0), (9, 0)] [] _
  refine R_aload rfl rfl rfl ?_
  have J24 : ∀ v : Int, v = (if (0 ≤ p ∧ p < P) ∧ 0 ≤ w ∧ w ≤ 7 then 0 else 1) → pCm (Ev d) k_X10_cobble E 24 [(87, 0), (0, p), (0, w), (9, 0), (9, 0)] [(0, v), (87, 0)] (Wd xs t dd rr σ) := by
    intro v hv
    have hv : v = 0 ∧ ((0 ≤ p ∧ p < P) ∧ 0 ≤ w ∧ w ≤ 7) ∨ v = 1 ∧ ¬ ((0 ≤ p ∧ p < P) ∧ 0 ≤ w ∧ w ≤ 7) := by
      rw [hv]; split <;> omega
    refine T_puti rfl rfl rfl ?_
    generalize hs1 : up2 σ 71 0 v = s1
    have hF1 : Fr [] [(71, 0)] σ s1 := by rw [← hs1]; exact Fr.rf.up rfl
    have eE1 : EM σ s1 := EM_fr hF1 rfl
    have h71 : s1 71 0 = v := by rw [← hs1]; simp [up2]
    refine R_aload rfl rfl rfl ?_
    refine T_geti rfl rfl rfl ?_
    rw [h71]
    refine R_if rfl (fun h31 => ?_) (fun h31 => ?_)
    · try simp only [ne_eq, b2i_e, b2i_1, Classical.not_not] at h31
      refine R_aload rfl rfl rfl ?_
      refine R_iload rfl rfl ?_
      obtain ⟨s2, hev2, hF2⟩ := sp_X10_cobbleOf d (by omega) xs t dd rr s1 p P J (MB_e eE1 hM.1) ⟨by omega, by omega⟩
      rw [cobM_e eE1] at hev2
      have eE2 : EM σ s2 := EM_fr (r := [107]) (sl := [(71, 0)]) (hF1.tr hF2 rfl rfl) rfl
      have hcb := cobM_bd hM.1 p (by omega) (by omega)
      have hF12 : Fr [107] [(71, 0)] σ s2 := hF1.tr hF2 rfl rfl
      refine R_invv rfl rfl rfl rfl rfl rfl (hev2) rfl ?_
      show pCm _ _ _ 41 _ [(0, _)] _
      refine R_istore rfl rfl ?_
      refine R_aload rfl rfl rfl ?_
      refine R_iload rfl rfl ?_
      obtain ⟨s3, hev3, hF3, hc3, h55, ho3⟩ := sp_X10_quarrel d (by omega) xs t dd rr s2 (cobM σ P J p) P J (MH0_e eE2 hM)
      rw [qM_e eE2] at hev3 ho3
      rw [tM_e eE2] at h55 ho3
      rw [ordM_e eE2] at ho3
      rw [cobM_e eE2, whoM_e eE2] at hc3
      have hqb := q_bd (c := (cobM σ P J p)) hM
      have hF13 : Fr [107, 111, 112, 113, 114, 115, 117, 118] [(71, 55), (71, 0)] σ s3 := hF12.tr hF3 rfl rfl
      have e70 : s3 71 0 = v := by rw [hF3.at 71 0 rfl, hF2.row 71 rfl, h71]
      refine R_invv rfl rfl rfl rfl rfl rfl (hev3) rfl ?_
      show pCm _ _ _ 47 _ [(0, _)] _
      refine R_istore rfl rfl ?_
      have eE3 : EM σ s3 := EM_fr hF13 rfl
      have htc : tM σ P J (cobM σ P J p) ≤ 8 * P := gt_cap hHH hHJ (by omega) (Int.le_refl _)
      refine R_iload rfl rfl ?_
      refine R_tswL rfl ⟨fun h50 => ?_, fun h50 => ?_, fun h50 => ?_, fun h50 => ?_, fun h50 => ?_, fun h50 => ?_, fun h50 => ?_, trivial⟩ (fun h50 => ?_)
      · try dsimp only at h50
        try dsimp only at h50
        refine R_aload rfl rfl rfl ?_
        refine R_iload rfl rfl ?_
        have hmy := sp_X10_manyOf d (by omega) xs t dd rr s3 (cobM σ P J p) P (by rw [hF13.at 71 26 rfl]; exact hP) h0.1 h0.2
        rw [show sumZ (fun q => b2i (s3 111 q = (cobM σ P J p))) P = mny (cobM σ P J) P (cobM σ P J p) from sumZ_congr (fun q q0 q1 => by rw [(hc3 q q0 q1).1])] at hmy
        refine R_invv rfl rfl rfl rfl rfl rfl (hmy) rfl ?_
        show pCm _ _ _ 97 _ [(0, _)] _
        refine R_iret rfl ?_
        refine hE _ _ (Eq.symm (congrArg (Prod.mk 0) ((if_pos ⟨⟨by omega, by omega⟩, by omega, by omega⟩).trans ?_))) ⟨hF13.tr (r2 := []) (s2 := []) Fr.rf rfl rfl, by rw [e70, if_pos (by omega)]; omega⟩
        unfold coV
        rw [if_pos (by omega)]
      · try dsimp only at h50
        refine R_aload rfl rfl rfl ?_
        refine R_iload rfl rfl ?_
        have hwo := sp_X10_wholesOf d (by omega) xs t dd rr s3 (cobM σ P J p) P (by rw [hF13.at 71 26 rfl]; exact hP) h0
        rw [(show sumZ (fun q => b2i (s3 111 q = (cobM σ P J p) ∧ s3 112 q = q)) P = whM σ P J (cobM σ P J p) from sumZ_congr (fun q q0 q1 => by rw [(hc3 q q0 q1).1, (hc3 q q0 q1).2]))] at hwo
        have hwb : 0 ≤ whM σ P J (cobM σ P J p) ∧ whM σ P J (cobM σ P J p) ≤ 40 := by
          have := sumZ_bd (f := fun q => b2i (cobM σ P J q = (cobM σ P J p) ∧ whoM σ P J q = q)) (c := 1) h0.1 (fun _ _ _ => b2i_bd)
          unfold whM; omega
        refine R_invv rfl rfl rfl rfl rfl rfl (hwo) rfl ?_
        show pCm _ _ _ 103 _ [(0, _)] _
        refine R_iret rfl ?_
        refine hE _ _ (Eq.symm (congrArg (Prod.mk 0) ((if_pos ⟨⟨by omega, by omega⟩, by omega, by omega⟩).trans ?_))) ⟨hF13.tr (r2 := []) (s2 := []) Fr.rf rfl rfl, by rw [e70, if_pos (by omega)]; omega⟩
        unfold coV
        rw [if_neg (by omega), if_pos (by omega)]
      · try dsimp only at h50
        refine R_aload rfl rfl rfl ?_
        refine T_geti rfl rfl rfl ?_
        rw [h55]
        refine R_aload rfl rfl rfl ?_
        refine R_iload rfl rfl ?_
        have hwo := sp_X10_wholesOf d (by omega) xs t dd rr s3 (cobM σ P J p) P (by rw [hF13.at 71 26 rfl]; exact hP) h0
        rw [(show sumZ (fun q => b2i (s3 111 q = (cobM σ P J p) ∧ s3 112 q = q)) P = whM σ P J (cobM σ P J p) from sumZ_congr (fun q q0 q1 => by rw [(hc3 q q0 q1).1, (hc3 q q0 q1).2]))] at hwo
        have hwb : 0 ≤ whM σ P J (cobM σ P J p) ∧ whM σ P J (cobM σ P J p) ≤ 40 := by
          have := sumZ_bd (f := fun q => b2i (cobM σ P J q = (cobM σ P J p) ∧ whoM σ P J q = q)) (c := 1) h0.1 (fun _ _ _ => b2i_bd)
          unfold whM; omega
        refine R_invv rfl rfl rfl rfl rfl rfl (hwo) rfl ?_
        show pCm _ _ _ 113 _ [(0, _), (0, _)] _
        refine R_sub rfl (by omega) (by omega) ?_
        refine R_iret rfl ?_
        refine hE _ _ (Eq.symm (congrArg (Prod.mk 0) ((if_pos ⟨⟨by omega, by omega⟩, by omega, by omega⟩).trans ?_))) ⟨hF13.tr (r2 := []) (s2 := []) Fr.rf rfl rfl, by rw [e70, if_pos (by omega)]; omega⟩
        unfold coV
        rw [if_neg (by omega), if_neg (by omega), if_pos (by omega)]
      · try dsimp only at h50
        refine R_aload rfl rfl rfl ?_
        refine R_iload rfl rfl ?_
        obtain ⟨s4, hev4, hF4⟩ := sp_X10_openIn d (by omega) xs t dd rr s3 (cobM σ P J p) P J (MB_e eE3 hM.1) (by rw [hF13.fn 104 rfl]; exact hTn)
        rw [show sumZ (fun j => b2i (s3 106 j = -1 ∧ s3 111 (s3 102 j / 8) = (cobM σ P J p) ∧ opM s3 P J j = 1)) J = sumZ (fun j => b2i (σ 106 j = -1 ∧ cobM σ P J (σ 102 j / 8) = (cobM σ P J p) ∧ opM σ P J j = 1)) J from sumZ_congr (fun j j0 j1 => by
          have := hJB j j0 j1
          rw [hF13.row 106 rfl, hF13.row 102 rfl, (hc3 (σ 102 j / 8) (by omega) (by omega)).1, opM_fr (hF13.fn 106 rfl) (hF13.fn 102 rfl) (hF13.fn 103 rfl) (hF13.fn 104 rfl)])] at hev4
        refine R_invv rfl rfl rfl rfl rfl rfl (hev4) rfl ?_
        show pCm _ _ _ 120 _ [(0, _)] _
        refine R_iret rfl ?_
        refine hE _ _ (Eq.symm (congrArg (Prod.mk 0) ((if_pos ⟨⟨by omega, by omega⟩, by omega, by omega⟩).trans ?_))) ⟨hF13.tr hF4 rfl rfl, by rw [hF4.row 71 rfl, e70, if_pos (by omega)]; omega⟩
        unfold coV
        rw [if_neg (by omega), if_neg (by omega), if_neg (by omega), if_pos (by omega)]
      · try dsimp only at h50
        refine R_iload rfl rfl ?_
        refine R_if rfl (fun h123 => ?_) (fun h123 => ?_)
        · try simp only [ne_eq, b2i_e, b2i_1, Classical.not_not] at h123
          refine R_iload rfl rfl ?_
          refine R_iret rfl ?_
          refine hE _ _ (Eq.symm (congrArg (Prod.mk 0) ((if_pos ⟨⟨by omega, by omega⟩, by omega, by omega⟩).trans ?_))) ⟨hF13.tr (r2 := []) (s2 := []) Fr.rf rfl rfl, by rw [e70, if_pos (by omega)]; omega⟩
          unfold coV
          rw [if_neg (by omega), if_neg (by omega), if_neg (by omega), if_neg (by omega), if_pos (by omega)]
          first | rw [if_pos (by omega)] | rw [if_neg (by omega)]
        · try simp only [ne_eq, b2i_e, b2i_1, Classical.not_not] at h123
          refine R_push rfl ?_
          refine R_goto rfl ?_
          refine R_iret rfl ?_
          refine hE _ _ (Eq.symm (congrArg (Prod.mk 0) ((if_pos ⟨⟨by omega, by omega⟩, by omega, by omega⟩).trans ?_))) ⟨hF13.tr (r2 := []) (s2 := []) Fr.rf rfl rfl, by rw [e70, if_pos (by omega)]; omega⟩
          unfold coV
          rw [if_neg (by omega), if_neg (by omega), if_neg (by omega), if_neg (by omega), if_pos (by omega)]
          first | rw [if_pos (by omega)] | rw [if_neg (by omega)]
      · try dsimp only at h50
        refine R_iload rfl rfl ?_
        refine R_push rfl ?_
        refine R_ic rfl (fun h136 => ?_) (fun h136 => ?_)
        · try simp only [ne_eq, b2i_e, b2i_1, Classical.not_not] at h136
          refine R_push rfl ?_
          refine R_iret rfl ?_
          refine hE _ _ (Eq.symm (congrArg (Prod.mk 0) ((if_pos ⟨⟨by omega, by omega⟩, by omega, by omega⟩).trans ?_))) ⟨hF13.tr (r2 := []) (s2 := []) Fr.rf rfl rfl, by rw [e70, if_pos (by omega)]; omega⟩
          unfold coV
          rw [if_neg (by omega), if_neg (by omega), if_neg (by omega), if_neg (by omega), if_neg (by omega), if_pos (by omega)]
          first | rw [b2i_t (by omega)] | rw [b2i_f (by omega)]
        · try simp only [ne_eq, b2i_e, b2i_1, Classical.not_not] at h136
          refine R_push rfl ?_
          refine R_goto rfl ?_
          refine R_iret rfl ?_
          refine hE _ _ (Eq.symm (congrArg (Prod.mk 0) ((if_pos ⟨⟨by omega, by omega⟩, by omega, by omega⟩).trans ?_))) ⟨hF13.tr (r2 := []) (s2 := []) Fr.rf rfl rfl, by rw [e70, if_pos (by omega)]; omega⟩
          unfold coV
          rw [if_neg (by omega), if_neg (by omega), if_neg (by omega), if_neg (by omega), if_neg (by omega), if_pos (by omega)]
          first | rw [b2i_t (by omega)] | rw [b2i_f (by omega)]
      · try dsimp only at h50
        refine R_iload rfl rfl ?_
        refine R_if rfl (fun h147 => ?_) (fun h147 => ?_)
        · try simp only [ne_eq, b2i_e, b2i_1, Classical.not_not] at h147
          refine R_aload rfl rfl rfl ?_
          refine R_iload rfl rfl ?_
          have hch := sp_X10_change d (by omega) xs t dd rr s3 (cobM σ P J p) P (tM σ P J (cobM σ P J p)) (by rw [hF13.at 71 26 rfl]; exact hP) h0 (by rw [hF13.fn 97 rfl]; exact hfl) h55 ⟨hqb.1, by omega⟩ (ordM σ P J (cobM σ P J p)) (fwM σ P J) (ho3 (by omega)) (fun y => by
            unfold fwM
            exact sumZ_congr (fun q q0 q1 => by rw [(hc3 q q0 q1).2, hF13.row 97 rfl])) (whM σ P J (cobM σ P J p)) (faM σ P J (cobM σ P J p)) (show sumZ (fun q => b2i (s3 111 q = (cobM σ P J p) ∧ s3 112 q = q)) P = whM σ P J (cobM σ P J p) from sumZ_congr (fun q q0 q1 => by rw [(hc3 q q0 q1).1, (hc3 q q0 q1).2])) (show sumZ (fun q => if s3 111 q = (cobM σ P J p) then s3 97 q else 0) P = faM σ P J (cobM σ P J p) from sumZ_congr (fun q q0 q1 => by rw [(hc3 q q0 q1).1, hF13.row 97 rfl])) (faM_0 hM hfl (by omega))
          have hch : Ev d 106 [(87, 0), (0, (cobM σ P J p))] (Wd xs t dd rr s3) (0, chM σ P J (cobM σ P J p)) (Wd xs t dd rr s3) := hch
          refine R_invv rfl rfl rfl rfl rfl rfl (hch) rfl ?_
          show pCm _ _ _ 159 _ [(0, _)] _
          refine R_iret rfl ?_
          refine hE _ _ (Eq.symm (congrArg (Prod.mk 0) ((if_pos ⟨⟨by omega, by omega⟩, by omega, by omega⟩).trans ?_))) ⟨hF13.tr (r2 := []) (s2 := []) Fr.rf rfl rfl, by rw [e70, if_pos (by omega)]; omega⟩
          unfold coV
          rw [if_neg (by omega), if_neg (by omega), if_neg (by omega), if_neg (by omega), if_neg (by omega), if_neg (by omega), if_pos (by omega)]
          first | rw [if_pos (by omega)] | rw [if_neg (by omega)]
        · try simp only [ne_eq, b2i_e, b2i_1, Classical.not_not] at h147
          refine R_push rfl ?_
          refine R_goto rfl ?_
          refine R_iret rfl ?_
          refine hE _ _ (Eq.symm (congrArg (Prod.mk 0) ((if_pos ⟨⟨by omega, by omega⟩, by omega, by omega⟩).trans ?_))) ⟨hF13.tr (r2 := []) (s2 := []) Fr.rf rfl rfl, by rw [e70, if_pos (by omega)]; omega⟩
          unfold coV
          rw [if_neg (by omega), if_neg (by omega), if_neg (by omega), if_neg (by omega), if_neg (by omega), if_neg (by omega), if_pos (by omega)]
          first | rw [if_pos (by omega)] | rw [if_neg (by omega)]
      · try dsimp only at h50
        refine R_aload rfl rfl rfl ?_
        refine R_iload rfl rfl ?_
        have hfo := sp_X10_faultsOf d (by omega) xs t dd rr s3 (cobM σ P J p) P (by rw [hF13.at 71 26 rfl]; exact hP) h0 (by rw [hF13.fn 97 rfl]; exact hfl)
        rw [(show sumZ (fun q => if s3 111 q = (cobM σ P J p) then s3 97 q else 0) P = faM σ P J (cobM σ P J p) from sumZ_congr (fun q q0 q1 => by rw [(hc3 q q0 q1).1, hF13.row 97 rfl]))] at hfo
        refine R_invv rfl rfl rfl rfl rfl rfl (hfo) rfl ?_
        show pCm _ _ _ 165 _ [(0, _)] _
        refine R_iret rfl ?_
        have h50x : w < 0 ∨ 0 + 7 ≤ w := h50
        refine hE _ _ (Eq.symm (congrArg (Prod.mk 0) ((if_pos ⟨⟨by omega, by omega⟩, by omega, by omega⟩).trans ?_))) ⟨hF13.tr (r2 := []) (s2 := []) Fr.rf rfl rfl, by rw [e70, if_pos (by omega)]; omega⟩
        unfold coV
        rw [if_neg (by omega), if_neg (by omega), if_neg (by omega), if_neg (by omega), if_neg (by omega), if_neg (by omega), if_neg (by omega)]
    · try simp only [ne_eq, b2i_e, b2i_1, Classical.not_not] at h31
      refine R_push rfl ?_
      refine R_iret rfl ?_
      exact hE _ _ (by rw [if_neg (by omega)]) ⟨hF1.tr (r2 := []) (s2 := []) Fr.rf rfl rfl, by rw [h71, if_neg (by omega)]; omega⟩
  refine R_aload rfl rfl rfl ?_
  refine R_iload rfl rfl ?_
  refine R_invv rfl rfl rfl rfl rfl rfl (sp_X10_isPiece d (by omega) xs t dd rr σ p P hP) rfl ?_
  show pCm _ _ _ 6 _ [(0, _), (87, 0)] _
  refine R_if rfl (fun h6 => ?_) (fun h6 => ?_)
  · try simp only [ne_eq, b2i_e, b2i_1, Classical.not_not] at h6
    refine R_push rfl ?_
    exact J24 _ (by first | rw [if_pos (by omega)] | rw [if_neg (by omega)])
  · try simp only [ne_eq, b2i_e, b2i_1, Classical.not_not] at h6
    refine R_iload rfl rfl ?_
    refine R_push rfl ?_
    refine R_push rfl ?_
    refine R_inv rfl rfl rfl rfl rfl (sp_X10_within d (by omega) _ _ _ _) rfl ?_
    show pCm _ _ _ 16 _ [(0, _), (87, 0)] _
    refine R_if rfl (fun h16 => ?_) (fun h16 => ?_)
    · try simp only [ne_eq, b2i_e, b2i_1, Classical.not_not] at h16
      refine R_push rfl ?_
      exact J24 _ (by first | rw [if_pos (by omega)] | rw [if_neg (by omega)])
    · try simp only [ne_eq, b2i_e, b2i_1, Classical.not_not] at h16
      refine R_push rfl ?_
      refine R_goto rfl ?_
      exact J24 _ (by first | rw [if_pos (by omega)] | rw [if_neg (by omega)])

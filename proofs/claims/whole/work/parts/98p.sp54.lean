/-- rows of the reference that tell pieces' faces, joins and cuts are the same -/
def EM (σ s : Sg) : Prop := s 98 = σ 98 ∧ s 99 = σ 99 ∧ s 102 = σ 102 ∧ s 103 = σ 103 ∧ s 106 = σ 106 ∧ s 116 = σ 116 ∧ s 71 26 = σ 71 26 ∧ s 71 43 = σ 71 43
theorem EM_fr {σ s : Sg} {r : List Nat} {sl : List (Nat × Int)} (hF : Fr r sl σ s) (h : ([98, 99, 102, 103, 106, 116].all (fun k => !(r.contains k || sl.any (fun q => q.1 == k))) && !(r.contains 71 || sl.contains (71, 26)) && !(r.contains 71 || sl.contains (71, 43))) = true) : EM σ s := by
  simp only [List.all_cons, List.all_nil, Bool.and_eq_true, Bool.not_eq_true', Bool.and_true] at h
  obtain ⟨⟨⟨h1, h2, h3, h4, h5, h6⟩, h7⟩, h8⟩ := h
  exact ⟨hF.fn 98 h1, hF.fn 99 h2, hF.fn 102 h3, hF.fn 103 h4, hF.fn 106 h5, hF.fn 116 h6, hF.at 71 26 h7, hF.at 71 43 h8⟩
theorem cobM_e {σ s : Sg} {P J : Int} (h : EM σ s) : cobM s P J = cobM σ P J := cobM_fr h.2.2.2.2.1 h.2.2.1 h.2.2.2.1
theorem whoM_e {σ s : Sg} {P J : Int} (h : EM σ s) : whoM s P J = whoM σ P J := whoM_fr h.2.1 h.2.2.2.2.1 h.2.2.1 h.2.2.2.1
theorem hsM_e {σ s : Sg} (h : EM σ s) : hsM s = hsM σ := hsM_fr h.1
theorem mtM_e {σ s : Sg} {J : Int} (h : EM σ s) : mtM s J = mtM σ J := mtM_fr h.2.2.2.2.1 h.2.2.1 h.2.2.2.1
theorem MB_e {σ s : Sg} {P J : Int} (h : EM σ s) (hM : MB σ P J) : MB s P J := MB_fr hM h.2.2.2.2.2.2.1 h.2.2.2.2.2.2.2 h.2.2.1 h.2.2.2.1
theorem MH0_e {σ s : Sg} {P J : Int} (h : EM σ s) (hM : MH0 σ P J) : MH0 s P J := by
  unfold MH0
  rw [hsM_e h, cobM_e h, whoM_e h, mtM_e h, h.2.2.2.2.2.1]
  exact ⟨MB_e h hM.1, hM.2⟩
theorem qM_e {σ s : Sg} {P J c : Int} (h : EM σ s) : qM s P J c = qM σ P J c := by
  unfold qM
  rw [hsM_e h, cobM_e h, whoM_e h, mtM_e h, h.2.2.2.2.2.1, h.2.1]
theorem ordM_e {σ s : Sg} {P J c : Int} (h : EM σ s) : ordM s P J c = ordM σ P J c := by
  unfold ordM
  rw [hsM_e h, cobM_e h, whoM_e h, mtM_e h, h.2.2.2.2.2.1, h.2.1]
theorem tM_e {σ s : Sg} {P J c : Int} (h : EM σ s) : tM s P J c = tM σ P J c := by
  unfold tM
  rw [hsM_e h, cobM_e h, whoM_e h, mtM_e h, h.2.1]
theorem q_bd {σ : Sg} {P J c : Int} (hM : MH0 σ P J) : 0 ≤ tM σ P J c ∧ (qM σ P J c = -2 ∧ 12 < tM σ P J c ∨ tM σ P J c ≤ 12 ∧ -1 ≤ qM σ P J c ∧ qM σ P J c ≤ 460800) := by
  have hT0 : 0 ≤ tM σ P J c := (gt2_ok (c := c) (hs := hsM σ) (so := σ 99) (co := cobM σ P J) (who := whoM σ P J) (mt := mtM σ J) hM.2.1.1).1
  refine ⟨hT0, ?_⟩
  have e : qM σ P J c = if tM σ P J c ≤ 12 then Lq (UF P c (hsM σ) (σ 99) (cobM σ P J) (whoM σ P J) (mtM σ J) (fun f g => σ 116 (8 * f + g))) (AF P c (hsM σ) (σ 99) (cobM σ P J) (whoM σ P J) (mtM σ J)) (tM σ P J c) 0 else -2 := rfl
  by_cases q : tM σ P J c ≤ 12
  · rw [if_pos q] at e
    rw [e]
    have hi : ∀ f, 0 ≤ f → f < 8 * P → hsM σ f = 1 → cobM σ P J (f / 8) = c → 0 ≤ bl P (σ 99) (cobM σ P J) (whoM σ P J) (mtM σ J) f → 0 ≤ idx (gt2 P c (hsM σ) (σ 99) (cobM σ P J) (whoM σ P J) (mtM σ J) (8 * P)).2 (gt2 P c (hsM σ) (σ 99) (cobM σ P J) (whoM σ P J) (mtM σ J) (8 * P)).1 (bl P (σ 99) (cobM σ P J) (whoM σ P J) (mtM σ J) f) ∧ idx (gt2 P c (hsM σ) (σ 99) (cobM σ P J) (whoM σ P J) (mtM σ J) (8 * P)).2 (gt2 P c (hsM σ) (σ 99) (cobM σ P J) (whoM σ P J) (mtM σ J) (8 * P)).1 (bl P (σ 99) (cobM σ P J) (whoM σ P J) (mtM σ J) f) < 12 := fun f f0 f1 hf hc hb => by
      have := idx_in (c := c) hM.2.1.1 (bl_in (so := σ 99) hM.2.1 f0 f1 hf hc hb)
      have q' : (gt2 P c (hsM σ) (σ 99) (cobM σ P J) (whoM σ P J) (mtM σ J) (8 * P)).1 ≤ 12 := q
      exact ⟨this.1, by omega⟩
    have h0 := hM.2.1.1
    have hwo := wgt_ok (R := (gt2 P c (hsM σ) (σ 99) (cobM σ P J) (whoM σ P J) (mtM σ J) (8 * P)).2) (T := (gt2 P c (hsM σ) (σ 99) (cobM σ P J) (whoM σ P J) (mtM σ J) (8 * P)).1) (P := P) (c := c) (hs := hsM σ) (so := σ 99) (co := cobM σ P J) (who := whoM σ P J) (mt := mtM σ J) (cw := fun f g => σ 116 (8 * f + g)) h0 (fun f f0 f1 g g0 g1 hf hc hw b1 b2 => by
      have h2 := ((hM.2.2.1 f g f0 f1 g0 g1).2 hw).2
      exact ⟨hi f f0 f1 hf hc b1, hi (f / 8 * 8 + g) (by omega) (by omega) h2 (by rw [show (f / 8 * 8 + g) / 8 = f / 8 by omega]; exact hc) b2⟩) (fun f f0 f1 g g0 g1 => (hM.2.2.1 f g f0 f1 g0 g1).1.2) (8 * P).toNat (by omega)
    rw [Int.toNat_of_nonneg (by omega)] at hwo
    have hW : WB (UF P c (hsM σ) (σ 99) (cobM σ P J) (whoM σ P J) (mtM σ J) (fun f g => σ 116 (8 * f + g))) := ⟨hwo.1, fun k k0 k1 => by
      have := hwo.2 k k0 k1
      have e : sumZ (fun j => UF P c (hsM σ) (σ 99) (cobM σ P J) (whoM σ P J) (mtM σ J) (fun f g => σ 116 (8 * f + g)) (12 * k + j)) 12 ≤ 120 * (8 * P) := this
      omega⟩
    have := Lq_bd (A := AF P c (hsM σ) (σ 99) (cobM σ P J) (whoM σ P J) (mtM σ J)) (dn := 0) hW ⟨hT0, q⟩
    exact Or.inr ⟨q, this⟩
  · rw [if_neg q] at e; exact Or.inl ⟨e, by omega⟩
set_option maxRecDepth 20000 in
set_option maxHeartbeats 2000000 in
theorem sp_X10_blow (d : Nat) (hd : 6 ≤ d) (xs : List (Nat × Nat)) (t dd rr : Nat) (σ : Sg) (p i P J : Int) (hM : MH0 σ P J) : ∃ σ', Ev d 110 [(87, 0), (0, p), (0, i)] (Wd xs t dd rr σ) (0, if (0 ≤ p ∧ p < P) ∧ 0 ≤ qM σ P J (cobM σ P J p) ∧ 0 ≤ i ∧ i < tM σ P J (cobM σ P J p) then ordM σ P J (cobM σ P J p) i else -1) (Wd xs t dd rr σ') ∧ Fr [107, 111, 112, 113, 114, 115, 117, 118] [(71, 55), (71, 0)] σ σ' ∧ σ' 71 0 = 0 := by
  obtain ⟨d, rfl⟩ : ∃ e, d = e + 1 := ⟨d - 1, by omega⟩
  obtain ⟨⟨hP, hJ, h0, hJ0, hJB⟩, hHH, hcut, hHJ⟩ := id hM
  refine evS (nL := 4) (code := k_X10_blow) rfl dc_X10_blow rfl (fun E hE => ?_)
  show pCm (Ev d) k_X10_blow E 0 [(87, 0), (0, p), (0, i), (9, 0)] [] _
  refine R_aload rfl rfl rfl ?_
  refine R_push rfl ?_
  refine T_puti rfl rfl rfl ?_
  generalize hs1 : up2 σ 71 0 0 = s1
  have hF1 : Fr [] [(71, 0)] σ s1 := by rw [← hs1]; exact Fr.rf.up rfl
  have eE1 : EM σ s1 := EM_fr hF1 rfl
  have h71 : s1 71 0 = 0 := by rw [← hs1]; simp [up2]
  refine R_aload rfl rfl rfl ?_
  refine R_iload rfl rfl ?_
  refine R_invv rfl rfl rfl rfl rfl rfl (sp_X10_isPiece d (by omega) xs t dd rr s1 p P (by rw [hF1.at 71 26 rfl]; exact hP)) rfl ?_
  show pCm _ _ _ 10 _ [(0, _)] _
  refine R_if rfl (fun h10 => ?_) (fun h10 => ?_)
  · try simp only [ne_eq, b2i_e, b2i_1, Classical.not_not] at h10
    refine R_push rfl ?_
    refine R_iret rfl ?_
    exact hE _ _ (by rw [if_neg (by omega)]) ⟨hF1.tr (r2 := []) (s2 := []) Fr.rf rfl rfl, h71⟩
  · try simp only [ne_eq, b2i_e, b2i_1, Classical.not_not] at h10
    refine R_iload rfl rfl ?_
    refine R_if rfl (fun h14 => ?_) (fun h14 => ?_)
    · try simp only [ne_eq, b2i_e, b2i_1, Classical.not_not] at h14
      refine R_aload rfl rfl rfl ?_
      refine R_aload rfl rfl rfl ?_
      refine R_iload rfl rfl ?_
      obtain ⟨s2, hev2, hF2⟩ := sp_X10_cobbleOf d (by omega) xs t dd rr s1 p P J (MB_e eE1 hM.1) ⟨by omega, by omega⟩
      rw [cobM_e eE1] at hev2
      have eE2 : EM σ s2 := EM_fr (r := [107]) (sl := [(71, 0)]) (hF1.tr hF2 rfl rfl) rfl
      have hcb := cobM_bd hM.1 p (by omega) (by omega)
      have hF12 : Fr [107] [(71, 0)] σ s2 := hF1.tr hF2 rfl rfl
      refine R_invv rfl rfl rfl rfl rfl rfl (hev2) rfl ?_
      show pCm _ _ _ 25 _ [(0, _), (87, 0)] _
      obtain ⟨s3, hev3, hF3, hc3, h55, ho3⟩ := sp_X10_quarrel d (by omega) xs t dd rr s2 (cobM σ P J p) P J (MH0_e eE2 hM)
      rw [qM_e eE2] at hev3 ho3
      rw [tM_e eE2] at h55 ho3
      rw [ordM_e eE2] at ho3
      rw [cobM_e eE2, whoM_e eE2] at hc3
      have hqb := q_bd (c := (cobM σ P J p)) hM
      have hF13 : Fr [107, 111, 112, 113, 114, 115, 117, 118] [(71, 55), (71, 0)] σ s3 := hF12.tr hF3 rfl rfl
      have e70 : s3 71 0 = 0 := by rw [hF3.at 71 0 rfl, hF2.row 71 rfl, h71]
      refine R_invv rfl rfl rfl rfl rfl rfl (hev3) rfl ?_
      show pCm _ _ _ 28 _ [(0, _)] _
      refine R_istore rfl rfl ?_
      refine R_iload rfl rfl ?_
      refine R_if rfl (fun h30 => ?_) (fun h30 => ?_)
      · try simp only [ne_eq, b2i_e, b2i_1, Classical.not_not] at h30
        refine R_push rfl ?_
        refine R_goto rfl ?_
        refine R_iret rfl ?_
        first
        | exact hE _ _ (by rw [if_neg (by omega)]) ⟨hF13, e70⟩
        | exact hE _ _ (by rw [if_pos (by omega)]) ⟨hF13, e70⟩
      · try simp only [ne_eq, b2i_e, b2i_1, Classical.not_not] at h30
        refine R_iload rfl rfl ?_
        refine R_aload rfl rfl rfl ?_
        refine T_geti rfl rfl rfl ?_
        rw [h55]
        refine R_ic rfl (fun h38 => ?_) (fun h38 => ?_)
        · try simp only [ne_eq, b2i_e, b2i_1, Classical.not_not] at h38
          refine R_aload rfl rfl rfl ?_
          refine T_getr (v := 134) rfl rfl rfl rfl ?_
          refine R_iload rfl rfl ?_
          refine T_ald rfl rfl (by omega) (by omega) ?_
          rw [ho3 (by omega) i (by omega) (by omega)]
          refine R_iret rfl ?_
          first
          | exact hE _ _ (by rw [if_neg (by omega)]) ⟨hF13, e70⟩
          | exact hE _ _ (by rw [if_pos (by omega)]) ⟨hF13, e70⟩
        · try simp only [ne_eq, b2i_e, b2i_1, Classical.not_not] at h38
          refine R_push rfl ?_
          refine R_goto rfl ?_
          refine R_iret rfl ?_
          first
          | exact hE _ _ (by rw [if_neg (by omega)]) ⟨hF13, e70⟩
          | exact hE _ _ (by rw [if_pos (by omega)]) ⟨hF13, e70⟩
    · try simp only [ne_eq, b2i_e, b2i_1, Classical.not_not] at h14
      refine R_push rfl ?_
      refine R_iret rfl ?_
      exact hE _ _ (by rw [if_neg (by omega)]) ⟨hF1.tr (r2 := []) (s2 := []) Fr.rf rfl rfl, h71⟩
set_option maxRecDepth 20000 in
set_option maxHeartbeats 2000000 in
theorem sp_X10_of (d : Nat) (hd : 4 ≤ d) (xs : List (Nat × Nat)) (t dd rr : Nat) (σ : Sg) (f w P J : Int) (hf : f < 2147483648) (hM : MH0 σ P J) (hnr : 0 ≤ σ 71 25 ∧ σ 71 25 ≤ 400) (hrm : ∀ k, 0 ≤ k → k < 8 → 0 ≤ σ 100 (8 * f + k) ∧ σ 100 (8 * f + k) ≤ 255) : ∃ σ', Ev d 111 [(87, 0), (0, f), (0, w)] (Wd xs t dd rr σ) (0, if (0 ≤ f ∧ f / 8 < P ∧ f % 8 < σ 98 (f / 8)) ∧ 0 ≤ w ∧ w ≤ 4 then ofV (σ 99 f) (mtM σ J f) (bl P (σ 99) (cobM σ P J) (whoM σ P J) (mtM σ J) f) (sumZ (fun k => σ 100 (8 * f + k)) 8) (σ 71 25) w else 0) (Wd xs t dd rr σ') ∧ Fr [107, 111, 112] [(71, 0)] σ σ' ∧ σ' 71 0 = if (0 ≤ f ∧ f / 8 < P ∧ f % 8 < σ 98 (f / 8)) ∧ 0 ≤ w ∧ w ≤ 4 then 0 else 1 := by
  obtain ⟨d, rfl⟩ : ∃ e, d = e + 1 := ⟨d - 1, by omega⟩
  obtain ⟨⟨hP, hJ, h0, hJ0, hJB⟩, hHH, hcut, hHJ⟩ := id hM
  refine evS (nL := 6) (code := k_X10_of) rfl dc_X10_of rfl (fun E hE => ?_)
  show pCm (Ev d) k_X10_of E 0 [(87, 0), (0, f), (0, w), (9, 0), (9, 0), (9, 0)] [] _
  refine R_aload rfl rfl rfl ?_
  have J23 : ∀ v : Int, v = (if (0 ≤ f ∧ f / 8 < P ∧ f % 8 < σ 98 (f / 8)) ∧ 0 ≤ w ∧ w ≤ 4 then 0 else 1) → pCm (Ev d) k_X10_of E 23 [(87, 0), (0, f), (0, w), (9, 0), (9, 0), (9, 0)] [(0, v), (87, 0)] (Wd xs t dd rr σ) := by
    intro v hv
    have hv : v = 0 ∧ ((0 ≤ f ∧ f / 8 < P ∧ f % 8 < σ 98 (f / 8)) ∧ 0 ≤ w ∧ w ≤ 4) ∨ v = 1 ∧ ¬ ((0 ≤ f ∧ f / 8 < P ∧ f % 8 < σ 98 (f / 8)) ∧ 0 ≤ w ∧ w ≤ 4) := by
      rw [hv]; split <;> omega
    refine T_puti rfl rfl rfl ?_
    generalize hs1 : up2 σ 71 0 v = s1
    have hF1 : Fr [] [(71, 0)] σ s1 := by rw [← hs1]; exact Fr.rf.up rfl
    have eE1 : EM σ s1 := EM_fr hF1 rfl
    have h71 : s1 71 0 = v := by rw [← hs1]; simp [up2]
    refine R_aload rfl rfl rfl ?_
    refine T_geti rfl rfl rfl ?_
    rw [h71]
    refine R_if rfl (fun h30 => ?_) (fun h30 => ?_)
    · try simp only [ne_eq, b2i_e, b2i_1, Classical.not_not] at h30
      refine R_aload rfl rfl rfl ?_
      obtain ⟨s2, hev2, hF2, hc2⟩ := sp_X10_findHeaps d (by omega) xs t dd rr s1 P J (MB_e eE1 hM.1)
      have hMH := MH_of (MH0_e eE1 hM) hF2 hc2
      have hF12 : Fr [107, 111, 112] [(71, 0)] σ s2 := hF1.tr hF2 rfl rfl
      have eE2 : EM σ s2 := EM_fr hF12 rfl
      rw [cobM_e eE1, whoM_e eE1] at hc2
      have e70 : s2 71 0 = v := by rw [hF2.row 71 rfl, h71]
      refine R_invv rfl rfl rfl rfl rfl rfl (hev2) rfl ?_
      show pCm _ _ _ 39 _ [] _
      refine R_aload rfl rfl rfl ?_
      refine R_iload rfl rfl ?_
      have hs1 : hsM s2 f = 1 := by rw [hsM_e eE2]; exact b2i_t (by omega)
      have hbo := sp_X10_blowOf d (by omega) xs t dd rr s2 P J hMH f ⟨by omega, by omega⟩ hs1
      have hcg : CG P (hsM s2) (s2 99) (s2 111) (s2 112) (mtM s2 J) (hsM σ) (σ 99) (cobM σ P J) (whoM σ P J) (mtM σ J) := by
        rw [hsM_e eE2, mtM_e eE2, eE2.2.1]
        exact ⟨hc2, fun f _ _ => ⟨rfl, rfl, fun _ => rfl⟩⟩
      rw [show blM s2 P J f = bl P (σ 99) (cobM σ P J) (whoM σ P J) (mtM σ J) f from bl_c hMH.2.1 hcg (by omega) (by omega) hs1] at hbo
      refine R_invv rfl rfl rfl rfl rfl rfl (hbo) rfl ?_
      show pCm _ _ _ 44 _ [(0, _)] _
      refine R_istore rfl rfl ?_
      refine R_push rfl ?_
      refine R_istore rfl rfl ?_
      refine R_push rfl ?_
      refine R_istore rfl rfl ?_
      refine loop (pc := 51) (α := Int × Int) (fun x => (8 - x.2).toNat) (fun x => ([(87, 0), (0, f), (0, w), (0, bl P (σ 99) (cobM σ P J) (whoM σ P J) (mtM σ J) f), (0, x.1), (0, x.2)], Wd xs t dd rr s2)) (fun x => (0 ≤ x.2 ∧ x.2 ≤ 8) ∧ x.1 = sumZ (fun k => σ 100 (8 * f + k)) x.2) ?_ (0, 0) ?_
      · intro ⟨n, k⟩ ⟨⟨hk0, hk1⟩, hn⟩ ih
        dsimp only at hk0 hk1 hn ⊢
        have hss := sumZ_s (f := fun k => σ 100 (8 * f + k)) hk0
        have hsb := sumZ_bd (f := fun k => σ 100 (8 * f + k)) (c := 255) hk0 (fun q q0 q1 => hrm q q0 (by omega))
        rw [← hn] at hss hsb
        have hrk : k < 8 → _ := hrm k hk0
        refine R_iload rfl rfl ?_
        refine R_push rfl ?_
        refine R_ic rfl (fun h55 => ?_) (fun h55 => ?_)
        · try simp only [ne_eq, b2i_e, b2i_1, Classical.not_not] at h55
          have hk8 : k = 8 := by omega
          rw [hk8] at hn hsb
          refine R_iload rfl rfl ?_
          refine R_tswL rfl ⟨fun h82 => ?_, fun h82 => ?_, fun h82 => ?_, fun h82 => ?_, trivial⟩ (fun h82 => ?_)
          · try dsimp only at h82
            refine R_aload rfl rfl rfl ?_
            refine T_getr (v := 115) rfl rfl rfl rfl ?_
            refine R_iload rfl rfl ?_
            refine T_ald rfl rfl (by omega) (by omega) ?_
            rw [hF12.row 99 rfl]
            refine R_iret rfl ?_
            refine hE _ _ (Eq.symm (congrArg (Prod.mk 0) ((if_pos (by omega)).trans ?_))) ⟨hF12, by rw [e70, if_pos (by omega)]; omega⟩
            unfold ofV
            rw [← hn]
            first
            | (subst h82; first | rfl | (rw [if_neg (by omega), if_neg (by omega), if_neg (by omega), if_pos (by omega)]; first | rw [if_pos (by omega)] | (rw [if_neg (by omega)]; omega)))
            | (have h82x : w < 0 ∨ 0 + 4 ≤ w := h82
               rw [if_neg (by omega), if_neg (by omega), if_neg (by omega), if_neg (by omega)]; first | rw [if_pos (by omega)] | rw [if_neg (by omega)])
          · try dsimp only at h82
            refine R_aload rfl rfl rfl ?_
            refine R_iload rfl rfl ?_
            have hmt := sp_X10_mate d (by omega) xs t dd rr s2 f J (by rw [eE2.2.2.2.2.2.2.2]; exact hJ) hJ0
            have hmt : Ev d 81 [(87, 0), (0, f)] (Wd xs t dd rr s2) (0, mtM s2 J f) (Wd xs t dd rr s2) := hmt
            rw [mtM_e eE2] at hmt
            refine R_invv rfl rfl rfl rfl rfl rfl (hmt) rfl ?_
            show pCm _ _ _ 124 _ [(0, _)] _
            refine R_iret rfl ?_
            refine hE _ _ (Eq.symm (congrArg (Prod.mk 0) ((if_pos (by omega)).trans ?_))) ⟨hF12, by rw [e70, if_pos (by omega)]; omega⟩
            unfold ofV
            rw [← hn]
            first
            | (subst h82; first | rfl | (rw [if_neg (by omega), if_neg (by omega), if_neg (by omega), if_pos (by omega)]; first | rw [if_pos (by omega)] | (rw [if_neg (by omega)]; omega)))
            | (have h82x : w < 0 ∨ 0 + 4 ≤ w := h82
               rw [if_neg (by omega), if_neg (by omega), if_neg (by omega), if_neg (by omega)]; first | rw [if_pos (by omega)] | rw [if_neg (by omega)])
          · try dsimp only at h82
            refine R_iload rfl rfl ?_
            refine R_iret rfl ?_
            refine hE _ _ (Eq.symm (congrArg (Prod.mk 0) ((if_pos (by omega)).trans ?_))) ⟨hF12, by rw [e70, if_pos (by omega)]; omega⟩
            unfold ofV
            rw [← hn]
            first
            | (subst h82; first | rfl | (rw [if_neg (by omega), if_neg (by omega), if_neg (by omega), if_pos (by omega)]; first | rw [if_pos (by omega)] | (rw [if_neg (by omega)]; omega)))
            | (have h82x : w < 0 ∨ 0 + 4 ≤ w := h82
               rw [if_neg (by omega), if_neg (by omega), if_neg (by omega), if_neg (by omega)]; first | rw [if_pos (by omega)] | rw [if_neg (by omega)])
          · try dsimp only at h82
            refine R_iload rfl rfl ?_
            refine R_push rfl ?_
            refine R_ic rfl (fun h130 => ?_) (fun h130 => ?_)
            · try simp only [ne_eq, b2i_e, b2i_1, Classical.not_not] at h130
              refine R_iload rfl rfl ?_
              refine R_aload rfl rfl rfl ?_
              refine T_geti rfl rfl rfl ?_
              rw [hF12.at 71 25 rfl]
              refine R_ic rfl (fun h143 => ?_) (fun h143 => ?_)
              · try simp only [ne_eq, b2i_e, b2i_1, Classical.not_not] at h143
                refine R_iload rfl rfl ?_
                refine R_aload rfl rfl rfl ?_
                refine T_geti rfl rfl rfl ?_
                rw [hF12.at 71 25 rfl]
                refine R_sub rfl (by omega) (by omega) ?_
                refine R_iret rfl ?_
                refine hE _ _ (Eq.symm (congrArg (Prod.mk 0) ((if_pos (by omega)).trans ?_))) ⟨hF12, by rw [e70, if_pos (by omega)]; omega⟩
                unfold ofV
                rw [← hn]
                first
                | (subst h82; first | rfl | (rw [if_neg (by omega), if_neg (by omega), if_neg (by omega), if_pos (by omega)]; first | rw [if_pos (by omega)] | (rw [if_neg (by omega)]; omega)))
                | (have h82x : w < 0 ∨ 0 + 4 ≤ w := h82
                   rw [if_neg (by omega), if_neg (by omega), if_neg (by omega), if_neg (by omega)]; first | rw [if_pos (by omega)] | rw [if_neg (by omega)])
              · try simp only [ne_eq, b2i_e, b2i_1, Classical.not_not] at h143
                refine R_push rfl ?_
                refine R_goto rfl ?_
                refine R_iret rfl ?_
                refine hE _ _ (Eq.symm (congrArg (Prod.mk 0) ((if_pos (by omega)).trans ?_))) ⟨hF12, by rw [e70, if_pos (by omega)]; omega⟩
                unfold ofV
                rw [← hn]
                first
                | (subst h82; first | rfl | (rw [if_neg (by omega), if_neg (by omega), if_neg (by omega), if_pos (by omega)]; first | rw [if_pos (by omega)] | (rw [if_neg (by omega)]; omega)))
                | (have h82x : w < 0 ∨ 0 + 4 ≤ w := h82
                   rw [if_neg (by omega), if_neg (by omega), if_neg (by omega), if_neg (by omega)]; first | rw [if_pos (by omega)] | rw [if_neg (by omega)])
            · try simp only [ne_eq, b2i_e, b2i_1, Classical.not_not] at h130
              refine R_push rfl ?_
              refine R_goto rfl ?_
              refine R_iret rfl ?_
              refine hE _ _ (Eq.symm (congrArg (Prod.mk 0) ((if_pos (by omega)).trans ?_))) ⟨hF12, by rw [e70, if_pos (by omega)]; omega⟩
              unfold ofV
              rw [← hn]
              first
              | (subst h82; first | rfl | (rw [if_neg (by omega), if_neg (by omega), if_neg (by omega), if_pos (by omega)]; first | rw [if_pos (by omega)] | (rw [if_neg (by omega)]; omega)))
              | (have h82x : w < 0 ∨ 0 + 4 ≤ w := h82
                 rw [if_neg (by omega), if_neg (by omega), if_neg (by omega), if_neg (by omega)]; first | rw [if_pos (by omega)] | rw [if_neg (by omega)])
          · try dsimp only at h82
            refine R_iload rfl rfl ?_
            refine R_push rfl ?_
            refine R_ic rfl (fun h161 => ?_) (fun h161 => ?_)
            · try simp only [ne_eq, b2i_e, b2i_1, Classical.not_not] at h161
              refine R_iload rfl rfl ?_
              refine R_aload rfl rfl rfl ?_
              refine T_geti rfl rfl rfl ?_
              rw [hF12.at 71 25 rfl]
              refine R_add rfl (by omega) (by omega) ?_
              refine R_iret rfl ?_
              refine hE _ _ (Eq.symm (congrArg (Prod.mk 0) ((if_pos (by omega)).trans ?_))) ⟨hF12, by rw [e70, if_pos (by omega)]; omega⟩
              unfold ofV
              rw [← hn]
              first
              | (subst h82; first | rfl | (rw [if_neg (by omega), if_neg (by omega), if_neg (by omega), if_pos (by omega)]; first | rw [if_pos (by omega)] | (rw [if_neg (by omega)]; omega)))
              | (have h82x : w < 0 ∨ 0 + 4 ≤ w := h82
                 rw [if_neg (by omega), if_neg (by omega), if_neg (by omega), if_neg (by omega)]; first | rw [if_pos (by omega)] | rw [if_neg (by omega)])
            · try simp only [ne_eq, b2i_e, b2i_1, Classical.not_not] at h161
              refine R_push rfl ?_
              refine R_goto rfl ?_
              refine R_iret rfl ?_
              refine hE _ _ (Eq.symm (congrArg (Prod.mk 0) ((if_pos (by omega)).trans ?_))) ⟨hF12, by rw [e70, if_pos (by omega)]; omega⟩
              unfold ofV
              rw [← hn]
              first
              | (subst h82; first | rfl | (rw [if_neg (by omega), if_neg (by omega), if_neg (by omega), if_pos (by omega)]; first | rw [if_pos (by omega)] | (rw [if_neg (by omega)]; omega)))
              | (have h82x : w < 0 ∨ 0 + 4 ≤ w := h82
                 rw [if_neg (by omega), if_neg (by omega), if_neg (by omega), if_neg (by omega)]; first | rw [if_pos (by omega)] | rw [if_neg (by omega)])
        · try simp only [ne_eq, b2i_e, b2i_1, Classical.not_not] at h55
          have hrk := hrk (by omega)
          refine R_iload rfl rfl ?_
          refine R_aload rfl rfl rfl ?_
          refine T_getr (v := 116) rfl rfl rfl rfl ?_
          refine R_push rfl ?_
          refine R_iload rfl rfl ?_
          refine R_mul rfl (by omega) (by omega) ?_
          refine R_iload rfl rfl ?_
          refine R_add rfl (by omega) (by omega) ?_
          refine T_ald rfl rfl (by omega) (by omega) ?_
          rw [hF12.row 100 rfl]
          refine R_add rfl (by omega) (by omega) ?_
          refine R_istore rfl rfl ?_
          refine R_inc rfl rfl (by omega) (by omega) ?_
          refine R_goto rfl ?_
          exact ih (n + σ 100 (8 * f + k), k + 1) ⟨by dsimp only; omega, by show n + _ = _; rw [hss]⟩ (by dsimp only; omega)
      · exact ⟨by dsimp only; omega, rfl⟩
    · try simp only [ne_eq, b2i_e, b2i_1, Classical.not_not] at h30
      refine R_push rfl ?_
      refine R_iret rfl ?_
      exact hE _ _ (by rw [if_neg (by omega)]) ⟨hF1.tr (r2 := []) (s2 := []) Fr.rf rfl rfl, by rw [h71, if_neg (by omega)]; omega⟩
  refine R_aload rfl rfl rfl ?_
  refine R_iload rfl rfl ?_
  refine R_invv rfl rfl rfl rfl rfl rfl (sp_X10_isFace d (by omega) xs t dd rr σ f P hP h0 hf) rfl ?_
  show pCm _ _ _ 6 _ [(0, _), (87, 0)] _
  refine R_if rfl (fun h6 => ?_) (fun h6 => ?_)
  · try simp only [ne_eq, b2i_e, b2i_1, Classical.not_not] at h6
    refine R_push rfl ?_
    exact J23 _ (by first | rw [if_pos (by omega)] | rw [if_neg (by omega)])
  · try simp only [ne_eq, b2i_e, b2i_1, Classical.not_not] at h6
    refine R_iload rfl rfl ?_
    refine R_push rfl ?_
    refine R_push rfl ?_
    refine R_inv rfl rfl rfl rfl rfl (sp_X10_within d (by omega) _ _ _ _) rfl ?_
    show pCm _ _ _ 15 _ [(0, _), (87, 0)] _
    refine R_if rfl (fun h15 => ?_) (fun h15 => ?_)
    · try simp only [ne_eq, b2i_e, b2i_1, Classical.not_not] at h15
      refine R_push rfl ?_
      exact J23 _ (by first | rw [if_pos (by omega)] | rw [if_neg (by omega)])
    · try simp only [ne_eq, b2i_e, b2i_1, Classical.not_not] at h15
      refine R_push rfl ?_
      refine R_goto rfl ?_
      exact J23 _ (by first | rw [if_pos (by omega)] | rw [if_neg (by omega)])

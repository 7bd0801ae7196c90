/-- the reference's rows hold this text, in its half h -/
def MT (σ : Sg) (h N : Int) (kd nu len : Int → Int) (K W : Int → Int → Int) : Prop := σ 71 10 = h ∧ (h = 0 ∨ h = 1) ∧ σ 77 h = N ∧ ∀ l, 0 ≤ l → l < N → σ 78 (24 * h + l) = kd l ∧ σ 79 (24 * h + l) = nu l ∧ (0 ≤ σ 80 (24 * h + l) ∧ σ 80 (24 * h + l) + len l < 2200) ∧ (∀ m, 0 ≤ m → m < len l → σ 83 (σ 80 (24 * h + l) + m) = opOf (K l m) ∧ σ 84 (σ 80 (24 * h + l) + m) = W l m) ∧ σ 83 (σ 80 (24 * h + l) + len l) = 0
set_option maxRecDepth 20000 in
set_option maxHeartbeats 2000000 in
theorem sp_X10_tellsNames (d : Nat) (hd : 3 ≤ d) (xs : List (Nat × Nat)) (t dd rr : Nat) (σ : Sg) (h N : Int) (kd nu len : Int → Int) (K W : Int → Int → Int) (hT : WT N kd nu len K W) (hC : MT σ h N kd nu len K W) : ∃ σ', Ev d 62 [(87, 0)] (Wd xs t dd rr σ) (8, 0) (Wd xs t dd rr σ') ∧ Fr [86, 87] [] σ σ' ∧ ∀ w, 0 ≤ w → w < letc kd N → σ' 86 w = nms (σ 85) kd nu len K W N w := by
  obtain ⟨d, rfl⟩ : ∃ e, d = e + 1 := ⟨d - 1, by omega⟩
  obtain ⟨hC1, hC2, hC3, hC4⟩ := hC
  have hN := hT.1
  refine evS (nL := 2) (code := k_X10_tellsNames) rfl dc_X10_tellsNames rfl (fun E hE => ?_)
  show pCm (Ev d) k_X10_tellsNames E 0 [(87, 0), (9, 0)] [] _
  refine R_push rfl ?_
  refine R_aload rfl rfl rfl ?_
  refine T_geti rfl rfl rfl ?_
  rw [hC1]
  refine R_mul rfl (by omega) (by omega) ?_
  refine R_istore rfl rfl ?_
  suffices hh : pCm (Ev d) k_X10_tellsNames E 8 [(87, 0), (0, 24 * h + 0)] [] (Wd xs t dd rr σ) by rwa [Int.add_zero] at hh
  refine loop (pc := 8) (α := Int × Sg) (fun x => (N - x.1).toNat) (fun x => ([(87, 0), (0, 24 * h + x.1)], Wd xs t dd rr x.2)) (fun x => (0 ≤ x.1 ∧ x.1 ≤ N) ∧ Fr [86, 87] [] σ x.2 ∧ ∀ w, 0 ≤ w → w < letc kd x.1 → x.2 86 w = nms (σ 85) kd nu len K W x.1 w) ?_ (0, σ) ?_
  · intro ⟨l, s1⟩ ⟨⟨hk0, hk1⟩, hF, hag⟩ ih
    dsimp only at hk0 hk1 hF hag ⊢
    have e10 := hF.row 71 rfl 10
    have e77 := hF.row 77 rfl h
    have f78 := hF.row 78 rfl (24 * h + l)
    have f79 := hF.row 79 rfl (24 * h + l)
    have f80 := hF.row 80 rfl (24 * h + l)
    have hCl : l < N → _ := hC4 l hk0
    have hTl : l < N → _ := hT.2.2 l hk0
    refine R_iload rfl rfl ?_
    refine R_push rfl ?_
    refine R_aload rfl rfl rfl ?_
    refine T_geti rfl rfl rfl ?_
    rw [e10, hC1]
    refine R_mul rfl (by omega) (by omega) ?_
    refine R_aload rfl rfl rfl ?_
    refine T_getr (v := 93) rfl rfl rfl rfl ?_
    refine R_aload rfl rfl rfl ?_
    refine T_geti rfl rfl rfl ?_
    rw [e10, hC1]
    refine T_ald rfl rfl (by omega) (by omega) ?_
    rw [e77, hC3]
    refine R_add rfl (by omega) (by omega) ?_
    refine R_ic rfl (fun h26 => ?_) (fun h26 => ?_)
    · try simp only [ne_eq, b2i_e, b2i_1, Classical.not_not] at h26
      refine R_vret rfl ?_
      exact hE _ _ rfl ⟨hF, by rw [← show l = N by omega]; exact hag⟩
    · try simp only [ne_eq, b2i_e, b2i_1, Classical.not_not] at h26
      have hCl := hCl (by omega)
      have hTl := hTl (by omega)
      obtain ⟨k1, k2, k3, k4, k5⟩ := hCl
      refine R_aload rfl rfl rfl ?_
      refine T_getr (v := 94) rfl rfl rfl rfl ?_
      refine R_iload rfl rfl ?_
      refine T_ald rfl rfl (by omega) (by omega) ?_
      refine R_if rfl (fun h35 => ?_) (fun h35 => ?_)
      · try simp only [ne_eq, b2i_e, b2i_1, Classical.not_not] at h35
        refine R_inc rfl rfl (by omega) (by omega) ?_
        refine R_goto rfl ?_
        rw [Int.add_assoc]
        exact ih (l + 1, s1) ⟨by dsimp only; omega, hF, ag_skip (N := N) hk0 (by omega) hag⟩ (by dsimp only; omega)
      · try simp only [ne_eq, b2i_e, b2i_1, Classical.not_not] at h35
        have hnu := hTl.2.2.2.1 (by omega)
        have hcb : 0 ≤ letc kd l ∧ letc kd l < 8 := by
          have ec : letc kd (l + 1) = letc kd l + b2i (kd l = 0) := cnt_s hk0
          rw [b2i_t (by omega)] at ec
          have hm := sumZ_mono (f := fun p => b2i (kd p = 0)) (n := N) (fun _ _ _ => b2i_bd.1) (l + 1) (by omega) (by omega)
          have hm : letc kd (l + 1) ≤ letc kd N := hm
          have := hT.2.1
          have := (cnt_bd (L := kd) (c := 0) hk0).1
          have : 0 ≤ letc kd l := this
          omega
        refine R_aload rfl rfl rfl ?_
        refine T_getr (v := 102) rfl rfl rfl rfl ?_
        refine R_aload rfl rfl rfl ?_
        refine T_getr (v := 95) rfl rfl rfl rfl ?_
        refine R_iload rfl rfl ?_
        refine T_ald rfl rfl (by omega) (by omega) ?_
        rw [f79, k2]
        refine R_aload rfl rfl rfl ?_
        refine R_aload rfl rfl rfl ?_
        refine T_getr (v := 96) rfl rfl rfl rfl ?_
        refine R_iload rfl rfl ?_
        refine T_ald rfl rfl (by omega) (by omega) ?_
        rw [f80]
        obtain ⟨s2, hev, hF2⟩ := sp_X10_worth d (by omega) xs t dd rr s1 (σ 80 (24 * h + l)) (len l) (K l) (W l) ⟨k3.1, hTl.2.1, k3.2⟩ (fun m m0 m1 => by rw [hF.row 83 rfl, hF.row 84 rfl]; exact k4 m m0 m1) (by rw [hF.row 83 rfl]; exact k5) hTl.2.2.1
        have hvl : (erun (s1 86) (s1 85) (K l) (W l) (len l)).2 0 = vl (σ 85) kd nu len K W l := by rw [hF.fn 85 rfl]; exact vln_nm (kn := σ 85) hT hk0 (by omega) hag
        rw [hvl] at hev
        refine R_invv rfl rfl rfl rfl rfl rfl (hev) rfl ?_
        show pCm _ _ _ 58 _ [(0, _), (0, _), (102, 0)] _
        refine T_iast rfl rfl (by omega) (by omega) ?_
        generalize hs4 : up2 s2 86 (nu l) _ = s4
        refine R_inc rfl rfl (by omega) (by omega) ?_
        refine R_goto rfl ?_
        rw [Int.add_assoc]
        exact ih (l + 1, s4) ⟨by dsimp only; omega, by rw [← hs4]; exact (hF.tr (r3 := [86, 87]) (s3 := []) hF2 rfl rfl).upr rfl, ag_next (kn := σ 85) (nm := s1 86) (nm' := s4 86) hT hk0 (by omega) hag (by
          rw [if_pos (by omega), ← hs4, up_row, hF2.fn 86 rfl])⟩ (by dsimp only; omega)
  · exact ⟨⟨Int.le_refl _, hT.1.1⟩, Fr.rf, fun w w0 w1 => by
      have : letc kd 0 = 0 := rfl
      dsimp only at w1
      omega⟩
set_option maxRecDepth 20000 in
set_option maxHeartbeats 2000000 in
theorem sp_X10_isSo (d : Nat) (hd : 3 ≤ d) (xs : List (Nat × Nat)) (t dd rr : Nat) (σ : Sg) (l k : Int) (h N : Int) (kd nu len : Int → Int) (K W : Int → Int → Int) (hT : WT N kd nu len K W) (hC : MT σ h N kd nu len K W) (hl : 0 ≤ l ∧ l < N) (hag : ∀ w, 0 ≤ w → w < letc kd N → σ 86 w = nms (σ 85) kd nu len K W N w) : ∃ σ', Ev d 63 [(87, 0), (0, 24 * h + l), (0, k)] (Wd xs t dd rr σ) (0, hld (σ 85) kd nu len K W k l) (Wd xs t dd rr σ') ∧ Fr [87] [] σ σ' := by
  obtain ⟨d, rfl⟩ : ∃ e, d = e + 1 := ⟨d - 1, by omega⟩
  obtain ⟨hC1, hC2, hC3, hC4⟩ := hC
  have hN := hT.1
  obtain ⟨k1, k2, k3, k4, k5⟩ := hC4 l hl.1 hl.2
  have hTl := hT.2.2 l hl.1 hl.2
  have hagl : ∀ w, 0 ≤ w → w < letc kd l → σ 86 w = nms (σ 85) kd nu len K W l w := fun w w0 w1 => by
    have hm := sumZ_mono (f := fun p => b2i (kd p = 0)) (n := N) (fun _ _ _ => b2i_bd.1) l (by omega) (by omega)
    have hm : letc kd l ≤ letc kd N := hm
    rw [hag w w0 (by omega)]
    have := nms_keep (kn := σ 85) hT hl.1 (N - l).toNat (by omega) w w1
    rwa [show l + ((N - l).toNat : Int) = N by omega] at this
  refine evS (nL := 3) (code := k_X10_isSo) rfl dc_X10_isSo rfl (fun E hE => ?_)
  show pCm (Ev d) k_X10_isSo E 0 [(87, 0), (0, 24 * h + l), (0, k)] [] _
  refine R_aload rfl rfl rfl ?_
  refine T_getr (v := 94) rfl rfl rfl rfl ?_
  refine R_iload rfl rfl ?_
  refine T_ald rfl rfl (by omega) (by omega) ?_
  refine R_iload rfl rfl ?_
  refine R_ic rfl (fun h7 => ?_) (fun h7 => ?_)
  · try simp only [ne_eq, b2i_e, b2i_1, Classical.not_not] at h7
    refine R_push rfl ?_
    refine R_zret rfl (by first | exact Or.inl rfl | exact Or.inr rfl | omega | grind) ?_
    first
    | exact hE _ _ (by unfold hld; rw [b2i_f (by omega)]) Fr.rf
    | exact hE _ _ (by unfold hld; rw [b2i_f (by omega)]) hF2
    | exact hE _ _ (by unfold hld; rw [b2i_t (by omega)]) hF2
  · try simp only [ne_eq, b2i_e, b2i_1, Classical.not_not] at h7
    refine R_aload rfl rfl rfl ?_
    refine R_aload rfl rfl rfl ?_
    refine T_getr (v := 96) rfl rfl rfl rfl ?_
    refine R_iload rfl rfl ?_
    refine T_ald rfl rfl (by omega) (by omega) ?_
    obtain ⟨s2, hev, hF2⟩ := sp_X10_worth d (by omega) xs t dd rr σ (σ 80 (24 * h + l)) (len l) (K l) (W l) ⟨k3.1, hTl.2.1, k3.2⟩ (fun m m0 m1 => by rw [(Fr.rf (rows := []) (sl := []) (σ := σ)).row 83 rfl, (Fr.rf (rows := []) (sl := []) (σ := σ)).row 84 rfl]; exact k4 m m0 m1) (by rw [(Fr.rf (rows := []) (sl := []) (σ := σ)).row 83 rfl]; exact k5) hTl.2.2.1
    have hvl : (erun (σ 86) (σ 85) (K l) (W l) (len l)).2 0 = vl (σ 85) kd nu len K W l := vln_nm (kn := σ 85) hT hl.1 hl.2 hagl
    rw [hvl] at hev
    refine R_invv rfl rfl rfl rfl rfl rfl (hev) rfl ?_
    show pCm _ _ _ 20 _ [(0, _)] _
    refine R_if rfl (fun h20 => ?_) (fun h20 => ?_)
    · try simp only [ne_eq, b2i_e, b2i_1, Classical.not_not] at h20
      refine R_push rfl ?_
      refine R_zret rfl (by first | exact Or.inl rfl | exact Or.inr rfl | omega | grind) ?_
      first
      | exact hE _ _ (by unfold hld; rw [b2i_f (by omega)]) Fr.rf
      | exact hE _ _ (by unfold hld; rw [b2i_f (by omega)]) hF2
      | exact hE _ _ (by unfold hld; rw [b2i_t (by omega)]) hF2
    · try simp only [ne_eq, b2i_e, b2i_1, Classical.not_not] at h20
      refine R_push rfl ?_
      refine R_goto rfl ?_
      refine R_zret rfl (by first | exact Or.inl rfl | exact Or.inr rfl | omega | grind) ?_
      first
      | exact hE _ _ (by unfold hld; rw [b2i_f (by omega)]) Fr.rf
      | exact hE _ _ (by unfold hld; rw [b2i_f (by omega)]) hF2
      | exact hE _ _ (by unfold hld; rw [b2i_t (by omega)]) hF2

theorem ag_next {kn nm nm' : Int → Int} {N : Int} {kd nu len : Int → Int} {K W : Int → Int → Int} (h : WT N kd nu len K W) {l : Int} (h0 : 0 ≤ l) (h1 : l < N) (hag : ∀ w, 0 ≤ w → w < letc kd l → nm w = nms kn kd nu len K W l w) (hn : nm' = if 128 + kd l = 128 ∧ 0 ≤ nu l ∧ nu l ≤ 7 then fup nm (nu l) (vl kn kd nu len K W l) else nm) : ∀ w, 0 ≤ w → w < letc kd (l + 1) → nm' w = nms kn kd nu len K W (l + 1) w := by
  have hl := h.2.2 l h0 h1
  have ec : letc kd (l + 1) = letc kd l + b2i (kd l = 0) := cnt_s h0
  have hb : 0 ≤ letc kd l := (cnt_bd h0).1
  have hm := sumZ_mono (f := fun p => b2i (kd p = 0)) (n := N) (fun _ _ _ => b2i_bd.1) (l + 1) (by omega) (by omega)
  have hm : letc kd (l + 1) ≤ letc kd N := hm
  have h8 := h.2.1
  intro w w0 w1
  rw [nms_s h0]
  by_cases q : kd l = 0
  · rw [b2i_t q] at ec
    have e := hl.2.2.2.1 q
    rw [hn, if_pos (by omega), if_pos q, e]
    by_cases z : w = letc kd l
    · rw [z, fup_s, fup_s]; rfl
    · rw [fup_o z, fup_o z]; exact hag w w0 (by omega)
  · rw [b2i_f q] at ec
    rw [hn, if_neg (by omega), if_neg q]
    exact hag w w0 (by omega)
theorem ag_skip {kn nm : Int → Int} {N : Int} {kd nu len : Int → Int} {K W : Int → Int → Int} {l : Int} (h0 : 0 ≤ l) (hk : kd l ≠ 0) (hag : ∀ w, 0 ≤ w → w < letc kd l → nm w = nms kn kd nu len K W l w) : ∀ w, 0 ≤ w → w < letc kd (l + 1) → nm w = nms kn kd nu len K W (l + 1) w := by
  have ec : letc kd (l + 1) = letc kd l + b2i (kd l = 0) := cnt_s h0
  rw [b2i_f hk] at ec
  intro w w0 w1
  rw [nms_s h0, if_neg hk]
  exact hag w w0 (by omega)
set_option maxRecDepth 20000 in
set_option maxHeartbeats 2000000 in
theorem sp_X8_firstThatHolds_37 (d : Nat) (hd : 4 ≤ d) (xs : List (Nat × Nat)) (t dd rr : Nat) (σ : Sg) (k : Int) (N : Int) (kd nu len : Int → Int) (K W : Int → Int → Int) (hT : WT N kd nu len K W) (hC : CT σ 37 N kd nu len K W) (hnn : ∀ l, 0 ≤ l → l < N → nu l ≠ -1) (hkr : 0 ≤ k ∧ k ≤ 3) : ∃ σ', Ev d 236 [(53, 0), (0, 128 + k), (67, 0)] (Wd xs t dd rr σ) (0, frst (hld (σ 51) kd nu len K W k) nu N) (Wd xs t dd rr σ') ∧ Fr [42, 43] [] σ σ' := by
  obtain ⟨d, rfl⟩ : ∃ e, d = e + 1 := ⟨d - 1, by omega⟩
  have hC0 := hC.1
  have hN := hT.1
  refine evS (nL := 4) (code := k_X8_firstThatHolds) rfl dc_X8_firstThatHolds rfl (fun E hE => ?_)
  show pCm (Ev d) k_X8_firstThatHolds E 0 [(53, 0), (0, 128 + k), (67, 0), (9, 0)] [] _
  refine R_push rfl ?_
  refine R_istore rfl rfl ?_
  refine loop (pc := 2) (α := Int × Sg) (fun x => (N - x.1).toNat) (fun x => ([(53, 0), (0, 128 + k), (67, 0), (0, x.1)], Wd xs t dd rr x.2)) (fun x => (0 ≤ x.1 ∧ x.1 ≤ N) ∧ (Fr [42, 43] [] σ x.2 ∧ (∀ w, 0 ≤ w → w < letc kd x.1 → x.2 42 w = nms (σ 51) kd nu len K W x.1 w)) ∧ frst (hld (σ 51) kd nu len K W k) nu x.1 = -1) ?_ (0, σ) ?_
  · intro ⟨l, s1⟩ ⟨⟨hk0, hk1⟩, ⟨hF, hag⟩, hfr⟩ ih
    dsimp only at hk0 hk1 hF hag hfr ⊢
    have hfs := frst_s (g := hld (σ 51) kd nu len K W k) (nu := nu) hk0
    rw [if_pos hfr] at hfs
    have hkl := hk0
    have e0 := hF.row 37 rfl 0
    have c51 := hF.fn 51 rfl
    have f1 := hF.row 38 rfl l
    have f2 := hF.row 39 rfl l
    have f3 := hF.row 40 rfl l
    have f3' := hF.row 40 rfl (l + 1)
    have hCl : l < N → _ := hC.2 l hk0
    have hTl : l < N → _ := hT.2.2 l hk0
    refine R_iload rfl rfl ?_
    refine R_aload rfl rfl rfl ?_
    refine T_geti rfl rfl rfl ?_
    refine R_ic rfl (fun h7 => ?_) (fun h7 => ?_)
    · try simp only [ne_eq, b2i_e, b2i_1, Classical.not_not] at h7
      refine R_push rfl ?_
      refine R_iret rfl ?_
      exact hE _ _ (by rw [← show l = N by omega, hfr]) hF
    · try simp only [ne_eq, b2i_e, b2i_1, Classical.not_not] at h7
      have hCl := hCl (by omega)
      have hTl := hTl (by omega)
      obtain ⟨k1, k2, k3, k4, k5⟩ := hCl
      simp only [Nat.reduceAdd] at k1 k2 k3 k4 k5
      have hln := hTl.2.1
      refine R_aload rfl rfl rfl ?_
      refine R_iload rfl rfl ?_
      refine R_iload rfl rfl ?_
      refine R_invv rfl rfl rfl rfl rfl rfl (sp_X8_isNeeded_37 d (by omega) xs t dd rr s1 l _ ⟨by omega, by omega⟩) rfl ?_
      show pCm _ _ _ 16 _ [(0, _)] _
      refine R_if rfl (fun h16 => ?_) (fun h16 => ?_)
      · try simp only [ne_eq, b2i_e, b2i_1, Classical.not_not] at h16
        refine R_inc rfl rfl (by omega) (by omega) ?_
        refine R_goto rfl ?_
        first
        | (have hg : hld (σ 51) kd nu len K W k l = 0 := b2i_f (by omega)
           exact ih (l + 1, s2) ⟨by dsimp only; omega, ⟨hFz, hag2⟩, by dsimp only; rw [hfs, hg]; rfl⟩ (by dsimp only; omega))
        | (have hg : hld (σ 51) kd nu len K W k l = 0 := b2i_f (by omega)
           exact ih (l + 1, s1) ⟨by dsimp only; omega, ⟨hF, ag_skip (N := N) hk0 (by omega) hag⟩, by dsimp only; rw [hfs, hg]; rfl⟩ (by dsimp only; omega))
      · try simp only [ne_eq, b2i_e, b2i_1, Classical.not_not] at h16
        refine R_aload rfl rfl rfl ?_
        refine R_iload rfl rfl ?_
        refine R_aload rfl rfl rfl ?_
        have hag0 := vln_nm (kn := σ 51) hT hk0 (by omega) hag
        obtain ⟨s2, hev, hF2, hnm⟩ := sp_X8_reckon_37 d (by omega) xs t dd rr s1 l (σ 40 l) (len l) (K l) (W l) ⟨by omega, by omega⟩ f3 (by rw [f3', k3]) ⟨k4.1, hln, k4.2⟩ (fun m m0 m1 => by rw [hF.row 41 rfl]; exact k5 m m0 m1) hTl.2.2.1
        rw [c51] at hev hnm
        have hvl : (erun (s1 42) (σ 51) (K l) (W l) (len l)).2 0 = vl (σ 51) kd nu len K W l := hag0
        rw [hvl] at hev hnm
        rw [f1, f2, k1, k2] at hnm
        have hag2 := ag_next hT hk0 (by omega) hag hnm
        have hFz : Fr [42, 43] [] σ s2 := hF.tr hF2 rfl rfl
        have z1 := hFz.row 38 rfl l
        have z2 := hFz.row 39 rfl l
        refine R_invv rfl rfl rfl rfl rfl rfl (hev) rfl ?_
        show pCm _ _ _ 25 _ [(0, _)] _
        refine R_if rfl (fun h25 => ?_) (fun h25 => ?_)
        · try simp only [ne_eq, b2i_e, b2i_1, Classical.not_not] at h25
          refine R_inc rfl rfl (by omega) (by omega) ?_
          refine R_goto rfl ?_
          first
          | (have hg : hld (σ 51) kd nu len K W k l = 0 := b2i_f (by omega)
             exact ih (l + 1, s2) ⟨by dsimp only; omega, ⟨hFz, hag2⟩, by dsimp only; rw [hfs, hg]; rfl⟩ (by dsimp only; omega))
          | (have hg : hld (σ 51) kd nu len K W k l = 0 := b2i_f (by omega)
             exact ih (l + 1, s1) ⟨by dsimp only; omega, ⟨hF, ag_skip (N := N) hk0 (by omega) hag⟩, by dsimp only; rw [hfs, hg]; rfl⟩ (by dsimp only; omega))
        · try simp only [ne_eq, b2i_e, b2i_1, Classical.not_not] at h25
          refine R_aload rfl rfl rfl ?_
          refine T_getr (v := 54) rfl rfl rfl rfl ?_
          refine R_iload rfl rfl ?_
          refine T_ald rfl rfl (by omega) (by omega) ?_
          refine R_iload rfl rfl ?_
          refine R_ic rfl (fun h35 => ?_) (fun h35 => ?_)
          · try simp only [ne_eq, b2i_e, b2i_1, Classical.not_not] at h35
            refine R_inc rfl rfl (by omega) (by omega) ?_
            refine R_goto rfl ?_
            first
            | (have hg : hld (σ 51) kd nu len K W k l = 0 := b2i_f (by omega)
               exact ih (l + 1, s2) ⟨by dsimp only; omega, ⟨hFz, hag2⟩, by dsimp only; rw [hfs, hg]; rfl⟩ (by dsimp only; omega))
            | (have hg : hld (σ 51) kd nu len K W k l = 0 := b2i_f (by omega)
               exact ih (l + 1, s1) ⟨by dsimp only; omega, ⟨hF, ag_skip (N := N) hk0 (by omega) hag⟩, by dsimp only; rw [hfs, hg]; rfl⟩ (by dsimp only; omega))
          · try simp only [ne_eq, b2i_e, b2i_1, Classical.not_not] at h35
            refine R_aload rfl rfl rfl ?_
            refine T_getr (v := 55) rfl rfl rfl rfl ?_
            refine R_iload rfl rfl ?_
            refine T_ald rfl rfl (by omega) (by omega) ?_
            refine R_iret rfl ?_
            exact hE _ _ (by
              have hg : hld (σ 51) kd nu len K W k l = 1 := b2i_t ⟨by omega, by omega⟩
              have := frst_f hk0 hfr hg (hnn l hk0 (by omega)) (N - (l + 1)).toNat
              rw [show l + 1 + ((N - (l + 1)).toNat : Int) = N by omega] at this
              rw [this, z2, k2]) hFz
  · exact ⟨⟨Int.le_refl _, hT.1.1⟩, ⟨Fr.rf, fun w w0 w1 => by
      have : letc kd 0 = 0 := rfl
      dsimp only at w1
      omega⟩, rfl⟩
set_option maxRecDepth 20000 in
set_option maxHeartbeats 2000000 in
theorem sp_X8_sumOfDoubt_37 (d : Nat) (hd : 4 ≤ d) (xs : List (Nat × Nat)) (t dd rr : Nat) (σ : Sg) (N : Int) (kd nu len : Int → Int) (K W : Int → Int → Int) (hT : WT N kd nu len K W) (hC : CT σ 37 N kd nu len K W) (hnn : ∀ l, 0 ≤ l → l < N → 0 ≤ nu l ∧ nu l ≤ 99) : ∃ σ', Ev d 237 [(53, 0), (67, 0)] (Wd xs t dd rr σ) (0, sumZ (fun l => if hld (σ 51) kd nu len K W 2 l = 1 then nu l else 0) N) (Wd xs t dd rr σ') ∧ Fr [42, 43] [] σ σ' := by
  obtain ⟨d, rfl⟩ : ∃ e, d = e + 1 := ⟨d - 1, by omega⟩
  have hC0 := hC.1
  have hN := hT.1
  refine evS (nL := 4) (code := k_X8_sumOfDoubt) rfl dc_X8_sumOfDoubt rfl (fun E hE => ?_)
  show pCm (Ev d) k_X8_sumOfDoubt E 0 [(53, 0), (67, 0), (9, 0), (9, 0)] [] _
  refine R_push rfl ?_
  refine R_istore rfl rfl ?_
  refine R_push rfl ?_
  refine R_istore rfl rfl ?_
  refine loop (pc := 4) (α := Int × Int × Sg) (fun x => (N - x.2.1).toNat) (fun x => ([(53, 0), (67, 0), (0, x.1), (0, x.2.1)], Wd xs t dd rr x.2.2)) (fun x => (0 ≤ x.2.1 ∧ x.2.1 ≤ N) ∧ (Fr [42, 43] [] σ x.2.2 ∧ (∀ w, 0 ≤ w → w < letc kd x.2.1 → x.2.2 42 w = nms (σ 51) kd nu len K W x.2.1 w)) ∧ x.1 = sumZ (fun l => if hld (σ 51) kd nu len K W 2 l = 1 then nu l else 0) x.2.1) ?_ (0, 0, σ) ?_
  · intro ⟨n, l, s1⟩ ⟨⟨hk0, hk1⟩, ⟨hF, hag⟩, hn⟩ ih
    dsimp only at hk0 hk1 hF hag hn ⊢
    have hsm := sumZ_s (f := fun l => if hld (σ 51) kd nu len K W 2 l = 1 then nu l else 0) hk0
    have hsb := sumZ_bd (f := fun l => if hld (σ 51) kd nu len K W 2 l = 1 then nu l else 0) (c := 99) hk0 (fun i i0 i1 => by have := hnn i i0 (by omega); split <;> omega)
    have hnl : l < N → _ := hnn l hk0
    have hkl := hk0
    have e0 := hF.row 37 rfl 0
    have c51 := hF.fn 51 rfl
    have f1 := hF.row 38 rfl l
    have f2 := hF.row 39 rfl l
    have f3 := hF.row 40 rfl l
    have f3' := hF.row 40 rfl (l + 1)
    have hCl : l < N → _ := hC.2 l hk0
    have hTl : l < N → _ := hT.2.2 l hk0
    refine R_iload rfl rfl ?_
    refine R_aload rfl rfl rfl ?_
    refine T_geti rfl rfl rfl ?_
    refine R_ic rfl (fun h9 => ?_) (fun h9 => ?_)
    · try simp only [ne_eq, b2i_e, b2i_1, Classical.not_not] at h9
      refine R_iload rfl rfl ?_
      refine R_iret rfl ?_
      exact hE _ _ (by congr 1; rw [hn]; congr 1; omega) hF
    · try simp only [ne_eq, b2i_e, b2i_1, Classical.not_not] at h9
      have hCl := hCl (by omega)
      have hTl := hTl (by omega)
      obtain ⟨k1, k2, k3, k4, k5⟩ := hCl
      simp only [Nat.reduceAdd] at k1 k2 k3 k4 k5
      have hln := hTl.2.1
      have hnl := hnl (by omega)
      refine R_aload rfl rfl rfl ?_
      refine R_iload rfl rfl ?_
      refine R_push rfl ?_
      refine R_invv rfl rfl rfl rfl rfl rfl (sp_X8_isNeeded_37 d (by omega) xs t dd rr s1 l _ ⟨by omega, by omega⟩) rfl ?_
      show pCm _ _ _ 20 _ [(0, _)] _
      refine R_if rfl (fun h20 => ?_) (fun h20 => ?_)
      · try simp only [ne_eq, b2i_e, b2i_1, Classical.not_not] at h20
        refine R_inc rfl rfl (by omega) (by omega) ?_
        refine R_goto rfl ?_
        first
        | (have hg : hld (σ 51) kd nu len K W 2 l = 1 := b2i_t ⟨by omega, by omega⟩
           exact ih (_, l + 1, s2) ⟨by dsimp only; omega, ⟨hFz, hag2⟩, by dsimp only; rw [hsm, if_pos hg, ← hn]; omega⟩ (by dsimp only; omega))
        | (have hg : hld (σ 51) kd nu len K W 2 l = 0 := b2i_f (by omega)
           exact ih (_, l + 1, s2) ⟨by dsimp only; omega, ⟨hFz, hag2⟩, by dsimp only; rw [hsm, hg, ← hn]; simp⟩ (by dsimp only; omega))
        | (have hg : hld (σ 51) kd nu len K W 2 l = 0 := b2i_f (by omega)
           exact ih (_, l + 1, s1) ⟨by dsimp only; omega, ⟨hF, ag_skip (N := N) hk0 (by omega) hag⟩, by dsimp only; rw [hsm, hg, ← hn]; simp⟩ (by dsimp only; omega))
      · try simp only [ne_eq, b2i_e, b2i_1, Classical.not_not] at h20
        refine R_aload rfl rfl rfl ?_
        refine R_iload rfl rfl ?_
        refine R_aload rfl rfl rfl ?_
        have hag0 := vln_nm (kn := σ 51) hT hk0 (by omega) hag
        obtain ⟨s2, hev, hF2, hnm⟩ := sp_X8_reckon_37 d (by omega) xs t dd rr s1 l (σ 40 l) (len l) (K l) (W l) ⟨by omega, by omega⟩ f3 (by rw [f3', k3]) ⟨k4.1, hln, k4.2⟩ (fun m m0 m1 => by rw [hF.row 41 rfl]; exact k5 m m0 m1) hTl.2.2.1
        rw [c51] at hev hnm
        have hvl : (erun (s1 42) (σ 51) (K l) (W l) (len l)).2 0 = vl (σ 51) kd nu len K W l := hag0
        rw [hvl] at hev hnm
        rw [f1, f2, k1, k2] at hnm
        have hag2 := ag_next hT hk0 (by omega) hag hnm
        have hFz : Fr [42, 43] [] σ s2 := hF.tr hF2 rfl rfl
        have z1 := hFz.row 38 rfl l
        have z2 := hFz.row 39 rfl l
        refine R_invv rfl rfl rfl rfl rfl rfl (hev) rfl ?_
        show pCm _ _ _ 29 _ [(0, _)] _
        refine R_if rfl (fun h29 => ?_) (fun h29 => ?_)
        · try simp only [ne_eq, b2i_e, b2i_1, Classical.not_not] at h29
          refine R_inc rfl rfl (by omega) (by omega) ?_
          refine R_goto rfl ?_
          first
          | (have hg : hld (σ 51) kd nu len K W 2 l = 1 := b2i_t ⟨by omega, by omega⟩
             exact ih (_, l + 1, s2) ⟨by dsimp only; omega, ⟨hFz, hag2⟩, by dsimp only; rw [hsm, if_pos hg, ← hn]; omega⟩ (by dsimp only; omega))
          | (have hg : hld (σ 51) kd nu len K W 2 l = 0 := b2i_f (by omega)
             exact ih (_, l + 1, s2) ⟨by dsimp only; omega, ⟨hFz, hag2⟩, by dsimp only; rw [hsm, hg, ← hn]; simp⟩ (by dsimp only; omega))
          | (have hg : hld (σ 51) kd nu len K W 2 l = 0 := b2i_f (by omega)
             exact ih (_, l + 1, s1) ⟨by dsimp only; omega, ⟨hF, ag_skip (N := N) hk0 (by omega) hag⟩, by dsimp only; rw [hsm, hg, ← hn]; simp⟩ (by dsimp only; omega))
        · try simp only [ne_eq, b2i_e, b2i_1, Classical.not_not] at h29
          refine R_aload rfl rfl rfl ?_
          refine T_getr (v := 54) rfl rfl rfl rfl ?_
          refine R_iload rfl rfl ?_
          refine T_ald rfl rfl (by omega) (by omega) ?_
          refine R_push rfl ?_
          refine R_ic rfl (fun h41 => ?_) (fun h41 => ?_)
          · try simp only [ne_eq, b2i_e, b2i_1, Classical.not_not] at h41
            refine R_inc rfl rfl (by omega) (by omega) ?_
            refine R_goto rfl ?_
            first
            | (have hg : hld (σ 51) kd nu len K W 2 l = 1 := b2i_t ⟨by omega, by omega⟩
               exact ih (_, l + 1, s2) ⟨by dsimp only; omega, ⟨hFz, hag2⟩, by dsimp only; rw [hsm, if_pos hg, ← hn]; omega⟩ (by dsimp only; omega))
            | (have hg : hld (σ 51) kd nu len K W 2 l = 0 := b2i_f (by omega)
               exact ih (_, l + 1, s2) ⟨by dsimp only; omega, ⟨hFz, hag2⟩, by dsimp only; rw [hsm, hg, ← hn]; simp⟩ (by dsimp only; omega))
            | (have hg : hld (σ 51) kd nu len K W 2 l = 0 := b2i_f (by omega)
               exact ih (_, l + 1, s1) ⟨by dsimp only; omega, ⟨hF, ag_skip (N := N) hk0 (by omega) hag⟩, by dsimp only; rw [hsm, hg, ← hn]; simp⟩ (by dsimp only; omega))
          · try simp only [ne_eq, b2i_e, b2i_1, Classical.not_not] at h41
            refine R_iload rfl rfl ?_
            refine R_aload rfl rfl rfl ?_
            refine T_getr (v := 55) rfl rfl rfl rfl ?_
            refine R_iload rfl rfl ?_
            refine T_ald rfl rfl (by omega) (by omega) ?_
            refine R_add rfl (by omega) (by omega) ?_
            refine R_istore rfl rfl ?_
            refine R_inc rfl rfl (by omega) (by omega) ?_
            refine R_goto rfl ?_
            first
            | (have hg : hld (σ 51) kd nu len K W 2 l = 1 := b2i_t ⟨by omega, by omega⟩
               exact ih (_, l + 1, s2) ⟨by dsimp only; omega, ⟨hFz, hag2⟩, by dsimp only; rw [hsm, if_pos hg, ← hn]; omega⟩ (by dsimp only; omega))
            | (have hg : hld (σ 51) kd nu len K W 2 l = 0 := b2i_f (by omega)
               exact ih (_, l + 1, s2) ⟨by dsimp only; omega, ⟨hFz, hag2⟩, by dsimp only; rw [hsm, hg, ← hn]; simp⟩ (by dsimp only; omega))
            | (have hg : hld (σ 51) kd nu len K W 2 l = 0 := b2i_f (by omega)
               exact ih (_, l + 1, s1) ⟨by dsimp only; omega, ⟨hF, ag_skip (N := N) hk0 (by omega) hag⟩, by dsimp only; rw [hsm, hg, ← hn]; simp⟩ (by dsimp only; omega))
  · exact ⟨⟨Int.le_refl _, hT.1.1⟩, ⟨Fr.rf, fun w w0 w1 => by
      have : letc kd 0 = 0 := rfl
      dsimp only at w1
      omega⟩, rfl⟩
set_option maxRecDepth 20000 in
set_option maxHeartbeats 2000000 in
theorem sp_X8_firstThatHolds_44 (d : Nat) (hd : 4 ≤ d) (xs : List (Nat × Nat)) (t dd rr : Nat) (σ : Sg) (k : Int) (N : Int) (kd nu len : Int → Int) (K W : Int → Int → Int) (hT : WT N kd nu len K W) (hC : CT σ 44 N kd nu len K W) (hnn : ∀ l, 0 ≤ l → l < N → nu l ≠ -1) (hkr : 0 ≤ k ∧ k ≤ 3) : ∃ σ', Ev d 236 [(60, 0), (0, 128 + k), (67, 0)] (Wd xs t dd rr σ) (0, frst (hld (σ 51) kd nu len K W k) nu N) (Wd xs t dd rr σ') ∧ Fr [49, 50] [] σ σ' := by
  obtain ⟨d, rfl⟩ : ∃ e, d = e + 1 := ⟨d - 1, by omega⟩
  have hC0 := hC.1
  have hN := hT.1
  refine evS (nL := 4) (code := k_X8_firstThatHolds) rfl dc_X8_firstThatHolds rfl (fun E hE => ?_)
  show pCm (Ev d) k_X8_firstThatHolds E 0 [(60, 0), (0, 128 + k), (67, 0), (9, 0)] [] _
  refine R_push rfl ?_
  refine R_istore rfl rfl ?_
  refine loop (pc := 2) (α := Int × Sg) (fun x => (N - x.1).toNat) (fun x => ([(60, 0), (0, 128 + k), (67, 0), (0, x.1)], Wd xs t dd rr x.2)) (fun x => (0 ≤ x.1 ∧ x.1 ≤ N) ∧ (Fr [49, 50] [] σ x.2 ∧ (∀ w, 0 ≤ w → w < letc kd x.1 → x.2 49 w = nms (σ 51) kd nu len K W x.1 w)) ∧ frst (hld (σ 51) kd nu len K W k) nu x.1 = -1) ?_ (0, σ) ?_
  · intro ⟨l, s1⟩ ⟨⟨hk0, hk1⟩, ⟨hF, hag⟩, hfr⟩ ih
    dsimp only at hk0 hk1 hF hag hfr ⊢
    have hfs := frst_s (g := hld (σ 51) kd nu len K W k) (nu := nu) hk0
    rw [if_pos hfr] at hfs
    have hkl := hk0
    have e0 := hF.row 44 rfl 0
    have c51 := hF.fn 51 rfl
    have f1 := hF.row 45 rfl l
    have f2 := hF.row 46 rfl l
    have f3 := hF.row 47 rfl l
    have f3' := hF.row 47 rfl (l + 1)
    have hCl : l < N → _ := hC.2 l hk0
    have hTl : l < N → _ := hT.2.2 l hk0
    refine R_iload rfl rfl ?_
    refine R_aload rfl rfl rfl ?_
    refine T_geti rfl rfl rfl ?_
    refine R_ic rfl (fun h7 => ?_) (fun h7 => ?_)
    · try simp only [ne_eq, b2i_e, b2i_1, Classical.not_not] at h7
      refine R_push rfl ?_
      refine R_iret rfl ?_
      exact hE _ _ (by rw [← show l = N by omega, hfr]) hF
    · try simp only [ne_eq, b2i_e, b2i_1, Classical.not_not] at h7
      have hCl := hCl (by omega)
      have hTl := hTl (by omega)
      obtain ⟨k1, k2, k3, k4, k5⟩ := hCl
      simp only [Nat.reduceAdd] at k1 k2 k3 k4 k5
      have hln := hTl.2.1
      refine R_aload rfl rfl rfl ?_
      refine R_iload rfl rfl ?_
      refine R_iload rfl rfl ?_
      refine R_invv rfl rfl rfl rfl rfl rfl (sp_X8_isNeeded_44 d (by omega) xs t dd rr s1 l _ ⟨by omega, by omega⟩) rfl ?_
      show pCm _ _ _ 16 _ [(0, _)] _
      refine R_if rfl (fun h16 => ?_) (fun h16 => ?_)
      · try simp only [ne_eq, b2i_e, b2i_1, Classical.not_not] at h16
        refine R_inc rfl rfl (by omega) (by omega) ?_
        refine R_goto rfl ?_
        first
        | (have hg : hld (σ 51) kd nu len K W k l = 0 := b2i_f (by omega)
           exact ih (l + 1, s2) ⟨by dsimp only; omega, ⟨hFz, hag2⟩, by dsimp only; rw [hfs, hg]; rfl⟩ (by dsimp only; omega))
        | (have hg : hld (σ 51) kd nu len K W k l = 0 := b2i_f (by omega)
           exact ih (l + 1, s1) ⟨by dsimp only; omega, ⟨hF, ag_skip (N := N) hk0 (by omega) hag⟩, by dsimp only; rw [hfs, hg]; rfl⟩ (by dsimp only; omega))
      · try simp only [ne_eq, b2i_e, b2i_1, Classical.not_not] at h16
        refine R_aload rfl rfl rfl ?_
        refine R_iload rfl rfl ?_
        refine R_aload rfl rfl rfl ?_
        have hag0 := vln_nm (kn := σ 51) hT hk0 (by omega) hag
        obtain ⟨s2, hev, hF2, hnm⟩ := sp_X8_reckon_44 d (by omega) xs t dd rr s1 l (σ 47 l) (len l) (K l) (W l) ⟨by omega, by omega⟩ f3 (by rw [f3', k3]) ⟨k4.1, hln, k4.2⟩ (fun m m0 m1 => by rw [hF.row 48 rfl]; exact k5 m m0 m1) hTl.2.2.1
        rw [c51] at hev hnm
        have hvl : (erun (s1 49) (σ 51) (K l) (W l) (len l)).2 0 = vl (σ 51) kd nu len K W l := hag0
        rw [hvl] at hev hnm
        rw [f1, f2, k1, k2] at hnm
        have hag2 := ag_next hT hk0 (by omega) hag hnm
        have hFz : Fr [49, 50] [] σ s2 := hF.tr hF2 rfl rfl
        have z1 := hFz.row 45 rfl l
        have z2 := hFz.row 46 rfl l
        refine R_invv rfl rfl rfl rfl rfl rfl (hev) rfl ?_
        show pCm _ _ _ 25 _ [(0, _)] _
        refine R_if rfl (fun h25 => ?_) (fun h25 => ?_)
        · try simp only [ne_eq, b2i_e, b2i_1, Classical.not_not] at h25
          refine R_inc rfl rfl (by omega) (by omega) ?_
          refine R_goto rfl ?_
          first
          | (have hg : hld (σ 51) kd nu len K W k l = 0 := b2i_f (by omega)
             exact ih (l + 1, s2) ⟨by dsimp only; omega, ⟨hFz, hag2⟩, by dsimp only; rw [hfs, hg]; rfl⟩ (by dsimp only; omega))
          | (have hg : hld (σ 51) kd nu len K W k l = 0 := b2i_f (by omega)
             exact ih (l + 1, s1) ⟨by dsimp only; omega, ⟨hF, ag_skip (N := N) hk0 (by omega) hag⟩, by dsimp only; rw [hfs, hg]; rfl⟩ (by dsimp only; omega))
        · try simp only [ne_eq, b2i_e, b2i_1, Classical.not_not] at h25
          refine R_aload rfl rfl rfl ?_
          refine T_getr (v := 61) rfl rfl rfl rfl ?_
          refine R_iload rfl rfl ?_
          refine T_ald rfl rfl (by omega) (by omega) ?_
          refine R_iload rfl rfl ?_
          refine R_ic rfl (fun h35 => ?_) (fun h35 => ?_)
          · try simp only [ne_eq, b2i_e, b2i_1, Classical.not_not] at h35
            refine R_inc rfl rfl (by omega) (by omega) ?_
            refine R_goto rfl ?_
            first
            | (have hg : hld (σ 51) kd nu len K W k l = 0 := b2i_f (by omega)
               exact ih (l + 1, s2) ⟨by dsimp only; omega, ⟨hFz, hag2⟩, by dsimp only; rw [hfs, hg]; rfl⟩ (by dsimp only; omega))
            | (have hg : hld (σ 51) kd nu len K W k l = 0 := b2i_f (by omega)
               exact ih (l + 1, s1) ⟨by dsimp only; omega, ⟨hF, ag_skip (N := N) hk0 (by omega) hag⟩, by dsimp only; rw [hfs, hg]; rfl⟩ (by dsimp only; omega))
          · try simp only [ne_eq, b2i_e, b2i_1, Classical.not_not] at h35
            refine R_aload rfl rfl rfl ?_
            refine T_getr (v := 62) rfl rfl rfl rfl ?_
            refine R_iload rfl rfl ?_
            refine T_ald rfl rfl (by omega) (by omega) ?_
            refine R_iret rfl ?_
            exact hE _ _ (by
              have hg : hld (σ 51) kd nu len K W k l = 1 := b2i_t ⟨by omega, by omega⟩
              have := frst_f hk0 hfr hg (hnn l hk0 (by omega)) (N - (l + 1)).toNat
              rw [show l + 1 + ((N - (l + 1)).toNat : Int) = N by omega] at this
              rw [this, z2, k2]) hFz
  · exact ⟨⟨Int.le_refl _, hT.1.1⟩, ⟨Fr.rf, fun w w0 w1 => by
      have : letc kd 0 = 0 := rfl
      dsimp only at w1
      omega⟩, rfl⟩
set_option maxRecDepth 20000 in
set_option maxHeartbeats 2000000 in
theorem sp_X8_sumOfDoubt_44 (d : Nat) (hd : 4 ≤ d) (xs : List (Nat × Nat)) (t dd rr : Nat) (σ : Sg) (N : Int) (kd nu len : Int → Int) (K W : Int → Int → Int) (hT : WT N kd nu len K W) (hC : CT σ 44 N kd nu len K W) (hnn : ∀ l, 0 ≤ l → l < N → 0 ≤ nu l ∧ nu l ≤ 99) : ∃ σ', Ev d 237 [(60, 0), (67, 0)] (Wd xs t dd rr σ) (0, sumZ (fun l => if hld (σ 51) kd nu len K W 2 l = 1 then nu l else 0) N) (Wd xs t dd rr σ') ∧ Fr [49, 50] [] σ σ' := by
  obtain ⟨d, rfl⟩ : ∃ e, d = e + 1 := ⟨d - 1, by omega⟩
  have hC0 := hC.1
  have hN := hT.1
  refine evS (nL := 4) (code := k_X8_sumOfDoubt) rfl dc_X8_sumOfDoubt rfl (fun E hE => ?_)
  show pCm (Ev d) k_X8_sumOfDoubt E 0 [(60, 0), (67, 0), (9, 0), (9, 0)] [] _
  refine R_push rfl ?_
  refine R_istore rfl rfl ?_
  refine R_push rfl ?_
  refine R_istore rfl rfl ?_
  refine loop (pc := 4) (α := Int × Int × Sg) (fun x => (N - x.2.1).toNat) (fun x => ([(60, 0), (67, 0), (0, x.1), (0, x.2.1)], Wd xs t dd rr x.2.2)) (fun x => (0 ≤ x.2.1 ∧ x.2.1 ≤ N) ∧ (Fr [49, 50] [] σ x.2.2 ∧ (∀ w, 0 ≤ w → w < letc kd x.2.1 → x.2.2 49 w = nms (σ 51) kd nu len K W x.2.1 w)) ∧ x.1 = sumZ (fun l => if hld (σ 51) kd nu len K W 2 l = 1 then nu l else 0) x.2.1) ?_ (0, 0, σ) ?_
  · intro ⟨n, l, s1⟩ ⟨⟨hk0, hk1⟩, ⟨hF, hag⟩, hn⟩ ih
    dsimp only at hk0 hk1 hF hag hn ⊢
    have hsm := sumZ_s (f := fun l => if hld (σ 51) kd nu len K W 2 l = 1 then nu l else 0) hk0
    have hsb := sumZ_bd (f := fun l => if hld (σ 51) kd nu len K W 2 l = 1 then nu l else 0) (c := 99) hk0 (fun i i0 i1 => by have := hnn i i0 (by omega); split <;> omega)
    have hnl : l < N → _ := hnn l hk0
    have hkl := hk0
    have e0 := hF.row 44 rfl 0
    have c51 := hF.fn 51 rfl
    have f1 := hF.row 45 rfl l
    have f2 := hF.row 46 rfl l
    have f3 := hF.row 47 rfl l
    have f3' := hF.row 47 rfl (l + 1)
    have hCl : l < N → _ := hC.2 l hk0
    have hTl : l < N → _ := hT.2.2 l hk0
    refine R_iload rfl rfl ?_
    refine R_aload rfl rfl rfl ?_
    refine T_geti rfl rfl rfl ?_
    refine R_ic rfl (fun h9 => ?_) (fun h9 => ?_)
    · try simp only [ne_eq, b2i_e, b2i_1, Classical.not_not] at h9
      refine R_iload rfl rfl ?_
      refine R_iret rfl ?_
      exact hE _ _ (by congr 1; rw [hn]; congr 1; omega) hF
    · try simp only [ne_eq, b2i_e, b2i_1, Classical.not_not] at h9
      have hCl := hCl (by omega)
      have hTl := hTl (by omega)
      obtain ⟨k1, k2, k3, k4, k5⟩ := hCl
      simp only [Nat.reduceAdd] at k1 k2 k3 k4 k5
      have hln := hTl.2.1
      have hnl := hnl (by omega)
      refine R_aload rfl rfl rfl ?_
      refine R_iload rfl rfl ?_
      refine R_push rfl ?_
      refine R_invv rfl rfl rfl rfl rfl rfl (sp_X8_isNeeded_44 d (by omega) xs t dd rr s1 l _ ⟨by omega, by omega⟩) rfl ?_
      show pCm _ _ _ 20 _ [(0, _)] _
      refine R_if rfl (fun h20 => ?_) (fun h20 => ?_)
      · try simp only [ne_eq, b2i_e, b2i_1, Classical.not_not] at h20
        refine R_inc rfl rfl (by omega) (by omega) ?_
        refine R_goto rfl ?_
        first
        | (have hg : hld (σ 51) kd nu len K W 2 l = 1 := b2i_t ⟨by omega, by omega⟩
           exact ih (_, l + 1, s2) ⟨by dsimp only; omega, ⟨hFz, hag2⟩, by dsimp only; rw [hsm, if_pos hg, ← hn]; omega⟩ (by dsimp only; omega))
        | (have hg : hld (σ 51) kd nu len K W 2 l = 0 := b2i_f (by omega)
           exact ih (_, l + 1, s2) ⟨by dsimp only; omega, ⟨hFz, hag2⟩, by dsimp only; rw [hsm, hg, ← hn]; simp⟩ (by dsimp only; omega))
        | (have hg : hld (σ 51) kd nu len K W 2 l = 0 := b2i_f (by omega)
           exact ih (_, l + 1, s1) ⟨by dsimp only; omega, ⟨hF, ag_skip (N := N) hk0 (by omega) hag⟩, by dsimp only; rw [hsm, hg, ← hn]; simp⟩ (by dsimp only; omega))
      · try simp only [ne_eq, b2i_e, b2i_1, Classical.not_not] at h20
        refine R_aload rfl rfl rfl ?_
        refine R_iload rfl rfl ?_
        refine R_aload rfl rfl rfl ?_
        have hag0 := vln_nm (kn := σ 51) hT hk0 (by omega) hag
        obtain ⟨s2, hev, hF2, hnm⟩ := sp_X8_reckon_44 d (by omega) xs t dd rr s1 l (σ 47 l) (len l) (K l) (W l) ⟨by omega, by omega⟩ f3 (by rw [f3', k3]) ⟨k4.1, hln, k4.2⟩ (fun m m0 m1 => by rw [hF.row 48 rfl]; exact k5 m m0 m1) hTl.2.2.1
        rw [c51] at hev hnm
        have hvl : (erun (s1 49) (σ 51) (K l) (W l) (len l)).2 0 = vl (σ 51) kd nu len K W l := hag0
        rw [hvl] at hev hnm
        rw [f1, f2, k1, k2] at hnm
        have hag2 := ag_next hT hk0 (by omega) hag hnm
        have hFz : Fr [49, 50] [] σ s2 := hF.tr hF2 rfl rfl
        have z1 := hFz.row 45 rfl l
        have z2 := hFz.row 46 rfl l
        refine R_invv rfl rfl rfl rfl rfl rfl (hev) rfl ?_
        show pCm _ _ _ 29 _ [(0, _)] _
        refine R_if rfl (fun h29 => ?_) (fun h29 => ?_)
        · try simp only [ne_eq, b2i_e, b2i_1, Classical.not_not] at h29
          refine R_inc rfl rfl (by omega) (by omega) ?_
          refine R_goto rfl ?_
          first
          | (have hg : hld (σ 51) kd nu len K W 2 l = 1 := b2i_t ⟨by omega, by omega⟩
             exact ih (_, l + 1, s2) ⟨by dsimp only; omega, ⟨hFz, hag2⟩, by dsimp only; rw [hsm, if_pos hg, ← hn]; omega⟩ (by dsimp only; omega))
          | (have hg : hld (σ 51) kd nu len K W 2 l = 0 := b2i_f (by omega)
             exact ih (_, l + 1, s2) ⟨by dsimp only; omega, ⟨hFz, hag2⟩, by dsimp only; rw [hsm, hg, ← hn]; simp⟩ (by dsimp only; omega))
          | (have hg : hld (σ 51) kd nu len K W 2 l = 0 := b2i_f (by omega)
             exact ih (_, l + 1, s1) ⟨by dsimp only; omega, ⟨hF, ag_skip (N := N) hk0 (by omega) hag⟩, by dsimp only; rw [hsm, hg, ← hn]; simp⟩ (by dsimp only; omega))
        · try simp only [ne_eq, b2i_e, b2i_1, Classical.not_not] at h29
          refine R_aload rfl rfl rfl ?_
          refine T_getr (v := 61) rfl rfl rfl rfl ?_
          refine R_iload rfl rfl ?_
          refine T_ald rfl rfl (by omega) (by omega) ?_
          refine R_push rfl ?_
          refine R_ic rfl (fun h41 => ?_) (fun h41 => ?_)
          · try simp only [ne_eq, b2i_e, b2i_1, Classical.not_not] at h41
            refine R_inc rfl rfl (by omega) (by omega) ?_
            refine R_goto rfl ?_
            first
            | (have hg : hld (σ 51) kd nu len K W 2 l = 1 := b2i_t ⟨by omega, by omega⟩
               exact ih (_, l + 1, s2) ⟨by dsimp only; omega, ⟨hFz, hag2⟩, by dsimp only; rw [hsm, if_pos hg, ← hn]; omega⟩ (by dsimp only; omega))
            | (have hg : hld (σ 51) kd nu len K W 2 l = 0 := b2i_f (by omega)
               exact ih (_, l + 1, s2) ⟨by dsimp only; omega, ⟨hFz, hag2⟩, by dsimp only; rw [hsm, hg, ← hn]; simp⟩ (by dsimp only; omega))
            | (have hg : hld (σ 51) kd nu len K W 2 l = 0 := b2i_f (by omega)
               exact ih (_, l + 1, s1) ⟨by dsimp only; omega, ⟨hF, ag_skip (N := N) hk0 (by omega) hag⟩, by dsimp only; rw [hsm, hg, ← hn]; simp⟩ (by dsimp only; omega))
          · try simp only [ne_eq, b2i_e, b2i_1, Classical.not_not] at h41
            refine R_iload rfl rfl ?_
            refine R_aload rfl rfl rfl ?_
            refine T_getr (v := 62) rfl rfl rfl rfl ?_
            refine R_iload rfl rfl ?_
            refine T_ald rfl rfl (by omega) (by omega) ?_
            refine R_add rfl (by omega) (by omega) ?_
            refine R_istore rfl rfl ?_
            refine R_inc rfl rfl (by omega) (by omega) ?_
            refine R_goto rfl ?_
            first
            | (have hg : hld (σ 51) kd nu len K W 2 l = 1 := b2i_t ⟨by omega, by omega⟩
               exact ih (_, l + 1, s2) ⟨by dsimp only; omega, ⟨hFz, hag2⟩, by dsimp only; rw [hsm, if_pos hg, ← hn]; omega⟩ (by dsimp only; omega))
            | (have hg : hld (σ 51) kd nu len K W 2 l = 0 := b2i_f (by omega)
               exact ih (_, l + 1, s2) ⟨by dsimp only; omega, ⟨hFz, hag2⟩, by dsimp only; rw [hsm, hg, ← hn]; simp⟩ (by dsimp only; omega))
            | (have hg : hld (σ 51) kd nu len K W 2 l = 0 := b2i_f (by omega)
               exact ih (_, l + 1, s1) ⟨by dsimp only; omega, ⟨hF, ag_skip (N := N) hk0 (by omega) hag⟩, by dsimp only; rw [hsm, hg, ← hn]; simp⟩ (by dsimp only; omega))
  · exact ⟨⟨Int.le_refl _, hT.1.1⟩, ⟨Fr.rf, fun w w0 w1 => by
      have : letc kd 0 = 0 := rfl
      dsimp only at w1
      omega⟩, rfl⟩

def RW (s : Sg) (a : Int × (Int → Int)) : Prop := s 57 5 = a.1 ∧ ∀ i, 0 ≤ i → i < a.1 → i < 12 → s 58 i = a.2 i
theorem RW_add {s s' : Sg} {a : Int × (Int → Int)} {g v : Int → Int} {x y : Int} (h : RW s a) (h5 : s' 57 5 = s 57 5 + 1) (hr : ∀ i, s' 58 i = if i = s 57 5 ∧ s 57 5 < 12 then y else s 58 i) (hg : g x = 1) (hv : v x = y) : RW s' (gst g v x a) := by
  unfold gst
  rw [if_pos hg]
  refine ⟨by rw [h5, h.1], fun i i0 i1 i2 => ?_⟩
  have i1 : i < a.1 + 1 := i1
  have e := h.1
  rw [hr]
  show _ = fup a.2 a.1 (v x) i
  by_cases q : i = a.1
  · rw [if_pos ⟨by omega, by omega⟩, q, fup_s, hv]
  · rw [if_neg (by omega), fup_o q]; exact h.2 i i0 (by omega) i2
theorem RW_skip {s : Sg} {a : Int × (Int → Int)} {g v : Int → Int} {x : Int} (h : RW s a) (hg : g x ≠ 1) : RW s (gst g v x a) := by
  unfold gst
  rw [if_neg hg]; exact h
theorem RW_fr {s s' : Sg} {a : Int × (Int → Int)} (h : RW s a) (h5 : s' 57 5 = s 57 5) (hr : s' 58 = s 58) : RW s' a := by
  unfold RW; rw [h5, hr]; exact h
set_option maxRecDepth 20000 in
set_option maxHeartbeats 2000000 in
theorem sp_X0_gather (d : Nat) (hd : 4 ≤ d) (xs : List (Nat × Nat)) (t dd rr : Nat) (σ : Sg) (c : Int) (P J : Int) (hH : BH σ P J)  : ∃ σ', Ev d 140 [(73, 0), (0, c)] (Wd xs t dd rr σ) (8, 0) (Wd xs t dd rr σ') ∧ Fr [58] [(57, 5)] σ σ' ∧ RW σ' (gtS σ P J c (8 * P)) := by
  obtain ⟨d, rfl⟩ : ∃ e, d = e + 1 := ⟨d - 1, by omega⟩
  obtain ⟨⟨hP, hJ, h0, hJ0, hJB⟩, hHH, h32, h17, hcut⟩ := id hH
  refine evS (nL := 3) (code := k_X0_gather) rfl dc_X0_gather rfl (fun E hE => ?_)
  show pCm (Ev d) k_X0_gather E 0 [(73, 0), (0, c), (9, 0)] [] _
  refine R_aload rfl rfl rfl ?_
  refine R_push rfl ?_
  refine T_puti rfl rfl rfl ?_
  refine R_push rfl ?_
  refine R_istore rfl rfl ?_
  refine loop (pc := 7) (α := Int × Sg) (fun x => (P - x.1).toNat) (fun x => ([(73, 0), (0, c), (0, x.1)], Wd xs t dd rr x.2)) (fun x => (0 ≤ x.1 ∧ x.1 ≤ P) ∧ Fr [58] [(57, 5)] σ x.2 ∧ RW x.2 (gt1 c (σ 29) (σ 30) x.1) ∧ 0 ≤ x.2 57 5 ∧ x.2 57 5 ≤ x.1) ?_ (0, up2 σ 57 5 0) ?_
  · intro ⟨k, s⟩ ⟨⟨hk0, hk1⟩, hF, hR, hb⟩ ih
    dsimp only at hk0 hk1 hF hR hb ⊢
    have e1 := hF.row 1 rfl 0
    have e29 := hF.row 29 rfl k
    have e30 := hF.row 30 rfl k
    have hgt := gt1_s (c := c) (co := σ 29) (who := σ 30) hk0
    have hg1 : gg1 c (σ 29) (σ 30) k = 1 ∧ (σ 29 k = c ∧ σ 30 k = k) ∨ gg1 c (σ 29) (σ 30) k = 0 ∧ ¬ (σ 29 k = c ∧ σ 30 k = k) := b2i_or
    refine R_iload rfl rfl ?_
    refine R_aload rfl rfl rfl ?_
    refine T_getr (v := 17) rfl rfl rfl rfl ?_
    refine T_geti rfl rfl rfl ?_
    refine R_ic rfl (fun h15 => ?_) (fun h15 => ?_)
    · try simp only [ne_eq, b2i_e, b2i_1, Classical.not_not] at h15
      refine R_push rfl ?_
      refine R_istore rfl rfl ?_
      refine loop (pc := 57) (α := Int × Sg) (fun x => (8 * P - x.1).toNat) (fun x => ([(73, 0), (0, c), (0, x.1)], Wd xs t dd rr x.2)) (fun x => (0 ≤ x.1 ∧ x.1 ≤ 8 * P) ∧ Fr [58] [(57, 5)] σ x.2 ∧ RW x.2 (gtS σ P J c x.1) ∧ 0 ≤ x.2 57 5 ∧ x.2 57 5 ≤ P + x.1) ?_ (0, s) ?_
      · clear ih
        intro ⟨k, s⟩ ⟨⟨hk0, hk1⟩, hF, hR, hb⟩ ih
        dsimp only at hk0 hk1 hF hR hb ⊢
        have hFb : Fb σ s := hF.tr (r2 := []) (s2 := []) Fr.rf rfl rfl
        have e1 := hF.row 1 rfl 0
        have hgt : gtS σ P J c (k + 1) = _ := gt2_s hk0
        have hg2 : gg2 P c (hsS σ) (σ 14) (σ 29) (σ 30) (mtS σ J) k = 1 ∧ (hsS σ k = 1 ∧ σ 29 (k / 8) = c ∧ blS σ P J k = 100 + k) ∨ gg2 P c (hsS σ) (σ 14) (σ 29) (σ 30) (mtS σ J) k = 0 ∧ ¬ (hsS σ k = 1 ∧ σ 29 (k / 8) = c ∧ blS σ P J k = 100 + k) := b2i_or
        refine R_iload rfl rfl ?_
        refine R_aload rfl rfl rfl ?_
        refine T_getr (v := 17) rfl rfl rfl rfl ?_
        refine T_geti rfl rfl rfl ?_
        refine R_push rfl ?_
        refine R_mul rfl (by omega) (by omega) ?_
        refine R_ic rfl (fun h68 => ?_) (fun h68 => ?_)
        · try simp only [ne_eq, b2i_e, b2i_1, Classical.not_not] at h68
          refine R_vret rfl ?_
          exact hE _ _ rfl ⟨hF, by rw [← show k = 8 * P by omega]; exact hR⟩
        · try simp only [ne_eq, b2i_e, b2i_1, Classical.not_not] at h68
          refine R_aload rfl rfl rfl ?_
          refine R_iload rfl rfl ?_
          refine R_iload rfl rfl ?_
          have hfo := sp_X0_isFaceOf d (by omega) xs t dd rr s c P J (BH_fr hH hFb) k ⟨by omega, by omega⟩
          rw [hsS_fr (hFb.fn 13 rfl), hFb.row 29 rfl] at hfo
          refine R_invv rfl rfl rfl rfl rfl rfl (hfo) rfl ?_
          show pCm _ _ _ 77 _ [(0, _)] _
          refine R_if rfl (fun h77 => ?_) (fun h77 => ?_)
          · try simp only [ne_eq, b2i_e, b2i_1, Classical.not_not] at h77
            refine R_inc rfl rfl (by omega) (by omega) ?_
            refine R_goto rfl ?_
            first
            | exact ih (k + 1, s2) ⟨by dsimp only; omega, hF.tr (r3 := [58]) (s3 := [(57, 5)]) hF2 rfl rfl, by dsimp only; rw [hgt]; exact RW_add hR h52 hr2 (by omega) rfl, by dsimp only; omega⟩ (by dsimp only; omega)
            | exact ih (k + 1, s) ⟨by dsimp only; omega, hF, by dsimp only; rw [hgt]; exact RW_skip hR (by omega), by dsimp only; omega⟩ (by dsimp only; omega)
          · try simp only [ne_eq, b2i_e, b2i_1, Classical.not_not] at h77
            refine R_aload rfl rfl rfl ?_
            refine R_iload rfl rfl ?_
            have hho := sp_X0_isHole d (by omega) xs t dd rr s P J (BH_fr hH hFb) k ⟨by omega, by omega⟩ (by rw [hsS_fr (hFb.fn 13 rfl)]; omega)
            rw [blS_fr hFb] at hho
            refine R_invv rfl rfl rfl rfl rfl rfl (hho) rfl ?_
            show pCm _ _ _ 85 _ [(0, _)] _
            refine R_if rfl (fun h85 => ?_) (fun h85 => ?_)
            · try simp only [ne_eq, b2i_e, b2i_1, Classical.not_not] at h85
              refine R_inc rfl rfl (by omega) (by omega) ?_
              refine R_goto rfl ?_
              first
              | exact ih (k + 1, s2) ⟨by dsimp only; omega, hF.tr (r3 := [58]) (s3 := [(57, 5)]) hF2 rfl rfl, by dsimp only; rw [hgt]; exact RW_add hR h52 hr2 (by omega) rfl, by dsimp only; omega⟩ (by dsimp only; omega)
              | exact ih (k + 1, s) ⟨by dsimp only; omega, hF, by dsimp only; rw [hgt]; exact RW_skip hR (by omega), by dsimp only; omega⟩ (by dsimp only; omega)
            · try simp only [ne_eq, b2i_e, b2i_1, Classical.not_not] at h85
              refine R_aload rfl rfl rfl ?_
              refine R_push rfl ?_
              refine R_iload rfl rfl ?_
              refine R_add rfl (by omega) (by omega) ?_
              obtain ⟨s2, hev, hF2, h52, hr2⟩ := sp_X0_addBlow d (by omega) xs t dd rr s (100 + k) ⟨by omega, by omega⟩
              refine R_invv rfl rfl rfl rfl rfl rfl (hev) rfl ?_
              show pCm _ _ _ 96 _ [] _
              refine R_inc rfl rfl (by omega) (by omega) ?_
              refine R_goto rfl ?_
              first
              | exact ih (k + 1, s2) ⟨by dsimp only; omega, hF.tr (r3 := [58]) (s3 := [(57, 5)]) hF2 rfl rfl, by dsimp only; rw [hgt]; exact RW_add hR h52 hr2 (by omega) rfl, by dsimp only; omega⟩ (by dsimp only; omega)
              | exact ih (k + 1, s) ⟨by dsimp only; omega, hF, by dsimp only; rw [hgt]; exact RW_skip hR (by omega), by dsimp only; omega⟩ (by dsimp only; omega)
      · exact ⟨⟨Int.le_refl _, by dsimp only; omega⟩, hF, by
          have : k = P := by omega
          rw [this] at hR
          exact hR, by dsimp only; omega⟩
    · try simp only [ne_eq, b2i_e, b2i_1, Classical.not_not] at h15
      refine R_aload rfl rfl rfl ?_
      refine T_getr (v := 44) rfl rfl rfl rfl ?_
      refine T_getr (v := 45) rfl rfl rfl rfl ?_
      refine R_iload rfl rfl ?_
      refine T_ald rfl rfl (by omega) (by omega) ?_
      refine R_iload rfl rfl ?_
      refine R_ic rfl (fun h28 => ?_) (fun h28 => ?_)
      · try simp only [ne_eq, b2i_e, b2i_1, Classical.not_not] at h28
        refine R_inc rfl rfl (by omega) (by omega) ?_
        refine R_goto rfl ?_
        first
        | exact ih (k + 1, s2) ⟨by dsimp only; omega, hF.tr (r3 := [58]) (s3 := [(57, 5)]) hF2 rfl rfl, by dsimp only; rw [hgt]; exact RW_add hR h52 hr2 (by omega) rfl, by dsimp only; omega⟩ (by dsimp only; omega)
        | exact ih (k + 1, s) ⟨by dsimp only; omega, hF, by dsimp only; rw [hgt]; exact RW_skip hR (by omega), by dsimp only; omega⟩ (by dsimp only; omega)
      · try simp only [ne_eq, b2i_e, b2i_1, Classical.not_not] at h28
        refine R_aload rfl rfl rfl ?_
        refine T_getr (v := 44) rfl rfl rfl rfl ?_
        refine T_getr (v := 46) rfl rfl rfl rfl ?_
        refine R_iload rfl rfl ?_
        refine T_ald rfl rfl (by omega) (by omega) ?_
        refine R_iload rfl rfl ?_
        refine R_ic rfl (fun h41 => ?_) (fun h41 => ?_)
        · try simp only [ne_eq, b2i_e, b2i_1, Classical.not_not] at h41
          refine R_inc rfl rfl (by omega) (by omega) ?_
          refine R_goto rfl ?_
          first
          | exact ih (k + 1, s2) ⟨by dsimp only; omega, hF.tr (r3 := [58]) (s3 := [(57, 5)]) hF2 rfl rfl, by dsimp only; rw [hgt]; exact RW_add hR h52 hr2 (by omega) rfl, by dsimp only; omega⟩ (by dsimp only; omega)
          | exact ih (k + 1, s) ⟨by dsimp only; omega, hF, by dsimp only; rw [hgt]; exact RW_skip hR (by omega), by dsimp only; omega⟩ (by dsimp only; omega)
        · try simp only [ne_eq, b2i_e, b2i_1, Classical.not_not] at h41
          refine R_aload rfl rfl rfl ?_
          refine R_iload rfl rfl ?_
          obtain ⟨s2, hev, hF2, h52, hr2⟩ := sp_X0_addBlow d (by omega) xs t dd rr s (k) ⟨by omega, by omega⟩
          refine R_invv rfl rfl rfl rfl rfl rfl (hev) rfl ?_
          show pCm _ _ _ 49 _ [] _
          refine R_inc rfl rfl (by omega) (by omega) ?_
          refine R_goto rfl ?_
          first
          | exact ih (k + 1, s2) ⟨by dsimp only; omega, hF.tr (r3 := [58]) (s3 := [(57, 5)]) hF2 rfl rfl, by dsimp only; rw [hgt]; exact RW_add hR h52 hr2 (by omega) rfl, by dsimp only; omega⟩ (by dsimp only; omega)
          | exact ih (k + 1, s) ⟨by dsimp only; omega, hF, by dsimp only; rw [hgt]; exact RW_skip hR (by omega), by dsimp only; omega⟩ (by dsimp only; omega)
  · exact ⟨⟨Int.le_refl _, h0.1⟩, (Fr.rf (rows := [58]) (sl := [(57, 5)])).up rfl, ⟨by simp [up2]; rfl, fun i i0 i1 => absurd i1 (by show ¬ i < 0; omega)⟩, by simp [up2]⟩
/-- the class's blows of the cobble c are told -/
def RT (s : Sg) (R : Int → Int) (T : Int) : Prop := s 57 5 = T ∧ (0 ≤ T ∧ T ≤ 12) ∧ (∀ i, 0 ≤ i → i < T → s 58 i = R i) ∧ (∀ i j, 0 ≤ i → i < j → j < T → R i < R j) ∧ ∀ i, 0 ≤ i → i < T → 0 ≤ R i
theorem RT_fr {s s' : Sg} {R : Int → Int} {T : Int} (h : RT s R T) (h5 : s' 57 5 = s 57 5) (hr : s' 58 = s 58) : RT s' R T := by
  unfold RT; rw [h5, hr]; exact h
theorem idx_none {R : Int → Int} {T y : Int} (hT : 0 ≤ T) (h : ∀ i, 0 ≤ i → i < T → R i ≠ y) : idx R T y = -1 := by
  rcases idx_c (R := R) (T := T) (y := y) hT with w | w
  · exact w.1
  · exact absurd w.2.2 (h _ w.1 w.2.1)
set_option maxRecDepth 20000 in
set_option maxHeartbeats 2000000 in
theorem sp_X0_placeOf (d : Nat) (hd : 1 ≤ d) (xs : List (Nat × Nat)) (t dd rr : Nat) (σ : Sg) (y : Int) (R : Int → Int) (T : Int) (hR : RT σ R T) : Ev d 142 [(73, 0), (0, y)] (Wd xs t dd rr σ) (0, idx R T y) (Wd xs t dd rr σ) := by
  obtain ⟨d, rfl⟩ : ∃ e, d = e + 1 := ⟨d - 1, by omega⟩
  obtain ⟨hR1, hR2, hR3, hR4, hR5⟩ := hR
  refine evP (nL := 3) (code := k_X0_placeOf) rfl pb0 rfl (fun E hE => ?_)
  show pCm (Ev d) k_X0_placeOf E 0 [(73, 0), (0, y), (9, 0)] [] _
  refine R_push rfl ?_
  refine R_istore rfl rfl ?_
  refine loop (pc := 2) (α := Int) (fun x => (T - x).toNat) (fun x => ([(73, 0), (0, y), (0, x)], Wd xs t dd rr σ)) (fun x => (0 ≤ x ∧ x ≤ T) ∧ ∀ i, 0 ≤ i → i < x → R i ≠ y) ?_ 0 ?_
  · intro k ⟨⟨hk0, hk1⟩, hn⟩ ih
    dsimp only at hk0 hk1 hn ⊢
    have hrk : k < T → σ 58 k = R k := hR3 k hk0
    refine R_iload rfl rfl ?_
    refine R_aload rfl rfl rfl ?_
    refine T_geti rfl rfl rfl ?_
    refine R_ic rfl (fun h7 => ?_) (fun h7 => ?_)
    · try simp only [ne_eq, b2i_e, b2i_1, Classical.not_not] at h7
      refine R_push rfl ?_
      refine R_iret rfl ?_
      exact hE _ (by rw [idx_none hR2.1 (fun i i0 i1 => hn i i0 (by omega))])
    · try simp only [ne_eq, b2i_e, b2i_1, Classical.not_not] at h7
      refine R_iload rfl rfl ?_
      refine R_push rfl ?_
      refine R_ic rfl (fun h13 => ?_) (fun h13 => ?_)
      · try simp only [ne_eq, b2i_e, b2i_1, Classical.not_not] at h13
        refine R_push rfl ?_
        refine R_iret rfl ?_
        exact hE _ (by rw [idx_none hR2.1 (fun i i0 i1 => hn i i0 (by omega))])
      · try simp only [ne_eq, b2i_e, b2i_1, Classical.not_not] at h13
        refine R_aload rfl rfl rfl ?_
        refine T_getr (v := 74) rfl rfl rfl rfl ?_
        refine R_iload rfl rfl ?_
        refine T_ald rfl rfl (by omega) (by omega) ?_
        refine R_iload rfl rfl ?_
        refine R_ic rfl (fun h23 => ?_) (fun h23 => ?_)
        · try simp only [ne_eq, b2i_e, b2i_1, Classical.not_not] at h23
          refine R_inc rfl rfl (by omega) (by omega) ?_
          refine R_goto rfl ?_
          refine ih (k + 1) ⟨⟨by omega, by omega⟩, fun i i0 i1 => ?_⟩ (by omega)
          by_cases q : i = k
          · rw [q]; have := hrk (by omega); omega
          · exact hn i i0 (by omega)
        · try simp only [ne_eq, b2i_e, b2i_1, Classical.not_not] at h23
          refine R_iload rfl rfl ?_
          refine R_iret rfl ?_
          exact hE _ (by have e := hrk (by omega); have := idx_at hR4 hk0 (by omega); rw [← e] at this; rw [← this]; congr 2)
  · exact ⟨⟨Int.le_refl _, hR2.1⟩, fun i i0 i1 => by omega⟩

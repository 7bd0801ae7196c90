theorem Fr.fn {rows : List Nat} {sl : List (Nat × Int)} {σ σ' : Sg} (h : Fr rows sl σ σ') (k : Nat) (hk : (rows.contains k || sl.any (fun q => q.1 == k)) = false) : σ' k = σ k := funext (h.row k hk)
theorem BI_start {P u : Int} {q t : Int → Int} (hu : 0 ≤ u ∧ u < P) (ht : ∀ p, 0 ≤ p → p < P → -1 ≤ t p ∧ t p ≤ 7) : BI P (1, fup q 0 u, fup t u 0) := by
  refine ⟨⟨Int.le_refl _, ?_⟩, fun i h0 h1 => ?_, fun p h0 h1 => ?_⟩
  · exact sumZ_ge1 (p := fun p => decide (fup t u 0 p ≠ -1)) hu.1 hu.2 (by rw [fup_s]; decide)
  · dsimp only at h1 ⊢
    rw [show i = 0 by omega, fup_s, fup_s]
    exact ⟨hu.1, hu.2, by decide⟩
  · dsimp only
    by_cases z : p = u
    · rw [z, fup_s]; decide
    · rw [fup_o z]; exact ht p h0 h1
theorem onS_fr {σ σ' : Sg} (h : σ' 26 = σ 26) : onS σ' = onS σ := by unfold onS; rw [h]
theorem onM_fr {σ σ' : Sg} (h : σ' 106 = σ 106) : onM σ' = onM σ := by unfold onM; rw [h]
theorem CB_fr {σ σ' : Sg} {P J : Int} (h : CB σ P J) (h1 : σ' 1 0 = σ 1 0) (h21 : σ' 21 0 = σ 21 0) (h22 : σ' 22 = σ 22) (h23 : σ' 23 = σ 23) : CB σ' P J := by unfold CB; rw [h1, h21, h22, h23]; exact h
set_option maxRecDepth 20000 in
set_option maxHeartbeats 2000000 in
theorem sp_X3_set (d : Nat) (hd : 4 ≤ d) (xs : List (Nat × Nat)) (t dd rr : Nat) (σ : Sg) (u P J : Int) (hC : CB σ P J) (hT : ∀ j, 0 ≤ j → j < J → 0 ≤ σ 24 j ∧ σ 24 j ≤ 7) (hu : 0 ≤ u ∧ u < P) (ht : ∀ p, 0 ≤ p → p < P → -1 ≤ σ 31 p ∧ σ 31 p ≤ 7) : ∃ σ', Ev d 178 [(44, 0), (0, u)] (Wd xs t dd rr σ) (8, 0) (Wd xs t dd rr σ') ∧ Fr [31, 34] [] σ σ' ∧ σ' 31 = (bfs (onS σ) (σ 22) (σ 23) (σ 24) J 40 (1, fup (σ 34) 0 u, fup (σ 31) u 0)).2.2 := by
  obtain ⟨d, rfl⟩ : ∃ e, d = e + 1 := ⟨d - 1, by omega⟩
  have hC0 := hC
  obtain ⟨h1_, h21_, hP0, hJ0, hAB⟩ := hC
  have hPJ : 0 ≤ P ∧ P ≤ 40 ∧ 0 ≤ J ∧ J ≤ 80 := ⟨hP0.1, hP0.2, hJ0.1, hJ0.2⟩
  clear hP0 hJ0
  refine evS (nL := 4) (code := k_X3_set) rfl dc_X3_set rfl (fun E hE => ?_)
  show pCm (Ev d) k_X3_set E 0 [(44, 0), (0, u), (9, 0), (9, 0)] [] _
  refine R_aload rfl rfl rfl ?_
  refine T_getr (v := 47) rfl rfl rfl rfl ?_
  refine R_iload rfl rfl ?_
  refine R_push rfl ?_
  refine T_iast rfl rfl (by omega) (by omega) ?_
  refine R_aload rfl rfl rfl ?_
  refine T_getr (v := 50) rfl rfl rfl rfl ?_
  refine R_push rfl ?_
  refine R_iload rfl rfl ?_
  refine T_iast rfl rfl (by omega) (by omega) ?_
  refine R_push rfl ?_
  refine R_istore rfl rfl ?_
  refine R_push rfl ?_
  refine R_istore rfl rfl ?_
  generalize hs0 : up2 (up2 σ 31 u 0) 34 0 u = s0
  have hF0 : Fr [31, 34] [] σ s0 := by rw [← hs0]; exact (Fr.rf.upr rfl).upr rfl
  have e31 : s0 31 = fup (σ 31) u 0 := by rw [← hs0, up_rowo (by decide), up_row]
  have e34 : s0 34 = fup (σ 34) 0 u := by rw [← hs0, up_row, up_rowo (by decide)]
  have hB0 := BI_start (q := σ 34) hu ht
  refine loop (pc := 18) (α := Int × Int × Sg) (fun a => (40 - a.1).toNat) (fun a => ([(44, 0), (0, u), (0, a.2.1), (0, a.1)], Wd xs t dd rr a.2.2)) (fun a => (0 ≤ a.1 ∧ a.1 ≤ 40) ∧ Fr [31, 34] [] σ a.2.2 ∧ (a.2.1, a.2.2 34, a.2.2 31) = bfs (onS σ) (σ 22) (σ 23) (σ 24) J a.1 (1, fup (σ 34) 0 u, fup (σ 31) u 0)) ?_ (0, 1, s0) ?_
  · intro ⟨m, n, s1⟩ ⟨hk, hF, hst⟩ ih
    dsimp only at hk hF hst ⊢
    have hB := (BI_bfs (on := onS σ) (T := σ 24) hPJ.1 hPJ.2.2.1 hAB hB0 m hk.1).1
    rw [← hst] at hB
    have hle := BI_le hPJ.1 hB
    dsimp only at hle
    have hq := hB.2.1 m hk.1
    dsimp only at hq
    have c1 := hF.row 1 rfl 0
    have c21 := hF.row 21 rfl 0
    have c22 := hF.fn 22 rfl
    have c23 := hF.fn 23 rfl
    have c24 := hF.fn 24 rfl
    have c26 := hF.fn 26 rfl
    refine R_iload rfl rfl ?_
    refine R_iload rfl rfl ?_
    refine R_ic rfl (fun h20 => ?_) (fun h20 => ?_)
    · try simp only [ne_eq, b2i_e, b2i_1, Classical.not_not] at h20
      refine R_vret rfl ?_
      refine hE _ _ rfl ⟨hF, ?_⟩
      have e : bfs (onS σ) (σ 22) (σ 23) (σ 24) J 40 (1, fup (σ 34) 0 u, fup (σ 31) u 0) = bfs (onS σ) (σ 22) (σ 23) (σ 24) J m (1, fup (σ 34) 0 u, fup (σ 31) u 0) := by
        first
        | exact bfs_stop hk.1 (by rw [← hst]; dsimp only; omega) 40 hk.2
        | rw [show m = 40 by omega]
      rw [e, ← hst]
    · try simp only [ne_eq, b2i_e, b2i_1, Classical.not_not] at h20
      refine R_iload rfl rfl ?_
      refine R_push rfl ?_
      refine R_ic rfl (fun h26 => ?_) (fun h26 => ?_)
      · try simp only [ne_eq, b2i_e, b2i_1, Classical.not_not] at h26
        refine R_vret rfl ?_
        refine hE _ _ rfl ⟨hF, ?_⟩
        have e : bfs (onS σ) (σ 22) (σ 23) (σ 24) J 40 (1, fup (σ 34) 0 u, fup (σ 31) u 0) = bfs (onS σ) (σ 22) (σ 23) (σ 24) J m (1, fup (σ 34) 0 u, fup (σ 31) u 0) := by
          first
          | exact bfs_stop hk.1 (by rw [← hst]; dsimp only; omega) 40 hk.2
          | rw [show m = 40 by omega]
        rw [e, ← hst]
      · try simp only [ne_eq, b2i_e, b2i_1, Classical.not_not] at h26
        refine R_aload rfl rfl rfl ?_
        refine R_aload rfl rfl rfl ?_
        refine T_getr (v := 50) rfl rfl rfl rfl ?_
        refine R_iload rfl rfl ?_
        refine T_ald rfl rfl (by omega) (by omega) ?_
        refine R_iload rfl rfl ?_
        have hq := hq (by omega)
        obtain ⟨s4, hev, hF4, q4, r4⟩ := sp_X3_setNeighbours d (by omega) xs t dd rr s1 (s1 34 m) n P J (CB_fr hC0 c1 c21 c22 c23) (by rw [c24]; exact hT) ⟨hq.1, hq.2.1⟩ hq.2.2 hB
        rw [onS_fr c26, c22, c23, c24] at hev q4 r4
        refine R_invv rfl rfl rfl rfl rfl rfl (hev) rfl ?_
        show pCm _ _ _ 40 _ [(0, _)] _
        try have h20 : m < n := by omega
        refine R_istore rfl rfl ?_
        refine R_inc rfl rfl (by omega) (by omega) ?_
        refine R_goto rfl ?_
        exact ih (m + 1, _, s4) ⟨by dsimp only; omega, hF.tr hF4 rfl rfl, by
          dsimp only
          rw [bfs_s hk.1, ← hst, if_pos h20, r4, q4]⟩ (by dsimp only; omega)
  · exact ⟨⟨Int.le_refl _, by dsimp only; omega⟩, hF0, by dsimp only; rw [e31, e34]; rfl⟩
/-- the reference's walk: rows 108 (turns), 109 (found), 110 (order) stand for S -/
def SR (P : Int) (s : Sg) (S : BS) : Prop := (∀ i, 0 ≤ i → i < S.1 → s 110 i = S.2.1 i) ∧ ∀ p, 0 ≤ p → p < P → (s 109 p = 0 ∧ S.2.2 p = -1 ∨ s 109 p = 1 ∧ S.2.2 p = s 108 p ∧ S.2.2 p ≠ -1)
def bs0 (u : Int) : BS := (1, fun _ => u, fup (fun _ => -1) u 0)
theorem BI_bs0 {P u : Int} (hu : 0 ≤ u ∧ u < P) : BI P (bs0 u) := by
  have h := BI_start (q := fun _ => u) (t := fun _ => -1) hu (fun p _ _ => by decide)
  have e : fup (fun _ => u) 0 u = fun _ => u := by funext k; unfold fup; split <;> rfl
  rw [e] at h
  exact h
theorem SR_up {P q n v : Int} {s : Sg} {S : BS} (h : SR P s S) (hn : n = S.1) (hv : v ≠ -1) : SR P (up2 (up2 (up2 s 109 q 1) 108 q v) 110 n q) (n + 1, fup S.2.1 n q, fup S.2.2 q v) := by
  refine ⟨fun i h0 h1 => ?_, fun p h0 h1 => ?_⟩
  · dsimp only at h1 ⊢
    by_cases z : i = n
    · simp [up2, fup, z]
    · have := h.1 i h0 (by omega)
      simp [up2, fup, z, this]
  · dsimp only
    by_cases z : p = q
    · refine Or.inr ?_
      simp [up2, fup, z, hv]
    · have := h.2 p h0 h1
      simpa [up2, fup, z] using this
set_option maxRecDepth 20000 in
set_option maxHeartbeats 2000000 in
theorem sp_X10_sets (d : Nat) (hd : 2 ≤ d) (xs : List (Nat × Nat)) (t dd rr : Nat) (σ : Sg) (u P J : Int) (hM : MB σ P J) (hT : ∀ j, 0 ≤ j → j < J → 0 ≤ σ 104 j ∧ σ 104 j ≤ 7) (hu : 0 ≤ u ∧ u < P) : ∃ σ', Ev d 87 [(87, 0), (0, u)] (Wd xs t dd rr σ) (8, 0) (Wd xs t dd rr σ') ∧ Fr [108, 109, 110] [] σ σ' ∧ SR P σ' (bfs (onM σ) (σ 102) (σ 103) (σ 104) J 40 (bs0 u)) := by
  obtain ⟨d, rfl⟩ : ∃ e, d = e + 1 := ⟨d - 1, by omega⟩
  obtain ⟨h26, h43, hP0, hJ0, hAB⟩ := hM
  have hPJ : 0 ≤ P ∧ P ≤ 40 ∧ 0 ≤ J ∧ J ≤ 80 := ⟨hP0.1, hP0.2, hJ0.1, hJ0.2⟩
  clear hP0 hJ0
  refine evS (nL := 8) (code := k_X10_sets) rfl dc_X10_sets rfl (fun E hE => ?_)
  show pCm (Ev d) k_X10_sets E 0 [(87, 0), (0, u), (9, 0), (9, 0), (9, 0), (9, 0), (9, 0), (9, 0)] [] _
  refine R_push rfl ?_
  refine R_istore rfl rfl ?_
  refine fgt wc_X10_sets [1, 1, 1, 0, 0, 0, 0, 0] ?_
  refine loop (pc := 2) (α := Int × Sg) (fun a => (P - a.1).toNat) (fun a => ([(87, 0), (0, u), (0, a.1), (9, 0), (9, 0), (9, 0), (9, 0), (9, 0)], Wd xs t dd rr a.2)) (fun a => (0 ≤ a.1 ∧ a.1 ≤ P) ∧ Fr [109] [] σ a.2 ∧ ∀ p, 0 ≤ p → p < a.1 → a.2 109 p = 0) ?_ (0, σ) ?_
  · intro ⟨k, s1⟩ ⟨hk, hF, hv⟩ ih
    dsimp only at hk hF hv ⊢
    have e26 := hF.row 71 rfl 26
    refine R_iload rfl rfl ?_
    refine R_aload rfl rfl rfl ?_
    refine T_geti rfl rfl rfl ?_
    refine R_ic rfl (fun h7 => ?_) (fun h7 => ?_)
    · try simp only [ne_eq, b2i_e, b2i_1, Classical.not_not] at h7
      refine R_push rfl ?_
      refine R_istore rfl rfl ?_
      refine R_aload rfl rfl rfl ?_
      refine T_getr (v := 126) rfl rfl rfl rfl ?_
      refine R_push rfl ?_
      refine R_iload rfl rfl ?_
      refine T_iast rfl rfl (by omega) (by omega) ?_
      refine R_aload rfl rfl rfl ?_
      refine T_getr (v := 125) rfl rfl rfl rfl ?_
      refine R_iload rfl rfl ?_
      refine R_push rfl ?_
      refine T_zast rfl rfl (by omega) (by omega) (by omega) ?_
      refine R_aload rfl rfl rfl ?_
      refine T_getr (v := 124) rfl rfl rfl rfl ?_
      refine R_iload rfl rfl ?_
      refine R_push rfl ?_
      refine T_iast rfl rfl (by omega) (by omega) ?_
      refine R_push rfl ?_
      refine R_istore rfl rfl ?_
      refine fgt wc_X10_sets [1, 1, 1, 1, 0, 0, 0, 0] ?_
      generalize hs0 : up2 (up2 (up2 s1 110 0 u) 109 u 1) 108 u 0 = s0
      have hF0 : Fr [108, 109, 110] [] σ s0 := by rw [← hs0]; exact (((hF.tr (r2 := []) (s2 := []) (r3 := [108, 109, 110]) (s3 := []) Fr.rf rfl rfl).upr rfl).upr rfl).upr rfl
      have hS0 : SR P s0 (bs0 u) := by
        refine ⟨fun i i0 i1 => ?_, fun p p0 p1 => ?_⟩
        · have i1 : i < 1 := i1
          have i2 : i = 0 := by omega
          rw [← hs0]; simp [up2, bs0, i2]
        · rw [← hs0]
          by_cases z : p = u
          · refine Or.inr ?_
            simp [up2, bs0, fup, z]
          · have := hv p p0 (by omega)
            refine Or.inl ?_
            simp [up2, bs0, fup, z, this]
      clear ih hk h7 e26 hv
      clear hs0
      clear hF
      refine loop (pc := 48) (α := Int × Int × Sg) (fun a => (40 - a.1).toNat) (fun a => ([(87, 0), (0, u), (0, a.2.1), (0, a.1), (9, 0), (9, 0), (9, 0), (9, 0)], Wd xs t dd rr a.2.2)) (fun a => (0 ≤ a.1 ∧ a.1 ≤ a.2.1) ∧ Fr [108, 109, 110] [] σ a.2.2 ∧ a.2.1 = (bfs (onM σ) (σ 102) (σ 103) (σ 104) J a.1 (bs0 u)).1 ∧ SR P a.2.2 (bfs (onM σ) (σ 102) (σ 103) (σ 104) J a.1 (bs0 u))) ?_ (0, 1, s0) ?_
      · intro ⟨i, n, s1⟩ ⟨hk, hF, hn, hS⟩ ih
        dsimp only at hk hF hn hS ⊢
        have e43 := hF.row 71 rfl 43
        have hB := (BI_bfs (on := onM σ) (T := σ 104) hPJ.1 hPJ.2.2.1 hAB (BI_bs0 hu) i hk.1).1
        have hle := BI_le hPJ.1 hB
        have hq := hB.2.1 i hk.1
        generalize hS1 : bfs (onM σ) (σ 102) (σ 103) (σ 104) J i (bs0 u) = S1 at *
        generalize hU : S1.2.1 i = w at hq
        refine R_iload rfl rfl ?_
        refine R_iload rfl rfl ?_
        refine R_ic rfl (fun h50 => ?_) (fun h50 => ?_)
        · try simp only [ne_eq, b2i_e, b2i_1, Classical.not_not] at h50
          refine R_vret rfl ?_
          refine hE _ _ rfl ⟨hF, ?_⟩
          rw [bfs_stop hk.1 (by rw [hS1]; omega) 40 (by omega), hS1]
          exact hS
        · try simp only [ne_eq, b2i_e, b2i_1, Classical.not_not] at h50
          refine R_push rfl ?_
          refine R_istore rfl rfl ?_
          have hq := hq (by omega)
          refine fgt wc_X10_sets [1, 1, 1, 1, 1, 0, 0, 0] ?_
          refine loop (pc := 56) (α := Int × Int × Sg) (fun a => (J - a.1).toNat) (fun a => ([(87, 0), (0, u), (0, a.2.1), (0, i), (0, a.1), (9, 0), (9, 0), (9, 0)], Wd xs t dd rr a.2.2)) (fun a => (0 ≤ a.1 ∧ a.1 ≤ J) ∧ Fr [108, 109, 110] [] σ a.2.2 ∧ a.2.1 = (bpiece (onM σ) (σ 102) (σ 103) (σ 104) a.1 w S1).1 ∧ SR P a.2.2 (bpiece (onM σ) (σ 102) (σ 103) (σ 104) a.1 w S1)) ?_ (0, n, s1) ?_
          · intro ⟨j, n2, s2⟩ ⟨hj, hF2, hn2, hS2⟩ ih2
            dsimp only at hj hF2 hn2 hS2 ⊢
            have g43 := hF2.row 71 rfl 43
            have g102 := hF2.row 102 rfl j
            have g103 := hF2.row 103 rfl j
            have g104 := hF2.row 104 rfl j
            have g106 := hF2.row 106 rfl j
            obtain ⟨bi, bn, bq, bt⟩ := BI_piece (on := onM σ) (T := σ 104) (u := w) hPJ.1 hPJ.2.2.1 hAB hB j hj.1 hj.2
            generalize hS2e : bpiece (onM σ) (σ 102) (σ 103) (σ 104) j w S1 = S2 at *
            have hle2 := BI_le hPJ.1 bi
            have hwi : s2 110 i = w := by rw [hS2.1 i hk.1 (by omega), bq i (by omega), hU]
            have htw := bt w hq.2.2
            have hww := hS2.2 w hq.1 hq.2.1
            have hw7 := hB.2.2 w hq.1 hq.2.1
            have hAj : j < J → _ := hAB j hj.1
            have hTj : j < J → _ := hT j hj.1
            refine R_iload rfl rfl ?_
            refine R_aload rfl rfl rfl ?_
            refine T_geti rfl rfl rfl ?_
            refine R_ic rfl (fun h62 => ?_) (fun h62 => ?_)
            · try simp only [ne_eq, b2i_e, b2i_1, Classical.not_not] at h62
              have ej : j = J := by omega
              rw [ej] at hS2e
              refine R_inc rfl rfl (by omega) (by omega) ?_
              refine R_goto rfl ?_
              refine fgt wc_X10_sets [1, 1, 1, 1, 0, 0, 0, 0] ?_
              exact ih (i + 1, n2, s2) ⟨by dsimp only; omega, hF2, by
                dsimp only
                rw [bfs_s hk.1, hS1, if_pos (by omega), hU, hS2e]; exact hn2, by
                dsimp only
                rw [bfs_s hk.1, hS1, if_pos (by omega), hU, hS2e]; exact hS2⟩ (by dsimp only; omega)
            · try simp only [ne_eq, b2i_e, b2i_1, Classical.not_not] at h62
              have hAj := hAj (by omega)
              have hTj := hTj (by omega)
              refine R_aload rfl rfl rfl ?_
              refine T_getr (v := 118) rfl rfl rfl rfl ?_
              refine R_iload rfl rfl ?_
              refine T_ald rfl rfl (by omega) (by omega) ?_
              refine R_push rfl ?_
              refine R_dv rfl (by omega) (by omega) (by omega) ?_
              refine R_istore rfl rfl ?_
              refine R_aload rfl rfl rfl ?_
              refine T_getr (v := 119) rfl rfl rfl rfl ?_
              refine R_iload rfl rfl ?_
              refine T_ald rfl rfl (by omega) (by omega) ?_
              refine R_push rfl ?_
              refine R_dv rfl (by omega) (by omega) (by omega) ?_
              refine R_istore rfl rfl ?_
              refine R_aload rfl rfl rfl ?_
              refine R_iload rfl rfl ?_
              refine R_invv rfl rfl rfl rfl rfl rfl (sp_X10_isOn d (by omega) xs t dd rr s2 j ⟨by omega, by omega⟩) rfl ?_
              show pCm _ _ _ 95 _ [(0, _)] _
              have J135 : ∀ q : Int, q = nbr (onM σ) (σ 102) (σ 103) w j → pCm (Ev d) k_X10_sets E 135 [(87, 0), (0, u), (0, n2), (0, i), (0, j), (0, s2 102 j / 8), (0, s2 103 j / 8), (9, 0)] [(0, q)] (Wd xs t dd rr s2) := by
                intro q hqq
                have hqin := nbr_in (on := onM σ) (u := w) hAB hj.1 (show j < J by omega)
                rw [← hqq] at hqin
                have hst : (q ≠ -1 → S2.2.2 q ≠ -1) → bstep (onM σ) (σ 102) (σ 103) (σ 104) w j S2 = S2 := by
                  intro z
                  unfold bstep
                  rw [← hqq, if_neg (fun y => z y.1 y.2)]
                have hst2 : q ≠ -1 → S2.2.2 q = -1 → bstep (onM σ) (σ 102) (σ 103) (σ 104) w j S2 = (S2.1 + 1, fup S2.2.1 S2.1 q, fup S2.2.2 q ((σ 104 j - S2.2.2 w) % 8)) := by
                  intro z y
                  unfold bstep
                  rw [← hqq, if_pos ⟨z, y⟩]
                obtain ⟨-, -, -, -, blt⟩ := BI_step (on := onM σ) (T := σ 104) (u := w) (j := j) hPJ.1 hAB hj.1 (by omega) bi
                rw [← hqq] at blt
                refine R_istore rfl rfl ?_
                refine R_iload rfl rfl ?_
                refine R_if rfl (fun h139 => ?_) (fun h139 => ?_)
                · try simp only [ne_eq, b2i_e, b2i_1, Classical.not_not] at h139
                  refine R_inc rfl rfl (by omega) (by omega) ?_
                  refine R_goto rfl ?_
                  refine fgt wc_X10_sets [1, 1, 1, 1, 1, 0, 0, 0] ?_
                  have hst := hst (fun z => by have := hS2.2 q (by omega) (by omega); omega)
                  exact ih2 (j + 1, n2, s2) ⟨by dsimp only; omega, hF2, by
                    dsimp only
                    rw [bpiece_s hj.1, hS2e, hst]; exact hn2, by
                    dsimp only
                    rw [bpiece_s hj.1, hS2e, hst]; exact hS2⟩ (by dsimp only; omega)
                · try simp only [ne_eq, b2i_e, b2i_1, Classical.not_not] at h139
                  refine R_aload rfl rfl rfl ?_
                  refine T_getr (v := 125) rfl rfl rfl rfl ?_
                  refine R_iload rfl rfl ?_
                  refine T_ald rfl rfl (by omega) (by omega) ?_
                  refine R_if rfl (fun h149 => ?_) (fun h149 => ?_)
                  · try simp only [ne_eq, b2i_e, b2i_1, Classical.not_not] at h149
                    refine R_inc rfl rfl (by omega) (by omega) ?_
                    refine R_goto rfl ?_
                    refine fgt wc_X10_sets [1, 1, 1, 1, 1, 0, 0, 0] ?_
                    have hst := hst (fun z => by have := hS2.2 q (by omega) (by omega); omega)
                    exact ih2 (j + 1, n2, s2) ⟨by dsimp only; omega, hF2, by
                      dsimp only
                      rw [bpiece_s hj.1, hS2e, hst]; exact hn2, by
                      dsimp only
                      rw [bpiece_s hj.1, hS2e, hst]; exact hS2⟩ (by dsimp only; omega)
                  · try simp only [ne_eq, b2i_e, b2i_1, Classical.not_not] at h149
                    refine R_aload rfl rfl rfl ?_
                    refine T_getr (v := 125) rfl rfl rfl rfl ?_
                    refine R_iload rfl rfl ?_
                    refine R_push rfl ?_
                    refine T_zast rfl rfl (by omega) (by omega) (by omega) ?_
                    generalize hs3 : up2 s2 109 q 1 = s3
                    have k110 : s3 110 i = w := by rw [← hs3, up_k (by decide)]; exact hwi
                    have k104 : s3 104 j = s2 104 j := by rw [← hs3, up_k (by decide)]
                    have k108 : s3 108 w = s2 108 w := by rw [← hs3, up_k (by decide)]
                    have hqs := hS2.2 q (by omega) (by omega)
                    have hq1 : S2.2.2 q = -1 := by omega
                    have blt := blt ⟨by omega, hq1⟩
                    refine R_aload rfl rfl rfl ?_
                    refine T_getr (v := 124) rfl rfl rfl rfl ?_
                    refine R_iload rfl rfl ?_
                    refine R_aload rfl rfl rfl ?_
                    refine T_getr (v := 120) rfl rfl rfl rfl ?_
                    refine R_iload rfl rfl ?_
                    refine T_ald rfl rfl (by omega) (by omega) ?_
                    refine R_aload rfl rfl rfl ?_
                    refine T_getr (v := 124) rfl rfl rfl rfl ?_
                    refine R_aload rfl rfl rfl ?_
                    refine T_getr (v := 126) rfl rfl rfl rfl ?_
                    refine R_iload rfl rfl ?_
                    refine T_ald rfl rfl (by omega) (by omega) ?_
                    rw [k110]
                    refine T_ald rfl rfl (by omega) (by omega) ?_
                    refine R_sub rfl (by omega) (by omega) ?_
                    refine R_push rfl ?_
                    refine R_add rfl (by omega) (by omega) ?_
                    refine R_push rfl ?_
                    refine R_rm rfl (by omega) (by omega) (by omega) ?_
                    refine T_iast rfl rfl (by omega) (by omega) ?_
                    refine R_aload rfl rfl rfl ?_
                    refine T_getr (v := 126) rfl rfl rfl rfl ?_
                    refine R_iload rfl rfl ?_
                    refine R_iload rfl rfl ?_
                    refine T_iast rfl rfl (by omega) (by omega) ?_
                    have hst2 := hst2 (by omega) (by omega)
                    have htv : (s3 104 j - s3 108 w + 8) % 8 = (σ 104 j - S2.2.2 w) % 8 := by omega
                    rw [htv]
                    refine R_inc rfl rfl (by omega) (by omega) ?_
                    refine R_inc rfl rfl (by omega) (by omega) ?_
                    refine R_goto rfl ?_
                    refine fgt wc_X10_sets [1, 1, 1, 1, 1, 0, 0, 0] ?_
                    generalize hs4 : up2 (up2 s3 108 q _) 110 n2 q = s4
                    refine ih2 (j + 1, n2 + 1, s4) ⟨by dsimp only; omega, by rw [← hs4, ← hs3]; exact ((hF2.upr rfl).upr rfl).upr rfl, ?_, ?_⟩ (by dsimp only; omega)
                    · dsimp only
                      rw [bpiece_s hj.1, hS2e, hst2]; dsimp only; omega
                    · dsimp only
                      rw [bpiece_s hj.1, hS2e, hst2, ← hs4, ← hs3, ← hn2]
                      exact SR_up hS2 hn2 (by omega)
              refine R_if rfl (fun h95 => ?_) (fun h95 => ?_)
              · try simp only [ne_eq, b2i_e, b2i_1, Classical.not_not] at h95
                refine R_iload rfl rfl ?_
                refine R_aload rfl rfl rfl ?_
                refine T_getr (v := 126) rfl rfl rfl rfl ?_
                refine R_iload rfl rfl ?_
                refine T_ald rfl rfl (by omega) (by omega) ?_
                refine R_ic rfl (fun h110 => ?_) (fun h110 => ?_)
                · try simp only [ne_eq, b2i_e, b2i_1, Classical.not_not] at h110
                  refine R_iload rfl rfl ?_
                  refine R_aload rfl rfl rfl ?_
                  refine T_getr (v := 126) rfl rfl rfl rfl ?_
                  refine R_iload rfl rfl ?_
                  refine T_ald rfl rfl (by omega) (by omega) ?_
                  refine R_ic rfl (fun h126 => ?_) (fun h126 => ?_)
                  · try simp only [ne_eq, b2i_e, b2i_1, Classical.not_not] at h126
                    refine R_push rfl ?_
                    exact J135 _ (by
                      first
                      | (have ho : onM σ j = false := by unfold onM; rw [decide_eq_false_iff_not]; omega
                         simp [nbr, ho])
                      | (have ho : onM σ j = true := by unfold onM; rw [decide_eq_true_iff]; omega
                         try rw [g103]
                         try rw [g102]
                         unfold nbr
                         rw [if_pos ho]
                         first
                         | rw [if_pos (by omega)]
                         | rw [if_neg (by omega), if_pos (by omega)]
                         | rw [if_neg (by omega), if_neg (by omega)]))
                  · try simp only [ne_eq, b2i_e, b2i_1, Classical.not_not] at h126
                    refine R_iload rfl rfl ?_
                    refine R_goto rfl ?_
                    exact J135 _ (by
                      first
                      | (have ho : onM σ j = false := by unfold onM; rw [decide_eq_false_iff_not]; omega
                         simp [nbr, ho])
                      | (have ho : onM σ j = true := by unfold onM; rw [decide_eq_true_iff]; omega
                         try rw [g103]
                         try rw [g102]
                         unfold nbr
                         rw [if_pos ho]
                         first
                         | rw [if_pos (by omega)]
                         | rw [if_neg (by omega), if_pos (by omega)]
                         | rw [if_neg (by omega), if_neg (by omega)]))
                · try simp only [ne_eq, b2i_e, b2i_1, Classical.not_not] at h110
                  refine R_iload rfl rfl ?_
                  refine R_goto rfl ?_
                  exact J135 _ (by
                    first
                    | (have ho : onM σ j = false := by unfold onM; rw [decide_eq_false_iff_not]; omega
                       simp [nbr, ho])
                    | (have ho : onM σ j = true := by unfold onM; rw [decide_eq_true_iff]; omega
                       try rw [g103]
                       try rw [g102]
                       unfold nbr
                       rw [if_pos ho]
                       first
                       | rw [if_pos (by omega)]
                       | rw [if_neg (by omega), if_pos (by omega)]
                       | rw [if_neg (by omega), if_neg (by omega)]))
              · try simp only [ne_eq, b2i_e, b2i_1, Classical.not_not] at h95
                refine R_push rfl ?_
                refine R_goto rfl ?_
                exact J135 _ (by
                  first
                  | (have ho : onM σ j = false := by unfold onM; rw [decide_eq_false_iff_not]; omega
                     simp [nbr, ho])
                  | (have ho : onM σ j = true := by unfold onM; rw [decide_eq_true_iff]; omega
                     try rw [g103]
                     try rw [g102]
                     unfold nbr
                     rw [if_pos ho]
                     first
                     | rw [if_pos (by omega)]
                     | rw [if_neg (by omega), if_pos (by omega)]
                     | rw [if_neg (by omega), if_neg (by omega)]))
          · exact ⟨⟨Int.le_refl _, hPJ.2.2.1⟩, hF, hn, hS⟩
      · exact ⟨⟨Int.le_refl _, by dsimp only; omega⟩, hF0, rfl, hS0⟩
    · try simp only [ne_eq, b2i_e, b2i_1, Classical.not_not] at h7
      refine R_aload rfl rfl rfl ?_
      refine T_getr (v := 125) rfl rfl rfl rfl ?_
      refine R_iload rfl rfl ?_
      refine R_push rfl ?_
      refine T_zast rfl rfl (by omega) (by omega) (by omega) ?_
      refine R_inc rfl rfl (by omega) (by omega) ?_
      refine R_goto rfl ?_
      generalize hs3 : up2 s1 109 k _ = s3
      refine ih (k + 1, s3) ⟨by dsimp only; omega, by rw [← hs3]; exact hF.upr rfl, fun p h0 h1 => ?_⟩ (by dsimp only; omega)
      dsimp only at h1 ⊢
      rw [← hs3]
      by_cases q : p = k
      · rw [q, up_s]
      · rw [up_i q]; exact hv p h0 (by omega)
  · exact ⟨⟨Int.le_refl _, hPJ.1⟩, Fr.rf, fun p h0 h1 => by dsimp only at h1; omega⟩

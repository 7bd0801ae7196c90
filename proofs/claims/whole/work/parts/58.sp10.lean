def lyS (σ : Sg) (r : Nat) (j : Int) : Int := 8 * σ 6 (σ r j / 8)
def lyM (σ : Sg) (r : Nat) (j : Int) : Int := 8 * σ 92 (σ r j / 8)
set_option maxRecDepth 20000 in
set_option maxHeartbeats 2000000 in
theorem sp_X3_hourOf (d : Nat) (hd : 3 ≤ d) (xs : List (Nat × Nat)) (t dd rr : Nat) (σ : Sg) (l : Int) (P J : Int) (hC : CB σ P J) (hL : ∀ p, 0 ≤ p → p < P → 0 ≤ σ 6 p ∧ σ 6 p ≤ 4) (hl : 0 ≤ l ∧ l < 5) : ∃ σ', Ev d 188 [(44, 0), (0, l)] (Wd xs t dd rr σ) (0, lab 5 J (onS σ) (lyS σ 22) (lyS σ 23) l) (Wd xs t dd rr σ') ∧ Fr [35] [] σ σ' := by
  obtain ⟨d, rfl⟩ : ∃ e, d = e + 1 := ⟨d - 1, by omega⟩
  have hC0 := hC
  obtain ⟨h1_, h21_, hP0, hJ0, hAB⟩ := hC
  have hPJ : 0 ≤ P ∧ P ≤ 40 ∧ 0 ≤ J ∧ J ≤ 80 := ⟨hP0.1, hP0.2, hJ0.1, hJ0.2⟩
  clear hP0 hJ0
  refine evS (nL := 5) (code := k_X3_hourOf) rfl dc_X3_hourOf rfl (fun E hE => ?_)
  show pCm (Ev d) k_X3_hourOf E 0 [(44, 0), (0, l), (9, 0), (9, 0), (9, 0)] [] _
  refine R_push rfl ?_
  refine R_istore rfl rfl ?_
  refine fgt wc_X3_hourOf [1, 1, 1, 0, 0] ?_
  refine loop (pc := 2) (α := Int × Sg) (fun a => (5 - a.1).toNat) (fun a => ([(44, 0), (0, l), (0, a.1), (9, 0), (9, 0)], Wd xs t dd rr a.2)) (fun a => (0 ≤ a.1 ∧ a.1 ≤ 5) ∧ Fr [35] [] σ a.2 ∧ ∀ p, 0 ≤ p → p < a.1 → a.2 35 p = p) ?_ (0, σ) ?_
  · intro ⟨k, s1⟩ ⟨hk, hF, hv⟩ ih
    dsimp only at hk hF hv ⊢
    refine R_iload rfl rfl ?_
    refine R_push rfl ?_
    refine R_ic rfl (fun h4 => ?_) (fun h4 => ?_)
    · try simp only [ne_eq, b2i_e, b2i_1, Classical.not_not] at h4
      refine R_push rfl ?_
      refine R_istore rfl rfl ?_
      refine fgt wc_X3_hourOf [1, 1, 1, 0, 0] ?_
      refine loop (pc := 22) (α := Int × Sg) (fun a => (J - a.1).toNat) (fun a => ([(44, 0), (0, l), (0, a.1), (9, 0), (9, 0)], Wd xs t dd rr a.2)) (fun a => (0 ≤ a.1 ∧ a.1 ≤ J) ∧ Fr [35] [] σ a.2 ∧ ∀ p, 0 ≤ p → p < 5 → a.2 35 p = lab 5 a.1 (onS σ) (lyS σ 22) (lyS σ 23) p) ?_ (0, s1) ?_
      · clear ih hk h4
        intro ⟨j, s1⟩ ⟨hk, hF, hv⟩ ih
        dsimp only at hk hF hv ⊢
        have e21 := hF.row 21 rfl 0
        have e22 := hF.row 22 rfl j
        have e23 := hF.row 23 rfl j
        have e26 := hF.row 26 rfl j
        have hAj : j < J → _ := hAB j hk.1
        refine R_iload rfl rfl ?_
        refine R_aload rfl rfl rfl ?_
        refine T_getr (v := 37) rfl rfl rfl rfl ?_
        refine T_geti rfl rfl rfl ?_
        refine R_ic rfl (fun h30 => ?_) (fun h30 => ?_)
        · try simp only [ne_eq, b2i_e, b2i_1, Classical.not_not] at h30
          refine R_aload rfl rfl rfl ?_
          refine T_getr (v := 51) rfl rfl rfl rfl ?_
          refine R_iload rfl rfl ?_
          refine T_ald rfl rfl (by omega) (by omega) ?_
          refine R_iret rfl ?_
          exact hE _ _ (by congr 1; rw [hv l hl.1 hl.2]; congr 1; omega) hF
        · try simp only [ne_eq, b2i_e, b2i_1, Classical.not_not] at h30
          refine R_aload rfl rfl rfl ?_
          refine T_getr (v := 37) rfl rfl rfl rfl ?_
          refine R_iload rfl rfl ?_
          refine R_invv rfl rfl rfl rfl rfl rfl (sp_X4_stands d (by omega) xs t dd rr s1 j J (by omega) hPJ.2.2.2) rfl ?_
          show pCm _ _ _ 41 _ [(0, _)] _
          refine R_if rfl (fun h41 => ?_) (fun h41 => ?_)
          · try simp only [ne_eq, b2i_e, b2i_1, Classical.not_not] at h41
            refine R_inc rfl rfl (by omega) (by omega) ?_
            refine R_goto rfl ?_
            have hon : onS σ j = false := by unfold onS; rw [decide_eq_false_iff_not]; omega
            refine fgt wc_X3_hourOf [1, 1, 1, 0, 0] ?_
            exact ih (j + 1, s1) ⟨by dsimp only; omega, hF, fun p h0 h1 => by dsimp only; rw [lab_s hk.1, hon]; exact hv p h0 h1⟩ (by dsimp only; omega)
          · try simp only [ne_eq, b2i_e, b2i_1, Classical.not_not] at h41
            have hAj := hAj (by omega)
            have hon : onS σ j = true := by unfold onS; rw [decide_eq_true_iff]; omega
            have g22 := hF.row 6 rfl (σ 22 j / 8)
            have g23 := hF.row 6 rfl (σ 23 j / 8)
            have L22 := hL (σ 22 j / 8) (by omega) (by omega)
            have L23 := hL (σ 23 j / 8) (by omega) (by omega)
            refine R_aload rfl rfl rfl ?_
            refine T_getr (v := 17) rfl rfl rfl rfl ?_
            refine T_getr (v := 22) rfl rfl rfl rfl ?_
            refine R_aload rfl rfl rfl ?_
            refine T_getr (v := 37) rfl rfl rfl rfl ?_
            refine T_getr (v := 38) rfl rfl rfl rfl ?_
            refine R_iload rfl rfl ?_
            refine T_ald rfl rfl (by omega) (by omega) ?_
            rw [e22]
            refine R_push rfl ?_
            refine R_dv rfl (by omega) (by omega) (by omega) ?_
            refine T_ald rfl rfl (by omega) (by omega) ?_
            rw [g22]
            refine R_istore rfl rfl ?_
            refine R_aload rfl rfl rfl ?_
            refine T_getr (v := 17) rfl rfl rfl rfl ?_
            refine T_getr (v := 22) rfl rfl rfl rfl ?_
            refine R_aload rfl rfl rfl ?_
            refine T_getr (v := 37) rfl rfl rfl rfl ?_
            refine T_getr (v := 39) rfl rfl rfl rfl ?_
            refine R_iload rfl rfl ?_
            refine T_ald rfl rfl (by omega) (by omega) ?_
            rw [e23]
            refine R_push rfl ?_
            refine R_dv rfl (by omega) (by omega) (by omega) ?_
            refine T_ald rfl rfl (by omega) (by omega) ?_
            rw [g23]
            refine R_istore rfl rfl ?_
            refine R_aload rfl rfl rfl ?_
            refine T_getr (v := 51) rfl rfl rfl rfl ?_
            refine R_push rfl ?_
            refine R_iload rfl rfl ?_
            refine R_iload rfl rfl ?_
            obtain ⟨s4, hev, hF4, hv4⟩ := sp_X3_merge_35 d (by omega) xs t dd rr s1 5 (σ 6 (σ 22 j / 8)) (σ 6 (σ 23 j / 8)) ⟨by omega, by omega⟩ ⟨by omega, by omega⟩ ⟨by omega, by omega⟩
            refine R_inv rfl rfl rfl rfl rfl (hev) rfl ?_
            show pCm _ _ _ 98 _ [] _
            refine R_inc rfl rfl (by omega) (by omega) ?_
            refine R_goto rfl ?_
            refine fgt wc_X3_hourOf [1, 1, 1, 0, 0] ?_
            exact ih (j + 1, s4) ⟨by dsimp only; omega, hF.tr hF4 rfl rfl, fun p h0 h1 => by
              dsimp only
              have e1 : lyS σ 22 j / 8 = σ 6 (σ 22 j / 8) := by unfold lyS; omega
              have e2 : lyS σ 23 j / 8 = σ 6 (σ 23 j / 8) := by unfold lyS; omega
              rw [lab_s hk.1, hon, hv4 p h0 h1, if_pos rfl, e1, e2]
              exact mrg_congr hv (by omega) (by omega) p h0 h1⟩ (by dsimp only; omega)
      · exact ⟨⟨Int.le_refl _, hPJ.2.2.1⟩, hF, fun p h0 h1 => by dsimp only; rw [lab_0]; exact hv p h0 (by omega)⟩
    · try simp only [ne_eq, b2i_e, b2i_1, Classical.not_not] at h4
      refine R_aload rfl rfl rfl ?_
      refine T_getr (v := 51) rfl rfl rfl rfl ?_
      refine R_iload rfl rfl ?_
      refine R_iload rfl rfl ?_
      refine T_iast rfl rfl (by omega) (by omega) ?_
      refine R_inc rfl rfl (by omega) (by omega) ?_
      refine R_goto rfl ?_
      generalize hs3 : up2 s1 35 k _ = s3
      refine ih (k + 1, s3) ⟨by dsimp only; omega, by rw [← hs3]; exact hF.upr rfl, fun p h0 h1 => ?_⟩ (by dsimp only; omega)
      dsimp only at h1 ⊢
      rw [← hs3]
      by_cases q : p = k
      · rw [q, up_s]
      · rw [up_i q]; exact hv p h0 (by omega)
  · exact ⟨by dsimp only; omega, Fr.rf, fun p h0 h1 => by dsimp only at h1; omega⟩
set_option maxRecDepth 20000 in
set_option maxHeartbeats 2000000 in
theorem sp_X10_hour (d : Nat) (hd : 2 ≤ d) (xs : List (Nat × Nat)) (t dd rr : Nat) (σ : Sg) (l : Int) (P J : Int) (hM : MB σ P J) (hL : ∀ p, 0 ≤ p → p < P → 0 ≤ σ 92 p ∧ σ 92 p ≤ 4)  : ∃ σ', Ev d 121 [(87, 0), (0, l)] (Wd xs t dd rr σ) (0, if 0 ≤ l ∧ l ≤ 4 then lab 5 J (onM σ) (lyM σ 102) (lyM σ 103) l else -1) (Wd xs t dd rr σ') ∧ Fr [] [(71, 0)] σ σ' := by
  obtain ⟨d, rfl⟩ : ∃ e, d = e + 1 := ⟨d - 1, by omega⟩
  have hM0 := hM
  obtain ⟨h26, h43, hP0, hJ0, hAB⟩ := hM
  have hPJ : 0 ≤ P ∧ P ≤ 40 ∧ 0 ≤ J ∧ J ≤ 80 := ⟨hP0.1, hP0.2, hJ0.1, hJ0.2⟩
  clear hP0 hJ0
  refine evS (nL := 7) (code := k_X10_hour) rfl dc_X10_hour rfl (fun E hE => ?_)
  show pCm (Ev d) k_X10_hour E 0 [(87, 0), (0, l), (9, 0), (9, 0), (9, 0), (9, 0), (9, 0)] [] _
  refine R_aload rfl rfl rfl ?_
  refine R_push rfl ?_
  refine T_puti rfl rfl rfl ?_
  refine R_iload rfl rfl ?_
  refine R_push rfl ?_
  refine R_push rfl ?_
  refine R_inv rfl rfl rfl rfl rfl (sp_X10_within d (by omega) _ _ _ _) rfl ?_
  show pCm _ _ _ 11 _ [(0, _)] _
  refine R_if rfl (fun h11 => ?_) (fun h11 => ?_)
  · try simp only [ne_eq, b2i_e, b2i_1, Classical.not_not] at h11
    refine R_push rfl ?_
    refine R_iload rfl rfl ?_
    refine R_bin rfl ?_
    refine R_istore rfl rfl ?_
    refine R_push rfl ?_
    refine R_istore rfl rfl ?_
    have hl : 0 ≤ l ∧ l < 5 := by omega
    obtain ⟨o1, o2, o3⟩ := b1_ok hl
    have hAL : ∀ j, 0 ≤ j → j < J → (0 ≤ lyM σ 102 j ∧ lyM σ 102 j < 8 * 5) ∧ 0 ≤ lyM σ 103 j ∧ lyM σ 103 j < 8 * 5 := fun j j0 j1 => by
      have := hAB j j0 j1
      have := hL (σ 102 j / 8) (by omega) (by omega)
      have := hL (σ 103 j / 8) (by omega) (by omega)
      unfold lyM
      omega
    have hab : ∀ j, 0 ≤ j → j < J → (0 ≤ lyM σ 102 j / 8 ∧ lyM σ 102 j / 8 < 5) ∧ 0 ≤ lyM σ 103 j / 8 ∧ lyM σ 103 j / 8 < 5 := fun j j0 j1 => by
      have := hAL j j0 j1
      omega
    have hw : HW (fun _ => 0) 0 (pShl 1 l) := ⟨o1, fun _ _ _ _ => rfl⟩
    generalize hs1 : up2 σ 71 0 0 = s1
    have hF : Fr [] [(71, 0)] σ s1 := by rw [← hs1]; exact Fr.rf.up rfl
    clear hs1
    have e43 := hF.at 71 43 rfl
    refine fgt wc_X10_hour [1, 1, 1, 1, 0, 0, 0] ?_
    refine loop (pc := 22) (α := Int × Int) (fun a => (5 - a.2).toNat) (fun a => ([(87, 0), (0, l), (0, a.1), (0, a.2), (9, 0), (9, 0), (9, 0)], Wd xs t dd rr s1)) (fun a => (0 ≤ a.2 ∧ a.2 ≤ 5) ∧ a.1 = hset (onM σ) (fun j => lyM σ 102 j / 8) (fun j => lyM σ 103 j / 8) J a.2 (pShl 1 l)) ?_ (pShl 1 l, 0) ?_
    · intro ⟨n, m⟩ ⟨hm, hn⟩ ih
      dsimp only at hm hn ⊢
      have hwm := (hset_ok (on := onM σ) hPJ.2.2.1 hw (by omega) hab (fun _ _ _ _ => rfl) m.toNat).1
      rw [Int.toNat_of_nonneg hm.1, ← hn] at hwm
      refine R_iload rfl rfl ?_
      refine R_push rfl ?_
      refine R_ic rfl (fun h24 => ?_) (fun h24 => ?_)
      · try simp only [ne_eq, b2i_e, b2i_1, Classical.not_not] at h24
        refine R_push rfl ?_
        refine R_istore rfl rfl ?_
        have hall := hset_all (on := onM σ) hPJ.2.2.1 hl hAL
        rw [show m = 5 by omega] at hn
        rw [← hn] at hall
        have hlb := lab_bd (P := 5) (on := onM σ) hPJ.2.2.1 hAL l hl.1 hl.2
        have hid := lab_idem (P := 5) (on := onM σ) hPJ.2.2.1 hAL l hl.1 hl.2
        have hmn : ∀ x, 0 ≤ x → x < 5 → lab 5 J (onM σ) (lyM σ 102) (lyM σ 103) x = lab 5 J (onM σ) (lyM σ 102) (lyM σ 103) l → lab 5 J (onM σ) (lyM σ 102) (lyM σ 103) l ≤ x := fun x x0 x1 ex => by
          have := lab_bd (P := 5) (on := onM σ) hPJ.2.2.1 hAL x x0 x1
          omega
        generalize lab 5 J (onM σ) (lyM σ 102) (lyM σ 103) l = c at *
        have hbc := (hall.2 c (by omega) (by omega)).mpr hid
        refine fgt wc_X10_hour [1, 1, 1, 1, 0, 0, 0] ?_
        refine loop (pc := 132) (α := Int) (fun a => (5 - a).toNat) (fun a => ([(87, 0), (0, l), (0, n), (0, a), (9, 0), (9, 0), (9, 0)], Wd xs t dd rr s1)) (fun a => 0 ≤ a ∧ a ≤ c) ?_ 0 ?_
        · intro x hx ih3
          dsimp only at hx ⊢
          have hx01 := (bx_ok hall.1).2.2 x (by omega) (by omega)
          refine R_iload rfl rfl ?_
          refine R_iload rfl rfl ?_
          refine R_bin rfl ?_
          refine R_push rfl ?_
          refine R_bin rfl ?_
          refine R_if rfl (fun h137 => ?_) (fun h137 => ?_)
          · try simp only [ne_eq, b2i_e, b2i_1, Classical.not_not] at h137
            refine R_iload rfl rfl ?_
            refine R_iret rfl ?_
            exact hE _ _ (by
              rw [if_pos (by omega)]
              congr 1
              have := hmn x (by omega) (by omega) ((hall.2 x (by omega) (by omega)).mp (by unfold bx at hx01 ⊢; omega))
              omega) hF
          · try simp only [ne_eq, b2i_e, b2i_1, Classical.not_not] at h137
            refine R_inc rfl rfl (by omega) (by omega) ?_
            refine R_goto rfl ?_
            refine ih3 (x + 1) ⟨by omega, ?_⟩ (by omega)
            by_cases z : x = c
            · exfalso
              rw [← z] at hbc
              unfold bx at hbc
              omega
            · omega
        · exact ⟨Int.le_refl _, hlb.1⟩
      · try simp only [ne_eq, b2i_e, b2i_1, Classical.not_not] at h24
        refine R_push rfl ?_
        refine R_istore rfl rfl ?_
        refine fgt wc_X10_hour [1, 1, 1, 1, 1, 0, 0] ?_
        refine loop (pc := 30) (α := Int × Int) (fun a => (J - a.2).toNat) (fun a => ([(87, 0), (0, l), (0, a.1), (0, m), (0, a.2), (9, 0), (9, 0)], Wd xs t dd rr s1)) (fun a => (0 ≤ a.2 ∧ a.2 ≤ J) ∧ a.1 = hpass (onM σ) (fun j => lyM σ 102 j / 8) (fun j => lyM σ 103 j / 8) a.2 n) ?_ (n, 0) ?_
        · intro ⟨n2, j⟩ ⟨hj, hn2⟩ ih2
          dsimp only at hj hn2 ⊢
          have e102 := hF.at 102 j rfl
          have e103 := hF.at 103 j rfl
          have e106 := hF.at 106 j rfl
          have hwj := (hpass_ok (on := onM σ) hPJ.2.2.1 hwm hab (fun _ _ _ _ => rfl) j hj.1 hj.2).1
          rw [← hn2] at hwj
          have bok := (bx_ok hwj.1).1
          have hAj : j < J → _ := hAB j hj.1
          have hbj : j < J → _ := hab j hj.1
          refine R_iload rfl rfl ?_
          refine R_aload rfl rfl rfl ?_
          refine T_geti rfl rfl rfl ?_
          refine R_ic rfl (fun h36 => ?_) (fun h36 => ?_)
          · try simp only [ne_eq, b2i_e, b2i_1, Classical.not_not] at h36
            refine R_inc rfl rfl (by omega) (by omega) ?_
            refine R_goto rfl ?_
            refine fgt wc_X10_hour [1, 1, 1, 1, 0, 0, 0] ?_
            exact ih (n2, m + 1) ⟨by dsimp only; omega, by
              dsimp only
              rw [hset_s hm.1, ← hn, hn2]; congr 1; omega⟩ (by dsimp only; omega)
          · try simp only [ne_eq, b2i_e, b2i_1, Classical.not_not] at h36
            have hAj := hAj (by omega)
            have hbj := hbj (by omega)
            have l1 : s1 92 (σ 102 j / 8) = lyM σ 102 j / 8 := by rw [hF.at 92 _ (by rfl)]; unfold lyM; omega
            have l2 : s1 92 (σ 103 j / 8) = lyM σ 103 j / 8 := by rw [hF.at 92 _ (by rfl)]; unfold lyM; omega
            refine R_aload rfl rfl rfl ?_
            refine T_getr (v := 108) rfl rfl rfl rfl ?_
            refine R_aload rfl rfl rfl ?_
            refine T_getr (v := 118) rfl rfl rfl rfl ?_
            refine R_iload rfl rfl ?_
            refine T_ald rfl rfl (by omega) (by omega) ?_
            rw [e102]
            refine R_push rfl ?_
            refine R_dv rfl (by omega) (by omega) (by omega) ?_
            refine T_ald rfl rfl (by omega) (by omega) ?_
            rw [l1]
            refine R_istore rfl rfl ?_
            refine R_aload rfl rfl rfl ?_
            refine T_getr (v := 108) rfl rfl rfl rfl ?_
            refine R_aload rfl rfl rfl ?_
            refine T_getr (v := 119) rfl rfl rfl rfl ?_
            refine R_iload rfl rfl ?_
            refine T_ald rfl rfl (by omega) (by omega) ?_
            rw [e103]
            refine R_push rfl ?_
            refine R_dv rfl (by omega) (by omega) (by omega) ?_
            refine T_ald rfl rfl (by omega) (by omega) ?_
            rw [l2]
            refine R_istore rfl rfl ?_
            have J116 : ∀ v : Int, pOr n2 v = hstep (onM σ) (fun j => lyM σ 102 j / 8) (fun j => lyM σ 103 j / 8) j n2 → pCm (Ev d) k_X10_hour E 116 [(87, 0), (0, l), (0, n2), (0, m), (0, j), (0, lyM σ 102 j / 8), (0, lyM σ 103 j / 8)] [(0, v), (0, n2)] (Wd xs t dd rr s1) := by
              intro v hv
              refine R_bin rfl ?_
              rw [hv]
              refine R_istore rfl rfl ?_
              refine R_inc rfl rfl (by omega) (by omega) ?_
              refine R_goto rfl ?_
              refine fgt wc_X10_hour [1, 1, 1, 1, 1, 0, 0] ?_
              have hnx : hstep (onM σ) (fun j => lyM σ 102 j / 8) (fun j => lyM σ 103 j / 8) j n2 = hpass (onM σ) (fun j => lyM σ 102 j / 8) (fun j => lyM σ 103 j / 8) (j + 1) n := by rw [hpass_s hj.1, ← hn2]
              exact ih2 (_, j + 1) ⟨by dsimp only; omega, hnx⟩ (by dsimp only; omega)
            refine R_iload rfl rfl ?_
            refine R_aload rfl rfl rfl ?_
            refine R_iload rfl rfl ?_
            refine R_invv rfl rfl rfl rfl rfl rfl (sp_X10_isOn d (by omega) xs t dd rr s1 j ⟨by omega, by omega⟩) rfl ?_
            show pCm _ _ _ 80 _ [(0, _), (0, _)] _
            refine R_if rfl (fun h80 => ?_) (fun h80 => ?_)
            · try simp only [ne_eq, b2i_e, b2i_1, Classical.not_not] at h80
              refine R_push rfl ?_
              exact J116 _ (by
                unfold hstep onM
                dsimp only
                first
                | rw [if_neg (by rw [decide_eq_true_iff]; unfold bx; omega)]; exact bok
                | rw [if_pos (by rw [decide_eq_true_iff]; unfold bx; omega)]; rfl)
            · try simp only [ne_eq, b2i_e, b2i_1, Classical.not_not] at h80
              refine R_iload rfl rfl ?_
              refine R_iload rfl rfl ?_
              refine R_bin rfl ?_
              refine R_push rfl ?_
              refine R_bin rfl ?_
              refine R_push rfl ?_
              refine R_ic rfl (fun h90 => ?_) (fun h90 => ?_)
              · try simp only [ne_eq, b2i_e, b2i_1, Classical.not_not] at h90
                refine R_push rfl ?_
                refine R_iload rfl rfl ?_
                refine R_bin rfl ?_
                refine R_push rfl ?_
                refine R_iload rfl rfl ?_
                refine R_bin rfl ?_
                refine R_bin rfl ?_
                refine R_goto rfl ?_
                exact J116 _ (by
                  unfold hstep onM
                  dsimp only
                  first
                  | rw [if_neg (by rw [decide_eq_true_iff]; unfold bx; omega)]; exact bok
                  | rw [if_pos (by rw [decide_eq_true_iff]; unfold bx; omega)]; rfl)
              · try simp only [ne_eq, b2i_e, b2i_1, Classical.not_not] at h90
                refine R_iload rfl rfl ?_
                refine R_iload rfl rfl ?_
                refine R_bin rfl ?_
                refine R_push rfl ?_
                refine R_bin rfl ?_
                refine R_push rfl ?_
                refine R_ic rfl (fun h100 => ?_) (fun h100 => ?_)
                · try simp only [ne_eq, b2i_e, b2i_1, Classical.not_not] at h100
                  refine R_push rfl ?_
                  exact J116 _ (by
                    unfold hstep onM
                    dsimp only
                    first
                    | rw [if_neg (by rw [decide_eq_true_iff]; unfold bx; omega)]; exact bok
                    | rw [if_pos (by rw [decide_eq_true_iff]; unfold bx; omega)]; rfl)
                · try simp only [ne_eq, b2i_e, b2i_1, Classical.not_not] at h100
                  refine R_push rfl ?_
                  refine R_iload rfl rfl ?_
                  refine R_bin rfl ?_
                  refine R_push rfl ?_
                  refine R_iload rfl rfl ?_
                  refine R_bin rfl ?_
                  refine R_bin rfl ?_
                  refine R_goto rfl ?_
                  exact J116 _ (by
                    unfold hstep onM
                    dsimp only
                    first
                    | rw [if_neg (by rw [decide_eq_true_iff]; unfold bx; omega)]; exact bok
                    | rw [if_pos (by rw [decide_eq_true_iff]; unfold bx; omega)]; rfl)
        · exact ⟨⟨Int.le_refl _, hPJ.2.2.1⟩, rfl⟩
    · exact ⟨by dsimp only; omega, rfl⟩
  · try simp only [ne_eq, b2i_e, b2i_1, Classical.not_not] at h11
    refine R_push rfl ?_
    refine R_iret rfl ?_
    exact hE _ _ (by rw [if_neg (by omega)]) (Fr.rf.up rfl)

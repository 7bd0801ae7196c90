set_option maxRecDepth 20000 in
set_option maxHeartbeats 2000000 in
theorem sp_X0_weigh (d : Nat) (hd : 1 ≤ d) (xs : List (Nat × Nat)) (t dd rr : Nat) (σ : Sg) (dn k : Int) (A U L : Int → Int) (T : Int) (hK : KW σ A U T) (hdn : 0 ≤ dn ∧ dn < pShl 1 T) (hk : 0 ≤ k ∧ k < T) (hL : mc A k dn = 1 → σ 62 (nxt dn k) = nev (L (nxt dn k))) (hLb : -1 ≤ L (nxt dn k) ∧ L (nxt dn k) ≤ 500000) : Ev d 148 [(73, 0), (0, dn), (0, k)] (Wd xs t dd rr σ) (0, nev (cnd U A T L dn k)) (Wd xs t dd rr σ) := by
  obtain ⟨d, rfl⟩ : ∃ e, d = e + 1 := ⟨d - 1, by omega⟩
  obtain ⟨hK1, hK2, hK3, hK4, hK5, hK6, hK7⟩ := id hK
  have hal := al_bd hK2
  have hAk := hK3 k hk.1 hk.2
  have hb01 := bx_01 (n := dn) (j := k) ⟨hk.1, by omega⟩
  have hmc : mc A k dn = 1 ∧ (bx dn k = 0 ∧ pAnd (A k) (pXor dn (-1)) = 0) ∨ mc A k dn = 0 ∧ ¬ (bx dn k = 0 ∧ pAnd (A k) (pXor dn (-1)) = 0) := b2i_or
  have hnx : bx dn k = 0 → _ := fun w => nxt_bd hK2 hdn hk w
  have hnv : nev (L (nxt dn k)) = L (nxt dn k) ∧ 0 ≤ L (nxt dn k) ∨ nev (L (nxt dn k)) = 1000000 ∧ L (nxt dn k) = -1 := by
    unfold nev; split <;> omega
  refine evP (nL := 6) (code := k_X0_weigh) rfl pb0 rfl (fun E hE => ?_)
  show pCm (Ev d) k_X0_weigh E 0 [(73, 0), (0, dn), (0, k), (9, 0), (9, 0), (9, 0)] [] _
  refine R_iload rfl rfl ?_
  refine R_iload rfl rfl ?_
  refine R_bin rfl ?_
  refine R_push rfl ?_
  refine R_bin rfl ?_
  show pCm _ _ _ _ _ ((0, bx dn k) :: _) _
  refine R_if rfl (fun h5 => ?_) (fun h5 => ?_)
  · try simp only [ne_eq, b2i_e, b2i_1, Classical.not_not] at h5
    refine R_push rfl ?_
    refine R_iret rfl ?_
    exact hE _ (by unfold cnd; rw [if_neg (by omega)]; rfl)
  · try simp only [ne_eq, b2i_e, b2i_1, Classical.not_not] at h5
    refine R_aload rfl rfl rfl ?_
    refine T_getr (v := 75) rfl rfl rfl rfl ?_
    refine R_iload rfl rfl ?_
    refine T_ald rfl rfl (by omega) (by omega) ?_
    rw [hAk]
    refine R_iload rfl rfl ?_
    refine R_push rfl ?_
    refine R_bin rfl ?_
    refine R_bin rfl ?_
    show pCm _ _ _ _ _ ((0, pAnd (A k) (pXor dn (-1))) :: _) _
    refine R_if rfl (fun h18 => ?_) (fun h18 => ?_)
    · try simp only [ne_eq, b2i_e, b2i_1, Classical.not_not] at h18
      have hm1 : mc A k dn = 1 := by omega
      have hnx := hnx (by omega)
      refine R_aload rfl rfl rfl ?_
      refine T_getr (v := 78) rfl rfl rfl rfl ?_
      refine R_iload rfl rfl ?_
      refine R_push rfl ?_
      refine R_iload rfl rfl ?_
      refine R_bin rfl ?_
      refine R_bin rfl ?_
      show pCm _ _ _ _ _ ((0, nxt dn k) :: _) _
      refine T_ald rfl rfl (by omega) (by omega) ?_
      rw [hL hm1]
      refine R_istore rfl rfl ?_
      refine R_aload rfl rfl rfl ?_
      refine T_getr (v := 77) rfl rfl rfl rfl ?_
      refine R_iload rfl rfl ?_
      refine T_ald rfl rfl (by omega) (by omega) ?_
      refine R_iload rfl rfl ?_
      refine R_push rfl ?_
      refine R_bin rfl ?_
      refine R_bin rfl ?_
      show pCm _ _ _ _ _ ((0, (pAnd (σ 61 k) (pXor dn (-1)))) :: _) _
      refine R_istore rfl rfl ?_
      refine R_iload rfl rfl ?_
      refine R_push rfl ?_
      refine R_ic rfl (fun h50 => ?_) (fun h50 => ?_)
      · try simp only [ne_eq, b2i_e, b2i_1, Classical.not_not] at h50
        refine R_iload rfl rfl ?_
        refine R_iret rfl ?_
        first
        | exact hE _ (by
            have hz := los_0 hK hk (by assumption)
            unfold cnd
            by_cases z : 0 ≤ L (nxt dn k)
            · rw [if_pos ⟨hm1, z⟩, hz, Int.zero_add]
            · rw [if_neg (fun w => z w.2)]
              have : nev (L (nxt dn k)) = 1000000 := by omega
              rw [this]; rfl)
        | exact hE _ (by
            unfold cnd
            rw [if_neg (by omega)]
            have : nev (L (nxt dn k)) = 1000000 := by omega
            rw [this]; rfl)
      · try simp only [ne_eq, b2i_e, b2i_1, Classical.not_not] at h50
        refine R_iload rfl rfl ?_
        refine R_if rfl (fun h55 => ?_) (fun h55 => ?_)
        · try simp only [ne_eq, b2i_e, b2i_1, Classical.not_not] at h55
          refine R_push rfl ?_
          refine R_istore rfl rfl ?_
          refine loop (pc := 63) (α := Int × Int) (fun x => (T - x.2).toNat) (fun x => ([(73, 0), (0, dn), (0, k), (0, x.1), (0, (pAnd (σ 61 k) (pXor dn (-1)))), (0, x.2)], Wd xs t dd rr σ)) (fun x => (0 ≤ x.2 ∧ x.2 ≤ T) ∧ x.1 = L (nxt dn k) + brs U (pAnd (σ 61 k) (pXor dn (-1))) k x.2) ?_ (nev (L (nxt dn k)), 0) ?_
          · intro ⟨n, j⟩ ⟨⟨hj0, hj1⟩, hn⟩ ih
            dsimp only at hj0 hj1 hn ⊢
            have hbs : brs U (pAnd (σ 61 k) (pXor dn (-1))) k (j + 1) = brs U (pAnd (σ 61 k) (pXor dn (-1))) k j + (if bx (pAnd (σ 61 k) (pXor dn (-1))) j = 0 then 0 else U (12 * k + j)) := sumZ_s hj0
            have hbb := sumZ_bd (f := fun j => if bx (pAnd (σ 61 k) (pXor dn (-1))) j = 0 then 0 else U (12 * k + j)) (c := 38400) hj0 (fun i i0 i1 => by
              have := WB_e hK6 (k := k) (j := i) ⟨by omega, by omega⟩ ⟨by omega, by omega⟩
              split <;> omega)
            have hbb : 0 ≤ brs U (pAnd (σ 61 k) (pXor dn (-1))) k j ∧ brs U (pAnd (σ 61 k) (pXor dn (-1))) k j ≤ 38400 * j := hbb
            have hUj : j < T → _ := fun w => WB_e hK6 (k := k) (j := j) ⟨by omega, by omega⟩ ⟨by omega, by omega⟩
            have hUe : j < T → σ 60 (12 * k + j) = U (12 * k + j) := fun w => hK4 _ (by omega) (by omega)
            refine R_iload rfl rfl ?_
            refine R_aload rfl rfl rfl ?_
            refine T_geti rfl rfl rfl ?_
            refine R_ic rfl (fun h69 => ?_) (fun h69 => ?_)
            · try simp only [ne_eq, b2i_e, b2i_1, Classical.not_not] at h69
              refine R_iload rfl rfl ?_
              refine R_iret rfl ?_
              exact hE _ (by
                have hz := los_br (dn := dn) hK hk
                unfold cnd
                rw [if_pos ⟨hm1, by omega⟩, hz]
                have e : j = T := by omega
                rw [e] at hn
                rw [e] at hbb
                unfold nev
                rw [if_neg (by omega), hn]
                congr 1
                omega)
            · try simp only [ne_eq, b2i_e, b2i_1, Classical.not_not] at h69
              refine R_iload rfl rfl ?_
              refine R_iload rfl rfl ?_
              refine R_bin rfl ?_
              refine R_push rfl ?_
              refine R_bin rfl ?_
              show pCm _ _ _ _ _ ((0, bx (pAnd (σ 61 k) (pXor dn (-1))) j) :: _) _
              refine R_if rfl (fun h79 => ?_) (fun h79 => ?_)
              · try simp only [ne_eq, b2i_e, b2i_1, Classical.not_not] at h79
                refine R_inc rfl rfl (by omega) (by omega) ?_
                refine R_goto rfl ?_
                first
                | exact ih (n + U (12 * k + j), j + 1) ⟨by dsimp only; omega, by show n + U (12 * k + j) = _; rw [hbs, if_neg (by assumption), hn]; omega⟩ (by dsimp only; omega)
                | exact ih (n, j + 1) ⟨by dsimp only; omega, by show n = _; rw [hbs, if_pos (by assumption), hn]; omega⟩ (by dsimp only; omega)
              · try simp only [ne_eq, b2i_e, b2i_1, Classical.not_not] at h79
                have hUj := hUj (by omega)
                refine R_iload rfl rfl ?_
                refine R_aload rfl rfl rfl ?_
                refine T_getr (v := 76) rfl rfl rfl rfl ?_
                refine R_iload rfl rfl ?_
                refine R_push rfl ?_
                refine R_mul rfl (by omega) (by omega) ?_
                refine R_iload rfl rfl ?_
                refine R_add rfl (by omega) (by omega) ?_
                rw [show k * 12 + j = 12 * k + j by omega]
                refine T_ald rfl rfl (by omega) (by omega) ?_
                rw [hUe (by omega)]
                refine R_add rfl (by omega) (by omega) ?_
                refine R_istore rfl rfl ?_
                refine R_inc rfl rfl (by omega) (by omega) ?_
                refine R_goto rfl ?_
                first
                | exact ih (n + U (12 * k + j), j + 1) ⟨by dsimp only; omega, by show n + U (12 * k + j) = _; rw [hbs, if_neg (by assumption), hn]; omega⟩ (by dsimp only; omega)
                | exact ih (n, j + 1) ⟨by dsimp only; omega, by show n = _; rw [hbs, if_pos (by assumption), hn]; omega⟩ (by dsimp only; omega)
          · exact ⟨by dsimp only; omega, by
              show nev (L (nxt dn k)) = L (nxt dn k) + 0
              omega⟩
        · try simp only [ne_eq, b2i_e, b2i_1, Classical.not_not] at h55
          refine R_iload rfl rfl ?_
          refine R_iret rfl ?_
          first
          | exact hE _ (by
              have hz := los_0 hK hk (by assumption)
              unfold cnd
              by_cases z : 0 ≤ L (nxt dn k)
              · rw [if_pos ⟨hm1, z⟩, hz, Int.zero_add]
              · rw [if_neg (fun w => z w.2)]
                have : nev (L (nxt dn k)) = 1000000 := by omega
                rw [this]; rfl)
          | exact hE _ (by
              unfold cnd
              rw [if_neg (by omega)]
              have : nev (L (nxt dn k)) = 1000000 := by omega
              rw [this]; rfl)
    · try simp only [ne_eq, b2i_e, b2i_1, Classical.not_not] at h18
      refine R_push rfl ?_
      refine R_iret rfl ?_
      exact hE _ (by unfold cnd; rw [if_neg (by omega)]; rfl)

theorem sp_way (d : Nat) (hd : 2 ≤ d) (xs : List (Nat × Nat)) (t dd rr : Nat) (σ : Sg) (p c : Int) (hp : 0 ≤ p ∧ p < 40) (hc : 0 ≤ c ∧ c < 100) (hx : 0 ≤ σ 90 p ∧ σ 90 p ≤ 999) (hy : 0 ≤ σ 91 p ∧ σ 91 p ≤ 999) : Ev d 113 [(87, 0), (0, p), (0, c)] (Wd xs t dd rr σ) (0, wayZ (σ 90) (σ 91) p c) (Wd xs t dd rr σ) := sp_X10_wayTo d hd xs t dd rr σ p c hp hc hx hy
set_option maxRecDepth 20000 in
set_option maxHeartbeats 2000000 in
theorem sp_X10_costs (d : Nat) (hd : 3 ≤ d) (xs : List (Nat × Nat)) (t dd rr : Nat) (σ : Sg) (c a b P : Int) (hP : σ 71 26 = P) (h0 : 0 ≤ P ∧ P ≤ 40) (hX : XB (σ 90) (σ 91) (σ 89) P) (ha : 0 ≤ a ∧ a < 100) (hb : 0 ≤ b ∧ b < 100) : Ev d 114 [(87, 0), (0, c), (0, a), (0, b)] (Wd xs t dd rr σ) (0, costZ (σ 111) (σ 90) (σ 91) (σ 89) c P a b) (Wd xs t dd rr σ) := by
  obtain ⟨d, rfl⟩ : ∃ e, d = e + 1 := ⟨d - 1, by omega⟩
  refine evP (nL := 7) (code := k_X10_costs) rfl pb0 rfl (fun E hE => ?_)
  show pCm (Ev d) k_X10_costs E 0 [(87, 0), (0, c), (0, a), (0, b), (9, 0), (9, 0), (9, 0)] [] _
  refine R_push rfl ?_
  refine R_istore rfl rfl ?_
  refine R_push rfl ?_
  refine R_istore rfl rfl ?_
  refine fgt wc_X10_costs [1, 1, 1, 1, 1, 1, 0] ?_
  refine loop (pc := 6) (α := Int × Int) (fun x => (P - x.2).toNat) (fun x => ([(87, 0), (0, c), (0, a), (0, b), (0, x.1), (0, x.2), (9, 0)], Wd xs t dd rr σ)) (fun x => (0 ≤ x.2 ∧ x.2 ≤ P) ∧ x.1 = costZ (σ 111) (σ 90) (σ 91) (σ 89) c x.2 a b) ?_ (0, 0) ?_
  · intro ⟨n, k⟩ ⟨hk, hn⟩ ih
    dsimp only at hk hn ⊢
    have hcb := costZ_bd (L := σ 111) (c := c) hX hk ha hb
    rw [← hn] at hcb
    have hs : costZ (σ 111) (σ 90) (σ 91) (σ 89) c (k + 1) a b = costZ (σ 111) (σ 90) (σ 91) (σ 89) c k a b + _ := sumZ_s hk.1
    rw [← hn] at hs
    have hXk := hX k hk.1
    refine R_iload rfl rfl ?_
    refine R_aload rfl rfl rfl ?_
    refine T_geti rfl rfl rfl ?_
    refine R_ic rfl (fun h12 => ?_) (fun h12 => ?_)
    · try simp only [ne_eq, b2i_e, b2i_1, Classical.not_not] at h12
      refine R_iload rfl rfl ?_
      refine R_iret rfl ?_
      exact hE _ (by congr 1; rw [hn]; congr 1; omega)
    · try simp only [ne_eq, b2i_e, b2i_1, Classical.not_not] at h12
      refine R_aload rfl rfl rfl ?_
      refine T_getr (v := 127) rfl rfl rfl rfl ?_
      refine R_iload rfl rfl ?_
      refine T_ald rfl rfl (by omega) (by omega) ?_
      refine R_iload rfl rfl ?_
      refine R_ic rfl (fun h23 => ?_) (fun h23 => ?_)
      · try simp only [ne_eq, b2i_e, b2i_1, Classical.not_not] at h23
        refine R_inc rfl rfl (by omega) (by omega) ?_
        refine R_goto rfl ?_
        refine fgt wc_X10_costs [1, 1, 1, 1, 1, 1, 0] ?_
        exact ih (_, k + 1) ⟨by dsimp only; omega, by dsimp only; rw [hs, if_neg h23]; omega⟩ (by dsimp only; omega)
      · try simp only [ne_eq, b2i_e, b2i_1, Classical.not_not] at h23
        have hXk := hXk (by omega)
        have wa := wayZ_bd hXk.1 hXk.2.1 ha
        have wb := wayZ_bd hXk.1 hXk.2.1 hb
        have lo := lo_bd hXk.2.2
        have J60 : ∀ v : Int, v = min (wayZ (σ 90) (σ 91) k a) (wayZ (σ 90) (σ 91) k b) → pCm (Ev d) k_X10_costs E 60 [(87, 0), (0, c), (0, a), (0, b), (0, n), (0, k), (9, 0)] [(0, v)] (Wd xs t dd rr σ) := by
          intro v hv
          refine R_istore rfl rfl ?_
          have J88 : ∀ u : Int, u = min (abo (σ 90) (σ 91) (σ 89) k a) (abo (σ 90) (σ 91) (σ 89) k b) → pCm (Ev d) k_X10_costs E 88 [(87, 0), (0, c), (0, a), (0, b), (0, n), (0, k), (0, v)] [(0, u), (0, n)] (Wd xs t dd rr σ) := by
            intro u hu
            have hab := abo_bd hXk.1 hXk.2.1 hXk.2.2 ha
            have hbb := abo_bd hXk.1 hXk.2.1 hXk.2.2 hb
            refine R_add rfl (by omega) (by omega) ?_
            refine R_istore rfl rfl ?_
            refine R_inc rfl rfl (by omega) (by omega) ?_
            refine R_goto rfl ?_
            refine fgt wc_X10_costs [1, 1, 1, 1, 1, 1, 0] ?_
            exact ih (_, k + 1) ⟨by dsimp only; omega, by dsimp only; rw [hs, if_pos h23, hu]⟩ (by dsimp only; omega)
          refine R_iload rfl rfl ?_
          refine R_iload rfl rfl ?_
          refine R_aload rfl rfl rfl ?_
          refine R_iload rfl rfl ?_
          refine R_invv rfl rfl rfl rfl rfl rfl (sp_X10_loose d (by omega) xs t dd rr σ k ⟨by omega, by omega⟩ hXk.2.2) rfl ?_
          show pCm _ _ _ 72 _ [(0, _), (0, _), (0, _)] _
          refine R_ic rfl (fun h72 => ?_) (fun h72 => ?_)
          · try simp only [ne_eq, b2i_e, b2i_1, Classical.not_not] at h72
            refine R_push rfl ?_
            exact J88 _ (by unfold abo; omega)
          · try simp only [ne_eq, b2i_e, b2i_1, Classical.not_not] at h72
            refine R_iload rfl rfl ?_
            refine R_aload rfl rfl rfl ?_
            refine R_iload rfl rfl ?_
            refine R_invv rfl rfl rfl rfl rfl rfl (sp_X10_loose d (by omega) xs t dd rr σ k ⟨by omega, by omega⟩ hXk.2.2) rfl ?_
            show pCm _ _ _ 83 _ [(0, _), (0, _), (0, _)] _
            refine R_sub rfl (by omega) (by omega) ?_
            refine R_goto rfl ?_
            exact J88 _ (by unfold abo; omega)
        refine R_aload rfl rfl rfl ?_
        refine R_iload rfl rfl ?_
        refine R_iload rfl rfl ?_
        refine R_invv rfl rfl rfl rfl rfl rfl (sp_way d (by omega) xs t dd rr σ k a ⟨by omega, by omega⟩ ⟨by omega, by omega⟩ hXk.1 hXk.2.1) rfl ?_
        show pCm _ _ _ 33 _ [(0, _)] _
        refine R_aload rfl rfl rfl ?_
        refine R_iload rfl rfl ?_
        refine R_iload rfl rfl ?_
        refine R_invv rfl rfl rfl rfl rfl rfl (sp_way d (by omega) xs t dd rr σ k b ⟨by omega, by omega⟩ ⟨by omega, by omega⟩ hXk.1 hXk.2.1) rfl ?_
        show pCm _ _ _ 40 _ [(0, _), (0, _)] _
        refine R_ic rfl (fun h40 => ?_) (fun h40 => ?_)
        · try simp only [ne_eq, b2i_e, b2i_1, Classical.not_not] at h40
          refine R_aload rfl rfl rfl ?_
          refine R_iload rfl rfl ?_
          refine R_iload rfl rfl ?_
          refine R_invv rfl rfl rfl rfl rfl rfl (sp_way d (by omega) xs t dd rr σ k b ⟨by omega, by omega⟩ ⟨by omega, by omega⟩ hXk.1 hXk.2.1) rfl ?_
          show pCm _ _ _ 60 _ [(0, _)] _
          exact J60 _ (by omega)
        · try simp only [ne_eq, b2i_e, b2i_1, Classical.not_not] at h40
          refine R_aload rfl rfl rfl ?_
          refine R_iload rfl rfl ?_
          refine R_iload rfl rfl ?_
          refine R_invv rfl rfl rfl rfl rfl rfl (sp_way d (by omega) xs t dd rr σ k a ⟨by omega, by omega⟩ ⟨by omega, by omega⟩ hXk.1 hXk.2.1) rfl ?_
          show pCm _ _ _ 50 _ [(0, _)] _
          refine R_goto rfl ?_
          exact J60 _ (by omega)
  · exact ⟨by dsimp only; omega, rfl⟩

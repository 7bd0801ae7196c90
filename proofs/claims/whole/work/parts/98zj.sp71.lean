set_option maxRecDepth 20000 in
set_option maxHeartbeats 2000000 in
theorem sp_X10_takePart (d : Nat) (hd : 1 ≤ d) (xs : List (Nat × Nat)) (t dd rr : Nat) (σ s : Sg) (D : Nat) (hD : D + 1 ≤ d) (Q : PSt → PSt) (dep m c0 : Int) (S : PSt) (hT : TR σ m) (hdep : 0 ≤ dep ∧ dep ≤ 5) (hsub : dep ≠ 5 → MSp 59 D Q (dep + 1) σ m c0 ∧ MSp 55 D (ch0 (tkM σ) Q) (dep + 1) σ m c0) (h : RP s σ m c0 S) (hd2 : 4 ≤ d) : ∃ σ', Ev d 59 [(87, 0), (0, dep)] (Wd xs t dd rr s) (8, 0) (Wd xs t dd rr σ') ∧ RP σ' σ m c0 (prG (tkM σ) (twM σ) (σ 74) Q dep S) ∧ GR s σ' := by
  obtain ⟨d, rfl⟩ : ∃ e, d = e + 1 := ⟨d - 1, by omega⟩
  have hm := hT.1
  obtain ⟨a1, a2, a3, a4, a5, a6, a7⟩ := id h
  have hat : 0 ≤ s 71 7 ∧ s 71 7 ≤ 1001 := by omega
  refine evS (nL := 7) (code := k_X10_takePart) rfl dc_X10_takePart rfl (fun E hE => ?_)
  show pCm (Ev d) k_X10_takePart E 0 [(87, 0), (0, dep), (9, 0), (9, 0), (9, 0), (9, 0), (9, 0)] [] _
  refine R_aload rfl rfl rfl ?_
  refine T_geti rfl rfl rfl ?_
  refine R_if rfl (fun h4 => ?_) (fun h4 => ?_)
  · try simp only [ne_eq, b2i_e, b2i_1, Classical.not_not] at h4
    have hf0 : S.2.1 = 0 := by omega
    obtain ⟨hi, hc18, -⟩ := a7 hf0
    have e73 : s 73 S.1 = σ 73 S.1 := a1.row 73 rfl _
    have e75 : s 75 S.1 = σ 75 S.1 := a1.row 75 rfl _
    have e76 : s 76 = σ 76 := a1.fn 76 rfl
    have hfb := fnd_bd (r := σ 76) (v := σ 75 S.1) (n := 20) (by omega)
    clear a6 a7
    refine R_push rfl ?_
    refine R_istore rfl rfl ?_
    show pCm _ _ _ _ [_, _, _, _, _, _, _] _ _
    refine R_push rfl ?_
    refine R_istore rfl rfl ?_
    show pCm _ _ _ _ [_, _, _, _, _, _, _] _ _
    refine fgt wc_X10_takePart [1, 1, 1, 1, 0, 0, 0] ?_
    refine loop (pc := 13) (α := Int × Int) (fun x => (20 - x.2).toNat) (fun x => ([(87, 0), (0, dep), (0, x.1), (0, x.2), (9, 0), (9, 0), (9, 0)], Wd xs t dd rr s)) (fun x => (8 ≤ x.2 ∧ x.2 ≤ 20) ∧ x.1 = (if σ 73 S.1 = 1 ∧ 8 ≤ fnd (σ 76) (σ 75 S.1) 20 ∧ fnd (σ 76) (σ 75 S.1) 20 < x.2 then fnd (σ 76) (σ 75 S.1) 20 - 8 else -1)) ?_ (-1, 8) ?_
    · intro ⟨fa, k⟩ ⟨hk, hfa⟩ ih
      dsimp only at hk hfa ⊢
      have hw2 : woM s k = 1 ∧ (s 71 8 = 0 ∧ s 73 (s 71 7) = 1 ∧ s 75 (s 71 7) = s 76 k) ∨ woM s k = 0 ∧ ¬ (s 71 8 = 0 ∧ s 73 (s 71 7) = 1 ∧ s 75 (s 71 7) = s 76 k) := b2i_or
      rw [hi, e73, e75, e76] at hw2
      have hfk : k < 20 → (σ 75 S.1 = σ 76 k ↔ fnd (σ 76) (σ 75 S.1) 20 = k) := fun w => by
        constructor
        · intro z; rw [z]; exact fnd_at hT.2.2.2.1 (by omega) w
        · intro z
          rcases hfb with y | y
          · omega
          · rw [z] at y; exact y.2.2.1.symm
      refine R_iload rfl rfl ?_
      refine R_push rfl ?_
      refine R_ic rfl (fun h16 => ?_) (fun h16 => ?_)
      · try simp only [ne_eq, b2i_e, b2i_1, Classical.not_not] at h16
        have hk20 : k = 20 := by omega
        have hfx : fa = (if σ 73 S.1 = 1 ∧ 8 ≤ fnd (σ 76) (σ 75 S.1) 20 ∧ fnd (σ 76) (σ 75 S.1) 20 < 20 then fnd (σ 76) (σ 75 S.1) 20 - 8 else -1) := by rw [hfa, hk20]
        clear hfa hw2 hfk ih
        have J60 : ∀ nu : Int, (nu = 1 ∧ (σ 73 S.1 = 2) ∨ nu = 0 ∧ ¬ (σ 73 S.1 = 2)) → pCm (Ev d) k_X10_takePart E 60 [(87, 0), (0, dep), (0, fa), (0, k), (9, 0), (9, 0), (9, 0)] [(0, nu)] (Wd xs t dd rr s) := by
          intro nu hnu
          refine R_istore rfl rfl ?_
          show pCm _ _ _ _ [_, _, _, _, _, _, _] _ _
          have J84 : ∀ opn : Int, (opn = 1 ∧ (tkM σ S.1 = 40 ∨ tkM σ S.1 = 135) ∨ opn = 0 ∧ ¬ (tkM σ S.1 = 40 ∨ tkM σ S.1 = 135)) → pCm (Ev d) k_X10_takePart E 84 [(87, 0), (0, dep), (0, fa), (0, nu), (9, 0), (9, 0), (9, 0)] [(0, opn)] (Wd xs t dd rr s) := by
            intro opn hopn
            refine R_istore rfl rfl ?_
            show pCm _ _ _ _ [_, _, _, _, _, _, _] _ _
            have J111 : ∀ wd : Int, (wd = 1 ∧ (σ 73 S.1 = 1 ∧ fnd (σ 76) (σ 75 S.1) 20 = -1) ∨ wd = 0 ∧ ¬ (σ 73 S.1 = 1 ∧ fnd (σ 76) (σ 75 S.1) 20 = -1)) → pCm (Ev d) k_X10_takePart E 111 [(87, 0), (0, dep), (0, fa), (0, nu), (0, opn), (9, 0), (9, 0)] [(0, wd)] (Wd xs t dd rr s) := by
              intro wd hwd
              refine R_istore rfl rfl ?_
              show pCm _ _ _ _ [_, _, _, _, _, _, _] _ _
              have J126 : ∀ tl : Int, (wd = 1 → tl = idx (nmF σ) (σ 81 (σ 71 11)) (σ 75 S.1)) → (wd = 0 → tl = -1) → pCm (Ev d) k_X10_takePart E 126 [(87, 0), (0, dep), (0, fa), (0, nu), (0, opn), (0, wd), (9, 0)] [(0, tl)] (Wd xs t dd rr s) := by
                intro tl htl1 htl2
                refine R_istore rfl rfl ?_
                show pCm _ _ _ _ [_, _, _, _, _, _, _] _ _
                have hcs := tk_cs hT (j := S.1) (by omega) (by omega)
                have hnb := idx_c (R := nmF σ) (T := σ 81 (σ 71 11)) (y := σ 75 S.1) hT.2.2.2.2.2.1
                clear hfb
                rcases hcs with c | c | c | c | ⟨c, c | c | c⟩
                · obtain ⟨q1, q2, q3, q4, q5⟩ : fa = -1 ∧ nu = 0 ∧ opn = 0 ∧ wd = 0 ∧ tl = -1 := ⟨by rw [hfx]; first | (rw [if_pos (by omega)]; omega) | (rw [if_neg (by omega)]), by omega, by omega, by omega, by omega⟩
                  rw [q1, q2, q3, q4, q5]
                  exact tp_x d xs t dd rr σ s E D (by omega) Q dep m c0 S hT hdep hsub h (by omega) hf0 hE (by omega)
                · obtain ⟨q1, q2, q3, q4, q5⟩ : fa = -1 ∧ nu = 0 ∧ opn = 0 ∧ wd = 0 ∧ tl = -1 := ⟨by rw [hfx]; first | (rw [if_pos (by omega)]; omega) | (rw [if_neg (by omega)]), by omega, by omega, by omega, by omega⟩
                  rw [q1, q2, q3, q4, q5]
                  exact tp_x d xs t dd rr σ s E D (by omega) Q dep m c0 S hT hdep hsub h (by omega) hf0 hE (by omega)
                · obtain ⟨q1, q2, q3, q4, q5⟩ : fa = -1 ∧ nu = 1 ∧ opn = 0 ∧ wd = 0 ∧ tl = -1 := ⟨by rw [hfx]; first | (rw [if_pos (by omega)]; omega) | (rw [if_neg (by omega)]), by omega, by omega, by omega, by omega⟩
                  rw [q1, q2, q3, q4, q5]
                  exact tp_2 d xs t dd rr σ s E D (by omega) Q dep m c0 S hT hdep hsub h (by omega) hf0 hE c.2.1 c.2.2.2 c.2.2.1
                · by_cases z : tkM σ S.1 = 40
                  · obtain ⟨q1, q2, q3, q4, q5⟩ : fa = -1 ∧ nu = 0 ∧ opn = 1 ∧ wd = 0 ∧ tl = -1 := ⟨by rw [hfx]; first | (rw [if_pos (by omega)]; omega) | (rw [if_neg (by omega)]), by omega, by omega, by omega, by omega⟩
                    rw [q1, q2, q3, q4, q5]
                    exact tp_40 d xs t dd rr σ s E D (by omega) Q dep m c0 S hT hdep hsub h (by omega) hf0 hE z
                  · obtain ⟨q1, q2, q3, q4, q5⟩ : fa = -1 ∧ nu = 0 ∧ opn = 0 ∧ wd = 0 ∧ tl = -1 := ⟨by rw [hfx]; first | (rw [if_pos (by omega)]; omega) | (rw [if_neg (by omega)]), by omega, by omega, by omega, by omega⟩
                    rw [q1, q2, q3, q4, q5]
                    exact tp_x d xs t dd rr σ s E D (by omega) Q dep m c0 S hT hdep hsub h (by omega) hf0 hE (by omega)
                · by_cases z : twM σ S.1 = -1
                  · obtain ⟨q1, q2, q3, q4, q5⟩ : fa = -1 ∧ nu = 0 ∧ opn = 0 ∧ wd = 1 ∧ tl = twM σ S.1 := ⟨by rw [hfx]; first | (rw [if_pos (by omega)]; omega) | (rw [if_neg (by omega)]), by omega, by omega, by omega, by omega⟩
                    rw [q1, q2, q3, q4, q5]
                    exact tp_3b d xs t dd rr σ s E D (by omega) Q dep m c0 S hT hdep hsub h (by omega) hf0 hE c.2.1 z
                  · obtain ⟨q1, q2, q3, q4, q5⟩ : fa = -1 ∧ nu = 0 ∧ opn = 0 ∧ wd = 1 ∧ tl = twM σ S.1 := ⟨by rw [hfx]; first | (rw [if_pos (by omega)]; omega) | (rw [if_neg (by omega)]), by omega, by omega, by omega, by omega⟩
                    rw [q1, q2, q3, q4, q5]
                    exact tp_3 d xs t dd rr σ s E D (by omega) Q dep m c0 S hT hdep hsub h (by omega) hf0 hE c.2.1 (by omega)
                · by_cases z : tkM σ S.1 = 135
                  · obtain ⟨q1, q2, q3, q4, q5⟩ : fa = -1 ∧ nu = 0 ∧ opn = 1 ∧ wd = 0 ∧ tl = -1 := ⟨by rw [hfx]; first | (rw [if_pos (by omega)]; omega) | (rw [if_neg (by omega)]), by omega, by omega, by omega, by omega⟩
                    rw [q1, q2, q3, q4, q5]
                    exact tp_135 d xs t dd rr σ s E D (by omega) Q dep m c0 S hT hdep hsub h (by omega) hf0 hE z
                  · obtain ⟨q1, q2, q3, q4, q5⟩ : fa = -1 ∧ nu = 0 ∧ opn = 0 ∧ wd = 0 ∧ tl = -1 := ⟨by rw [hfx]; first | (rw [if_pos (by omega)]; omega) | (rw [if_neg (by omega)]), by omega, by omega, by omega, by omega⟩
                    rw [q1, q2, q3, q4, q5]
                    exact tp_x d xs t dd rr σ s E D (by omega) Q dep m c0 S hT hdep hsub h (by omega) hf0 hE (by omega)
                · obtain ⟨q1, q2, q3, q4, q5⟩ : fa = twM σ S.1 ∧ nu = 0 ∧ opn = 0 ∧ wd = 0 ∧ tl = -1 := ⟨by rw [hfx]; first | (rw [if_pos (by omega)]; omega) | (rw [if_neg (by omega)]), by omega, by omega, by omega, by omega⟩
                  rw [q1, q2, q3, q4, q5]
                  exact tp_4 d xs t dd rr σ s E D (by omega) Q dep m c0 S hT hdep hsub h (by omega) hf0 hE c.2.1 (by omega)
              refine R_iload rfl rfl ?_
              refine R_if rfl (fun h115 => ?_) (fun h115 => ?_)
              · try simp only [ne_eq, b2i_e, b2i_1, Classical.not_not] at h115
                refine R_push rfl ?_
                exact J126 _ (by omega) (by omega)
              · try simp only [ne_eq, b2i_e, b2i_1, Classical.not_not] at h115
                refine R_aload rfl rfl rfl ?_
                have hfn := sp_X10_findName d (by omega) xs t dd rr s (σ 81 (σ 71 11)) (by rw [a1.at 71 11 rfl]; exact hT.2.2.2.2.1) (by rw [a1.at 71 11 rfl, a1.row 81 rfl]) hT.2.2.2.2.2 hat
                rw [hi, e75, a1.at 71 11 rfl, a1.fn 82 rfl] at hfn
                have hfn : Ev d 53 [(87, 0)] (Wd xs t dd rr s) (0, idx (nmF σ) (σ 81 (σ 71 11)) (σ 75 S.1)) (Wd xs t dd rr s) := hfn
                refine R_invv rfl rfl rfl rfl rfl rfl (hfn) rfl ?_
                show pCm _ _ _ 122 _ [(0, _)] _
                refine R_goto rfl ?_
                exact J126 _ (by omega) (by omega)
            refine R_aload rfl rfl rfl ?_
            refine T_getr (v := 89) rfl rfl rfl rfl ?_
            refine R_aload rfl rfl rfl ?_
            refine T_geti rfl rfl rfl ?_
            rw [hi]
            refine T_ald rfl rfl (by omega) (by omega) ?_
            rw [e73]
            refine R_push rfl ?_
            refine R_ic rfl (fun h96 => ?_) (fun h96 => ?_)
            · try simp only [ne_eq, b2i_e, b2i_1, Classical.not_not] at h96
              refine R_push rfl ?_
              exact J111 _ (by omega)
            · try simp only [ne_eq, b2i_e, b2i_1, Classical.not_not] at h96
              refine R_aload rfl rfl rfl ?_
              have hkp := sp_X10_isKept d (by omega) xs t dd rr s hat
              rw [hi, e73, e75, e76] at hkp
              have hkb : b2i (s 71 8 = 0 ∧ σ 73 S.1 = 1 ∧ fnd (σ 76) (σ 75 S.1) 20 ≠ -1) = 1 ∧ (s 71 8 = 0 ∧ σ 73 S.1 = 1 ∧ fnd (σ 76) (σ 75 S.1) 20 ≠ -1) ∨ b2i (s 71 8 = 0 ∧ σ 73 S.1 = 1 ∧ fnd (σ 76) (σ 75 S.1) 20 ≠ -1) = 0 ∧ ¬ (s 71 8 = 0 ∧ σ 73 S.1 = 1 ∧ fnd (σ 76) (σ 75 S.1) 20 ≠ -1) := b2i_or
              refine R_invv rfl rfl rfl rfl rfl rfl (hkp) rfl ?_
              show pCm _ _ _ 103 _ [(0, _)] _
              refine R_if rfl (fun h103 => ?_) (fun h103 => ?_)
              · try simp only [ne_eq, b2i_e, b2i_1, Classical.not_not] at h103
                refine R_push rfl ?_
                exact J111 _ (by omega)
              · try simp only [ne_eq, b2i_e, b2i_1, Classical.not_not] at h103
                refine R_push rfl ?_
                refine R_goto rfl ?_
                exact J111 _ (by omega)
          refine R_aload rfl rfl rfl ?_
          refine R_push rfl ?_
          have hsg40 := sg_tk (ch := 40) hT h rfl
          refine R_invv rfl rfl rfl rfl rfl rfl (sp_X10_isSign d (by omega) xs t dd rr s 40 hat) rfl ?_
          show pCm _ _ _ 67 _ [(0, _)] _
          refine R_if rfl (fun h67 => ?_) (fun h67 => ?_)
          · try simp only [ne_eq, b2i_e, b2i_1, Classical.not_not] at h67
            refine R_push rfl ?_
            refine R_goto rfl ?_
            exact J84 _ (by omega)
          · try simp only [ne_eq, b2i_e, b2i_1, Classical.not_not] at h67
            refine R_aload rfl rfl rfl ?_
            refine R_push rfl ?_
            have hwo7 := wo_tk (w := 7) hT h ⟨by omega, by omega⟩
            refine R_invv rfl rfl rfl rfl rfl rfl (sp_X10_isWord d (by omega) xs t dd rr s 7 ⟨by omega, by omega⟩ hat) rfl ?_
            show pCm _ _ _ 76 _ [(0, _)] _
            refine R_if rfl (fun h76 => ?_) (fun h76 => ?_)
            · try simp only [ne_eq, b2i_e, b2i_1, Classical.not_not] at h76
              refine R_push rfl ?_
              exact J84 _ (by omega)
            · try simp only [ne_eq, b2i_e, b2i_1, Classical.not_not] at h76
              refine R_push rfl ?_
              refine R_goto rfl ?_
              exact J84 _ (by omega)
        refine R_aload rfl rfl rfl ?_
        refine T_getr (v := 89) rfl rfl rfl rfl ?_
        refine R_aload rfl rfl rfl ?_
        refine T_geti rfl rfl rfl ?_
        rw [hi]
        refine T_ald rfl rfl (by omega) (by omega) ?_
        rw [e73]
        refine R_push rfl ?_
        refine R_ic rfl (fun h52 => ?_) (fun h52 => ?_)
        · try simp only [ne_eq, b2i_e, b2i_1, Classical.not_not] at h52
          refine R_push rfl ?_
          exact J60 _ (by omega)
        · try simp only [ne_eq, b2i_e, b2i_1, Classical.not_not] at h52
          refine R_push rfl ?_
          refine R_goto rfl ?_
          exact J60 _ (by omega)
      · try simp only [ne_eq, b2i_e, b2i_1, Classical.not_not] at h16
        refine R_aload rfl rfl rfl ?_
        refine R_iload rfl rfl ?_
        refine R_invv rfl rfl rfl rfl rfl rfl (sp_X10_isWord d (by omega) xs t dd rr s k ⟨by omega, by omega⟩ hat) rfl ?_
        show pCm _ _ _ 24 _ [(0, _)] _
        refine R_if rfl (fun h24 => ?_) (fun h24 => ?_)
        · try simp only [ne_eq, b2i_e, b2i_1, Classical.not_not] at h24
          refine R_iload rfl rfl ?_
          refine R_istore rfl rfl ?_
          show pCm _ _ _ _ [_, _, _, _, _, _, _] _ _
          refine R_inc rfl rfl (by omega) (by omega) ?_
          show pCm _ _ _ _ [_, _, _, _, _, _, _] _ _
          refine R_goto rfl ?_
          refine fgt wc_X10_takePart [1, 1, 1, 1, 0, 0, 0] ?_
          have hfk := hfk (by omega)
          first
          | exact ih (k - 8, k + 1) ⟨by dsimp only; omega, by dsimp only; rw [if_pos (by omega)]; omega⟩ (by dsimp only; omega)
          | (refine ih (fa, k + 1) ⟨by dsimp only; omega, ?_⟩ (by dsimp only; omega)
             show fa = if σ 73 S.1 = 1 ∧ 8 ≤ fnd (σ 76) (σ 75 S.1) 20 ∧ fnd (σ 76) (σ 75 S.1) 20 < k + 1 then fnd (σ 76) (σ 75 S.1) 20 - 8 else -1
             rw [hfa]
             by_cases z : σ 73 S.1 = 1 ∧ 8 ≤ fnd (σ 76) (σ 75 S.1) 20 ∧ fnd (σ 76) (σ 75 S.1) 20 < k
             · rw [if_pos z, if_pos (by omega)]
             · rw [if_neg z, if_neg (by omega)])
        · try simp only [ne_eq, b2i_e, b2i_1, Classical.not_not] at h24
          refine R_iload rfl rfl ?_
          refine R_push rfl ?_
          refine R_sub rfl (by omega) (by omega) ?_
          refine R_goto rfl ?_
          refine R_istore rfl rfl ?_
          show pCm _ _ _ _ [_, _, _, _, _, _, _] _ _
          refine R_inc rfl rfl (by omega) (by omega) ?_
          show pCm _ _ _ _ [_, _, _, _, _, _, _] _ _
          refine R_goto rfl ?_
          refine fgt wc_X10_takePart [1, 1, 1, 1, 0, 0, 0] ?_
          have hfk := hfk (by omega)
          first
          | exact ih (k - 8, k + 1) ⟨by dsimp only; omega, by dsimp only; rw [if_pos (by omega)]; omega⟩ (by dsimp only; omega)
          | (refine ih (fa, k + 1) ⟨by dsimp only; omega, ?_⟩ (by dsimp only; omega)
             show fa = if σ 73 S.1 = 1 ∧ 8 ≤ fnd (σ 76) (σ 75 S.1) 20 ∧ fnd (σ 76) (σ 75 S.1) 20 < k + 1 then fnd (σ 76) (σ 75 S.1) 20 - 8 else -1
             rw [hfa]
             by_cases z : σ 73 S.1 = 1 ∧ 8 ≤ fnd (σ 76) (σ 75 S.1) 20 ∧ fnd (σ 76) (σ 75 S.1) 20 < k
             · rw [if_pos z, if_pos (by omega)]
             · rw [if_neg z, if_neg (by omega)])
    · exact ⟨by dsimp only; omega, by dsimp only; rw [if_neg (by omega)]⟩
  · try simp only [ne_eq, b2i_e, b2i_1, Classical.not_not] at h4
    refine R_vret rfl ?_
    exact hE _ _ rfl ⟨by unfold prG; rw [if_pos (by omega)]; exact h, GR.rf⟩
/-- all of a line's reading, at every depth -/
theorem MS_all {σ : Sg} {m c0 : Int} (hT : TR σ m) : ∀ e : Nat, e ≤ 5 → MSp 59 (6 * e + 4) (prt (tkM σ) (twM σ) (σ 74) e) (5 - e) σ m c0 ∧ MSp 55 (6 * e + 8) (ch0 (tkM σ) (prt (tkM σ) (twM σ) (σ 74) e)) (5 - e) σ m c0 := by
  have hm0 : tkM σ m = 0 := by unfold tkM; rw [if_pos hT.2.1]
  have hpl : ∀ i, 0 ≤ i → i ≤ m → 0 ≤ σ 74 i := fun i i0 i1 => (hT.2.2.1 i i0 i1).2.1.1
  have up : ∀ (e : Nat) (dep : Int) (D : Nat), 4 ≤ D → MSp 59 D (prt (tkM σ) (twM σ) (σ 74) e) dep σ m c0 → MSp 55 (D + 4) (ch0 (tkM σ) (prt (tkM σ) (twM σ) (σ 74) e)) dep σ m c0 := by
    intro e dep D hD hP
    obtain ⟨k3, k2, k1, k0⟩ := ch0_k (prt_k (tw := twM σ) hm0 hpl e) hm0
    have kP := prt_k (tk := tkM σ) (tw := twM σ) (pl := σ 74) hm0 hpl e
    have h3 : MSp 58 (D + 1) (ch3 (tkM σ) (prt (tkM σ) (twM σ) (σ 74) e)) dep σ m c0 := fun d hd xs t dd rr s S hR => sp_X10_term d (by omega) xs t dd rr σ s D hd _ dep m c0 S hT hP kP hR (by omega)
    have h2 : MSp 57 (D + 2) (ch2 (tkM σ) (prt (tkM σ) (twM σ) (σ 74) e)) dep σ m c0 := fun d hd xs t dd rr s S hR => sp_X10_sum d (by omega) xs t dd rr σ s (D + 1) hd _ dep m c0 S hT h3 k3 hR (by omega)
    have h1 : MSp 56 (D + 3) (ch1 (tkM σ) (prt (tkM σ) (twM σ) (σ 74) e)) dep σ m c0 := fun d hd xs t dd rr s S hR => sp_X10_test d (by omega) xs t dd rr σ s (D + 2) hd _ dep m c0 S hT h2 k2 hR (by omega)
    exact fun d hd xs t dd rr s S hR => sp_X10_all d (by omega) xs t dd rr σ s (D + 3) hd _ dep m c0 S hT h1 k1 hR (by omega)
  intro e
  induction e with
  | zero =>
    intro _
    have h0 : MSp 59 (6 * 0 + 4) (prt (tkM σ) (twM σ) (σ 74) 0) (5 - ((0 : Nat) : Int)) σ m c0 := fun d hd xs t dd rr s S hR => by
      rw [prt_0 (Q := fun s => s)]
      exact sp_X10_takePart d (by omega) xs t dd rr σ s 3 (by omega) (fun s => s) 5 m c0 S hT ⟨by omega, by omega⟩ (fun w => absurd rfl w) hR (by omega)
    exact ⟨h0, up 0 _ _ (by omega) h0⟩
  | succ e ih =>
    intro he
    obtain ⟨i1, i2⟩ := ih (by omega)
    have hs : MSp 59 (6 * (e + 1) + 4) (prt (tkM σ) (twM σ) (σ 74) (e + 1)) (5 - ((e + 1 : Nat) : Int)) σ m c0 := fun d hd xs t dd rr s S hR => by
      rw [prt_s (dep := 5 - ((e + 1 : Nat) : Int)) (by omega)]
      have e1 : 5 - ((e + 1 : Nat) : Int) + 1 = 5 - (e : Int) := by omega
      refine sp_X10_takePart d (by omega) xs t dd rr σ s (6 * e + 8) (by omega) _ _ m c0 S hT ⟨by omega, by omega⟩ (fun _ => ?_) hR (by omega)
      rw [e1]
      exact ⟨fun d hd => i1 d (by omega), fun d hd => i2 d (by omega)⟩
    exact ⟨hs, up (e + 1) _ _ (by omega) hs⟩

def onD (σ : Sg) (day br j : Int) : Bool := decide (((day < 0 ∧ σ 106 j = -1) ∨ (0 ≤ day ∧ σ 105 j ≤ day ∧ (σ 106 j = -1 ∨ day < σ 106 j))) ∧ (br = 0 ∨ σ 99 (σ 102 j) = 3))
/-- what the reference's rows must be like for its walks -/
def MB (σ : Sg) (P J : Int) : Prop := σ 71 26 = P ∧ σ 71 43 = J ∧ (0 ≤ P ∧ P ≤ 40) ∧ (0 ≤ J ∧ J ≤ 80) ∧ ∀ j, 0 ≤ j → j < J → (0 ≤ σ 102 j ∧ σ 102 j < 8 * P) ∧ 0 ≤ σ 103 j ∧ σ 103 j < 8 * P
set_option maxRecDepth 20000 in
set_option maxHeartbeats 2000000 in
theorem sp_X10_hangs (d : Nat) (hd : 2 ≤ d) (xs : List (Nat × Nat)) (t dd rr : Nat) (σ : Sg) (day br P J : Int) (hM : MB σ P J) (hbr : br = 0 ∨ br = 1) : ∃ σ', Ev d 84 [(87, 0), (0, day), (0, br)] (Wd xs t dd rr σ) (8, 0) (Wd xs t dd rr σ') ∧ Fr [107] [] σ σ' ∧ ∀ p, 0 ≤ p → p < P → σ' 107 p = lab P J (onD σ day br) (σ 102) (σ 103) p := by
  obtain ⟨d, rfl⟩ : ∃ e, d = e + 1 := ⟨d - 1, by omega⟩
  obtain ⟨h26, h43, hP0, hJ0, hAB⟩ := hM
  have hPJ : 0 ≤ P ∧ P ≤ 40 ∧ 0 ≤ J ∧ J ≤ 80 := ⟨hP0.1, hP0.2, hJ0.1, hJ0.2⟩
  clear hP0 hJ0
  refine evS (nL := 9) (code := k_X10_hangs) rfl dc_X10_hangs rfl (fun E hE => ?_)
  show pCm (Ev d) k_X10_hangs E 0 [(87, 0), (0, day), (0, br), (9, 0), (9, 0), (9, 0), (9, 0), (9, 0), (9, 0)] [] _
  refine R_push rfl ?_
  refine R_istore rfl rfl ?_
  refine fgt wc_X10_hangs [1, 1, 1, 1, 0, 0, 0, 0, 0] ?_
  refine loop (pc := 2) (α := Int × Sg) (fun a => (P - a.1).toNat) (fun a => ([(87, 0), (0, day), (0, br), (0, a.1), (9, 0), (9, 0), (9, 0), (9, 0), (9, 0)], Wd xs t dd rr a.2)) (fun a => (0 ≤ a.1 ∧ a.1 ≤ P) ∧ Fr [107] [] σ a.2 ∧ ∀ p, 0 ≤ p → p < a.1 → a.2 107 p = p) ?_ (0, σ) ?_
  · intro ⟨k, s1⟩ ⟨hk, hF, hv⟩ ih
    dsimp only at hk hF hv ⊢
    have e26 := hF.row 71 rfl 26
    have e43 := hF.row 71 rfl 43
    refine R_iload rfl rfl ?_
    refine R_aload rfl rfl rfl ?_
    refine T_geti rfl rfl rfl ?_
    refine R_ic rfl (fun h7 => ?_) (fun h7 => ?_)
    · try simp only [ne_eq, b2i_e, b2i_1, Classical.not_not] at h7
      refine R_push rfl ?_
      refine R_istore rfl rfl ?_
      refine fgt wc_X10_hangs [1, 1, 1, 1, 0, 0, 0, 0, 0] ?_
      refine loop (pc := 25) (α := Int × Sg) (fun a => (J - a.1).toNat) (fun a => ([(87, 0), (0, day), (0, br), (0, a.1), (9, 0), (9, 0), (9, 0), (9, 0), (9, 0)], Wd xs t dd rr a.2)) (fun a => (0 ≤ a.1 ∧ a.1 ≤ J) ∧ Fr [107] [] σ a.2 ∧ ∀ p, 0 ≤ p → p < P → a.2 107 p = lab P a.1 (onD σ day br) (σ 102) (σ 103) p) ?_ (0, s1) ?_
      · clear e26 e43
        clear ih hk
        clear h7
        intro ⟨j, s1⟩ ⟨hk, hF, hv⟩ ih
        dsimp only at hk hF hv ⊢
        have e26 := hF.row 71 rfl 26
        have e43 := hF.row 71 rfl 43
        have e102 := hF.row 102 rfl j
        have e103 := hF.row 103 rfl j
        have e105 := hF.row 105 rfl j
        have e106 := hF.row 106 rfl j
        have hbd := lab_bd (P := P) (J := j) (on := onD σ day br) (A := σ 102) (B := σ 103) hk.1 (fun i h0 h1 => hAB i h0 (by omega))
        refine R_iload rfl rfl ?_
        refine R_aload rfl rfl rfl ?_
        refine T_geti rfl rfl rfl ?_
        refine R_ic rfl (fun h30 => ?_) (fun h30 => ?_)
        · try simp only [ne_eq, b2i_e, b2i_1, Classical.not_not] at h30
          refine R_vret rfl ?_
          exact hE _ _ rfl ⟨hF, fun p h0 h1 => by rw [hv p h0 h1]; congr 1; omega⟩
        · try simp only [ne_eq, b2i_e, b2i_1, Classical.not_not] at h30
          have J78 : ∀ v : Int, v = b2i ((day < 0 ∧ σ 106 j = -1) ∨ (0 ≤ day ∧ σ 105 j ≤ day ∧ (σ 106 j = -1 ∨ day < σ 106 j))) → pCm (Ev d) k_X10_hangs E 78 [(87, 0), (0, day), (0, br), (0, j), (9, 0), (9, 0), (9, 0), (9, 0), (9, 0)] [(0, v)] (Wd xs t dd rr s1) := by
            intro v hvv
            have hvc : v = 0 ∧ ¬ ((day < 0 ∧ σ 106 j = -1) ∨ (0 ≤ day ∧ σ 105 j ≤ day ∧ (σ 106 j = -1 ∨ day < σ 106 j))) ∨ v = 1 ∧ ((day < 0 ∧ σ 106 j = -1) ∨ (0 ≤ day ∧ σ 105 j ≤ day ∧ (σ 106 j = -1 ∨ day < σ 106 j))) := by
              by_cases q : ((day < 0 ∧ σ 106 j = -1) ∨ (0 ≤ day ∧ σ 105 j ≤ day ∧ (σ 106 j = -1 ∨ day < σ 106 j)))
              · exact Or.inr ⟨by rw [hvv, b2i_t q], q⟩
              · exact Or.inl ⟨by rw [hvv, b2i_f q], q⟩
            have hj8 := hAB j hk.1 (by omega)
            have esr : s1 99 (s1 102 j) = σ 99 (σ 102 j) := by rw [hF.row 99 rfl, e102]
            refine R_istore rfl rfl ?_
            have J104 : onD σ day br j = true → pCm (Ev d) k_X10_hangs E 104 [(87, 0), (0, day), (0, br), (0, j), (0, v), (9, 0), (9, 0), (9, 0), (9, 0)] [] (Wd xs t dd rr s1) := by
              intro hon
              refine R_aload rfl rfl rfl ?_
              refine T_getr (v := 123) rfl rfl rfl rfl ?_
              refine R_aload rfl rfl rfl ?_
              refine T_getr (v := 118) rfl rfl rfl rfl ?_
              refine R_iload rfl rfl ?_
              refine T_ald rfl rfl (by omega) (by omega) ?_
              refine R_push rfl ?_
              refine R_dv rfl (by omega) (by omega) (by omega) ?_
              refine T_ald rfl rfl (by omega) (by omega) ?_
              generalize ha5 : s1 107 (s1 102 j / 8) = a5
              refine R_istore rfl rfl ?_
              refine R_aload rfl rfl rfl ?_
              refine T_getr (v := 123) rfl rfl rfl rfl ?_
              refine R_aload rfl rfl rfl ?_
              refine T_getr (v := 119) rfl rfl rfl rfl ?_
              refine R_iload rfl rfl ?_
              refine T_ald rfl rfl (by omega) (by omega) ?_
              refine R_push rfl ?_
              refine R_dv rfl (by omega) (by omega) (by omega) ?_
              refine T_ald rfl rfl (by omega) (by omega) ?_
              generalize ha6 : s1 107 (s1 103 j / 8) = a6
              have a5e : a5 = lab P j (onD σ day br) (σ 102) (σ 103) (σ 102 j / 8) := by rw [← ha5, e102]; exact hv _ (by omega) (by omega)
              have a6e : a6 = lab P j (onD σ day br) (σ 102) (σ 103) (σ 103 j / 8) := by rw [← ha6, e103]; exact hv _ (by omega) (by omega)
              refine R_istore rfl rfl ?_
              have J150 : ∀ to : Int, to = (if a5 < a6 then a5 else a6) → pCm (Ev d) k_X10_hangs E 150 [(87, 0), (0, day), (0, br), (0, j), (0, v), (0, a5), (0, a6), (9, 0), (9, 0)] [(0, to)] (Wd xs t dd rr s1) := by
                intro to hto
                refine R_istore rfl rfl ?_
                refine R_push rfl ?_
                refine R_istore rfl rfl ?_
                refine loop (pc := 155) (α := Int × Sg) (fun a => (P - a.1).toNat) (fun a => ([(87, 0), (0, day), (0, br), (0, j), (0, v), (0, a5), (0, a6), (0, to), (0, a.1)], Wd xs t dd rr a.2)) (fun a => (0 ≤ a.1 ∧ a.1 ≤ P) ∧ Fr [107] [] σ a.2 ∧ ∀ p, 0 ≤ p → p < P → a.2 107 p = if p < a.1 then mrg P (lab P j (onD σ day br) (σ 102) (σ 103)) (σ 102 j / 8) (σ 103 j / 8) p else lab P j (onD σ day br) (σ 102) (σ 103) p) ?_ (0, s1) ?_
                · intro ⟨k, s2⟩ ⟨hk2, hF2, hv2⟩ ih2
                  dsimp only at hk2 hF2 hv2 ⊢
                  have g26 := hF2.row 71 rfl 26
                  have g43 := hF2.row 71 rfl 43
                  refine R_iload rfl rfl ?_
                  refine R_aload rfl rfl rfl ?_
                  refine T_geti rfl rfl rfl ?_
                  refine R_ic rfl (fun h161 => ?_) (fun h161 => ?_)
                  · try simp only [ne_eq, b2i_e, b2i_1, Classical.not_not] at h161
                    refine R_inc rfl rfl (by omega) (by omega) ?_
                    refine R_goto rfl ?_
                    refine fgt wc_X10_hangs [1, 1, 1, 1, 0, 0, 0, 0, 0] ?_
                    exact ih (j + 1, s2) ⟨by dsimp only; omega, hF2, fun p h0 h1 => by dsimp only; rw [lab_s hk.1, hon, hv2 p h0 h1, if_pos (by omega)]; rfl⟩ (by dsimp only; omega)
                  · try simp only [ne_eq, b2i_e, b2i_1, Classical.not_not] at h161
                    refine R_aload rfl rfl rfl ?_
                    refine T_getr (v := 123) rfl rfl rfl rfl ?_
                    refine R_iload rfl rfl ?_
                    refine R_aload rfl rfl rfl ?_
                    refine T_getr (v := 123) rfl rfl rfl rfl ?_
                    refine R_iload rfl rfl ?_
                    refine T_ald rfl rfl (by omega) (by omega) ?_
                    refine R_iload rfl rfl ?_
                    refine R_ic rfl (fun h179 => ?_) (fun h179 => ?_)
                    · try simp only [ne_eq, b2i_e, b2i_1, Classical.not_not] at h179
                      refine R_iload rfl rfl ?_
                      refine R_goto rfl ?_
                      refine T_iast rfl rfl (by omega) (by omega) ?_
                      refine R_inc rfl rfl (by omega) (by omega) ?_
                      refine R_goto rfl ?_
                      generalize hs3 : up2 s2 107 k _ = s3
                      refine ih2 (k + 1, s3) ⟨by dsimp only; omega, by rw [← hs3]; exact hF2.upr rfl, fun p h0 h1 => ?_⟩ (by dsimp only; omega)
                      show s3 107 p = if p < k + 1 then _ else _
                      rw [← hs3]
                      have hh := hv2 k hk2.1 (by omega)
                      rw [if_neg (by omega)] at hh
                      by_cases q : p = k
                      · subst q
                        rw [up_s, if_pos (by omega)]
                        unfold mrg
                        rw [← a5e, ← a6e, ← hto]
                        first | rw [if_pos (by omega)] | (rw [if_neg (by omega)]; omega)
                      · rw [up_i q, hv2 p h0 h1]
                        by_cases q2 : p < k
                        · rw [if_pos q2, if_pos (by omega)]
                        · rw [if_neg q2, if_neg (by omega)]
                    · try simp only [ne_eq, b2i_e, b2i_1, Classical.not_not] at h179
                      refine R_aload rfl rfl rfl ?_
                      refine T_getr (v := 123) rfl rfl rfl rfl ?_
                      refine R_iload rfl rfl ?_
                      refine T_ald rfl rfl (by omega) (by omega) ?_
                      refine R_iload rfl rfl ?_
                      refine R_ic rfl (fun h191 => ?_) (fun h191 => ?_)
                      · try simp only [ne_eq, b2i_e, b2i_1, Classical.not_not] at h191
                        refine R_aload rfl rfl rfl ?_
                        refine T_getr (v := 123) rfl rfl rfl rfl ?_
                        refine R_iload rfl rfl ?_
                        refine T_ald rfl rfl (by omega) (by omega) ?_
                        refine T_iast rfl rfl (by omega) (by omega) ?_
                        refine R_inc rfl rfl (by omega) (by omega) ?_
                        refine R_goto rfl ?_
                        generalize hs3 : up2 s2 107 k _ = s3
                        refine ih2 (k + 1, s3) ⟨by dsimp only; omega, by rw [← hs3]; exact hF2.upr rfl, fun p h0 h1 => ?_⟩ (by dsimp only; omega)
                        show s3 107 p = if p < k + 1 then _ else _
                        rw [← hs3]
                        have hh := hv2 k hk2.1 (by omega)
                        rw [if_neg (by omega)] at hh
                        by_cases q : p = k
                        · subst q
                          rw [up_s, if_pos (by omega)]
                          unfold mrg
                          rw [← a5e, ← a6e, ← hto]
                          first | rw [if_pos (by omega)] | (rw [if_neg (by omega)]; omega)
                        · rw [up_i q, hv2 p h0 h1]
                          by_cases q2 : p < k
                          · rw [if_pos q2, if_pos (by omega)]
                          · rw [if_neg q2, if_neg (by omega)]
                      · try simp only [ne_eq, b2i_e, b2i_1, Classical.not_not] at h191
                        refine R_iload rfl rfl ?_
                        refine R_goto rfl ?_
                        refine T_iast rfl rfl (by omega) (by omega) ?_
                        refine R_inc rfl rfl (by omega) (by omega) ?_
                        refine R_goto rfl ?_
                        generalize hs3 : up2 s2 107 k _ = s3
                        refine ih2 (k + 1, s3) ⟨by dsimp only; omega, by rw [← hs3]; exact hF2.upr rfl, fun p h0 h1 => ?_⟩ (by dsimp only; omega)
                        show s3 107 p = if p < k + 1 then _ else _
                        rw [← hs3]
                        have hh := hv2 k hk2.1 (by omega)
                        rw [if_neg (by omega)] at hh
                        by_cases q : p = k
                        · subst q
                          rw [up_s, if_pos (by omega)]
                          unfold mrg
                          rw [← a5e, ← a6e, ← hto]
                          first | rw [if_pos (by omega)] | (rw [if_neg (by omega)]; omega)
                        · rw [up_i q, hv2 p h0 h1]
                          by_cases q2 : p < k
                          · rw [if_pos q2, if_pos (by omega)]
                          · rw [if_neg q2, if_neg (by omega)]
                · exact ⟨⟨Int.le_refl _, hPJ.1⟩, hF, fun p h0 h1 => by dsimp only; rw [if_neg (by omega)]; exact hv p h0 h1⟩
              refine R_iload rfl rfl ?_
              refine R_iload rfl rfl ?_
              refine R_ic rfl (fun h140 => ?_) (fun h140 => ?_)
              · try simp only [ne_eq, b2i_e, b2i_1, Classical.not_not] at h140
                refine R_iload rfl rfl ?_
                exact J150 _ (by split <;> omega)
              · try simp only [ne_eq, b2i_e, b2i_1, Classical.not_not] at h140
                refine R_iload rfl rfl ?_
                refine R_goto rfl ?_
                exact J150 _ (by split <;> omega)
            refine R_iload rfl rfl ?_
            refine R_if rfl (fun h82 => ?_) (fun h82 => ?_)
            · try simp only [ne_eq, b2i_e, b2i_1, Classical.not_not] at h82
              refine R_inc rfl rfl (by omega) (by omega) ?_
              refine R_goto rfl ?_
              have hon : onD σ day br j = false := by unfold onD; rw [decide_eq_false_iff_not]; omega
              refine fgt wc_X10_hangs [1, 1, 1, 1, 0, 0, 0, 0, 0] ?_
              exact ih (j + 1, s1) ⟨by dsimp only; omega, hF, fun p h0 h1 => by dsimp only; rw [lab_s hk.1, hon]; exact hv p h0 h1⟩ (by dsimp only; omega)
            · try simp only [ne_eq, b2i_e, b2i_1, Classical.not_not] at h82
              refine R_iload rfl rfl ?_
              refine R_if rfl (fun h86 => ?_) (fun h86 => ?_)
              · try simp only [ne_eq, b2i_e, b2i_1, Classical.not_not] at h86
                exact J104 (by unfold onD; rw [decide_eq_true_iff]; omega)
              · try simp only [ne_eq, b2i_e, b2i_1, Classical.not_not] at h86
                refine R_aload rfl rfl rfl ?_
                refine T_getr (v := 115) rfl rfl rfl rfl ?_
                refine R_aload rfl rfl rfl ?_
                refine T_getr (v := 118) rfl rfl rfl rfl ?_
                refine R_iload rfl rfl ?_
                refine T_ald rfl rfl (by omega) (by omega) ?_
                refine T_ald rfl rfl (by omega) (by omega) ?_
                refine R_push rfl ?_
                refine R_ic rfl (fun h101 => ?_) (fun h101 => ?_)
                · try simp only [ne_eq, b2i_e, b2i_1, Classical.not_not] at h101
                  refine R_inc rfl rfl (by omega) (by omega) ?_
                  refine R_goto rfl ?_
                  have hon : onD σ day br j = false := by unfold onD; rw [decide_eq_false_iff_not]; omega
                  refine fgt wc_X10_hangs [1, 1, 1, 1, 0, 0, 0, 0, 0] ?_
                  exact ih (j + 1, s1) ⟨by dsimp only; omega, hF, fun p h0 h1 => by dsimp only; rw [lab_s hk.1, hon]; exact hv p h0 h1⟩ (by dsimp only; omega)
                · try simp only [ne_eq, b2i_e, b2i_1, Classical.not_not] at h101
                  exact J104 (by unfold onD; rw [decide_eq_true_iff]; omega)
          refine R_iload rfl rfl ?_
          refine R_if rfl (fun h34 => ?_) (fun h34 => ?_)
          · try simp only [ne_eq, b2i_e, b2i_1, Classical.not_not] at h34
            refine R_aload rfl rfl rfl ?_
            refine T_getr (v := 121) rfl rfl rfl rfl ?_
            refine R_iload rfl rfl ?_
            refine T_ald rfl rfl (by omega) (by omega) ?_
            refine R_iload rfl rfl ?_
            refine R_ic rfl (fun h52 => ?_) (fun h52 => ?_)
            · try simp only [ne_eq, b2i_e, b2i_1, Classical.not_not] at h52
              refine R_push rfl ?_
              exact J78 _ (by first | rfl | (rw [b2i_t (by omega)]) | (rw [b2i_f (by omega)]) | (apply b2i_iff; omega))
            · try simp only [ne_eq, b2i_e, b2i_1, Classical.not_not] at h52
              refine R_aload rfl rfl rfl ?_
              refine R_iload rfl rfl ?_
              refine R_invv rfl rfl rfl rfl rfl rfl (sp_X10_isOn d (by omega) xs t dd rr s1 j ⟨by omega, by omega⟩) rfl ?_
              show pCm _ _ _ 60 _ [(0, _)] _
              refine R_if rfl (fun h60 => ?_) (fun h60 => ?_)
              · try simp only [ne_eq, b2i_e, b2i_1, Classical.not_not] at h60
                refine R_push rfl ?_
                refine R_goto rfl ?_
                exact J78 _ (by first | rfl | (rw [b2i_t (by omega)]) | (rw [b2i_f (by omega)]) | (apply b2i_iff; omega))
              · try simp only [ne_eq, b2i_e, b2i_1, Classical.not_not] at h60
                refine R_aload rfl rfl rfl ?_
                refine T_getr (v := 122) rfl rfl rfl rfl ?_
                refine R_iload rfl rfl ?_
                refine T_ald rfl rfl (by omega) (by omega) ?_
                refine R_iload rfl rfl ?_
                refine R_ic rfl (fun h70 => ?_) (fun h70 => ?_)
                · try simp only [ne_eq, b2i_e, b2i_1, Classical.not_not] at h70
                  refine R_push rfl ?_
                  exact J78 _ (by first | rfl | (rw [b2i_t (by omega)]) | (rw [b2i_f (by omega)]) | (apply b2i_iff; omega))
                · try simp only [ne_eq, b2i_e, b2i_1, Classical.not_not] at h70
                  refine R_push rfl ?_
                  refine R_goto rfl ?_
                  exact J78 _ (by first | rfl | (rw [b2i_t (by omega)]) | (rw [b2i_f (by omega)]) | (apply b2i_iff; omega))
          · try simp only [ne_eq, b2i_e, b2i_1, Classical.not_not] at h34
            refine R_aload rfl rfl rfl ?_
            refine R_iload rfl rfl ?_
            refine R_invv rfl rfl rfl rfl rfl rfl (sp_X10_isOn d (by omega) xs t dd rr s1 j ⟨by omega, by omega⟩) rfl ?_
            show pCm _ _ _ 42 _ [(0, _)] _
            refine R_goto rfl ?_
            exact J78 _ (by first | rfl | (rw [b2i_t (by omega)]) | (rw [b2i_f (by omega)]) | (apply b2i_iff; omega))
      · exact ⟨⟨Int.le_refl _, hPJ.2.2.1⟩, hF, fun p h0 h1 => by dsimp only; rw [lab_0]; exact hv p h0 (by omega)⟩
    · try simp only [ne_eq, b2i_e, b2i_1, Classical.not_not] at h7
      refine R_aload rfl rfl rfl ?_
      refine T_getr (v := 123) rfl rfl rfl rfl ?_
      refine R_iload rfl rfl ?_
      refine R_iload rfl rfl ?_
      refine T_iast rfl rfl (by omega) (by omega) ?_
      refine R_inc rfl rfl (by omega) (by omega) ?_
      refine R_goto rfl ?_
      generalize hs3 : up2 s1 107 k _ = s3
      refine ih (k + 1, s3) ⟨by dsimp only; omega, by rw [← hs3]; exact hF.upr rfl, fun p h0 h1 => ?_⟩ (by dsimp only; omega)
      dsimp only at h1 ⊢
      rw [← hs3]
      by_cases q : p = k
      · rw [q, up_s]
      · rw [up_i q]; exact hv p h0 (by omega)
  · exact ⟨⟨Int.le_refl _, hPJ.1⟩, Fr.rf, fun p h0 h1 => by dsimp only at h1; omega⟩

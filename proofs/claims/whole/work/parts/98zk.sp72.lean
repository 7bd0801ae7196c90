/-- heads of lines -/
def tnm (tk tw pl : Int → Int) (lo hi : Int) (s : PSt) : PSt := if s.2.1 ≠ 0 then s else if tk s.1 ≠ 2 then pEr pl 1 s else if tw s.1 < lo ∨ hi < tw s.1 then pEr pl 4 s else pAd s
def tnn (tk tw pl : Int → Int) (M : Int) (s : PSt) : PSt := if s.2.1 ≠ 0 then s else if tk s.1 ≠ 3 then pEr pl 1 s else if tw s.1 ≠ -1 then pEr pl 3 s else if M = 8 then pEr pl 5 s else pAd s
def tsg (tk pl : Int → Int) (ch : Int) (s : PSt) : PSt := if s.2.1 ≠ 0 then s else if tk s.1 = ch then pAd s else pEr pl 1 s
theorem RP_tw {s s' σ : Sg} {m c0 w : Int} {S : PSt} (hT : TR σ m) (h : RP s σ m c0 S) (hw : 0 ≤ w ∧ w < 8) (hF : Fr [] [(71, 7), (71, 8)] s s') (h7 : s' 71 7 = s 71 7 + woM s w) (h8 : s' 71 8 = if woM s w = 1 then s 71 8 else if s 71 8 = 0 then 1 + 16 * s 74 (s 71 7) else s 71 8) : RP s' σ m c0 (tsg (tkM σ) (σ 74) (128 + w) S) ∧ GR s s' := by
  have hsg := wo_tk hT h hw
  obtain ⟨a1, a2, a3, a4, a5, a6, a7⟩ := h
  have hp := (hT.2.2.1 (s 71 7) a4.1 a4.2).2.1
  have h18 := hF.at 71 18 rfl
  have hfr : Fp σ s' := a1.tr hF rfl rfl
  have hout : ∀ x, x < 1100 * σ 71 11 + c0 ∨ 1100 * (σ 71 11 + 1) ≤ x → s' 83 x = σ 83 x ∧ s' 84 x = σ 84 x := fun x hx => by rw [hF.row 83 rfl, hF.row 84 rfl]; exact a6 x hx
  rw [a1.row 74 rfl] at h8
  unfold tsg
  by_cases q : S.2.1 = 0
  · rw [if_neg (by omega)]
    obtain ⟨b1, b2, b3⟩ := a7 q
    by_cases z : tkM σ S.1 = 128 + w
    · rw [if_pos z]
      have hs1 : woM s w = 1 := by omega
      have hne : S.1 ≠ m := fun y => by
        have e : tkM σ m = 0 := by unfold tkM; rw [if_pos hT.2.1]
        rw [y, e] at z; omega
      rw [if_pos hs1] at h8
      refine ⟨⟨hfr, by rw [h8]; exact a2, a3, by omega, by omega, hout, fun _ => ⟨by rw [h7, hs1, b1]; rfl, by rw [h18]; exact b2, fun y y0 y1 => by rw [hF.row 83 rfl, hF.row 84 rfl]; exact b3 y y0 y1⟩⟩, by omega, by omega, by omega⟩
    · rw [if_neg z]
      have hs0 : woM s w = 0 := by omega
      rw [if_neg (by omega), if_pos (by omega)] at h8
      refine ⟨⟨hfr, by rw [h8, b1]; rfl, by show 0 ≤ 1 + 16 * σ 74 S.1; rw [← b1]; omega, by omega, by omega, hout, fun y => ?_⟩, by omega, by omega, by omega⟩
      have y : 1 + 16 * σ 74 S.1 = 0 := y
      rw [← b1] at y
      omega
  · rw [if_pos q]
    have hs0 : woM s w = 0 := by omega
    rw [if_neg (by omega), if_neg (by omega)] at h8
    exact ⟨⟨hfr, by rw [h8]; exact a2, a3, by omega, by omega, hout, fun z => absurd z q⟩, by omega, by omega, by omega⟩
set_option maxRecDepth 20000 in
set_option maxHeartbeats 2000000 in
theorem sp_X10_lineWord (d : Nat) (hd : 2 ≤ d) (xs : List (Nat × Nat)) (t dd rr : Nat) (σ s : Sg) (m c0 : Int) (S : PSt) (hT : TR σ m) (h : RP s σ m c0 S)  : Ev d 49 [(87, 0)] (Wd xs t dd rr s) (0, (if S.2.1 = 0 ∧ 128 ≤ tkM σ S.1 ∧ tkM σ S.1 ≤ 131 then tkM σ S.1 - 128 else -1)) (Wd xs t dd rr s) := by
  obtain ⟨d, rfl⟩ : ∃ e, d = e + 1 := ⟨d - 1, by omega⟩
  have hm := hT.1
  obtain ⟨a1, a2, a3, a4, a5, a6, a7⟩ := id h
  have hat : 0 ≤ s 71 7 ∧ s 71 7 ≤ 1001 := by omega
  have hpl : 0 ≤ s 74 (s 71 7) ∧ s 74 (s 71 7) ≤ 1000 := by rw [a1.row 74 rfl]; exact (hT.2.2.1 (s 71 7) a4.1 a4.2).2.1
  refine evP (nL := 2) (code := k_X10_lineWord) rfl pb0 rfl (fun E hE => ?_)
  show pCm (Ev d) k_X10_lineWord E 0 [(87, 0), (9, 0)] [] _
  refine R_push rfl ?_
  refine R_istore rfl rfl ?_
  refine loop (pc := 2) (α := Int) (fun x => (4 - x).toNat) (fun x => ([(87, 0), (0, x)], Wd xs t dd rr s)) (fun x => (0 ≤ x ∧ x ≤ 4) ∧ ∀ q, 0 ≤ q → q < x → ¬ (S.2.1 = 0 ∧ tkM σ S.1 = 128 + q)) ?_ 0 ?_
  · intro k ⟨hk, hn⟩ ih
    dsimp only at hk hn ⊢
    have hwk : k < 4 → _ := fun w => wo_tk (w := k) hT h ⟨by omega, by omega⟩
    refine R_iload rfl rfl ?_
    refine R_push rfl ?_
    refine R_ic rfl (fun h4 => ?_) (fun h4 => ?_)
    · try simp only [ne_eq, b2i_e, b2i_1, Classical.not_not] at h4
      refine R_push rfl ?_
      refine R_iret rfl ?_
      exact hE _ (by
        rw [if_neg (fun w => by
          have := hn (tkM σ S.1 - 128) (by omega) (by omega)
          exact this ⟨w.1, by omega⟩)])
    · try simp only [ne_eq, b2i_e, b2i_1, Classical.not_not] at h4
      refine R_aload rfl rfl rfl ?_
      refine R_iload rfl rfl ?_
      refine R_invv rfl rfl rfl rfl rfl rfl (sp_X10_isWord d (by omega) xs t dd rr s k ⟨by omega, by omega⟩ hat) rfl ?_
      show pCm _ _ _ 12 _ [(0, _)] _
      refine R_if rfl (fun h12 => ?_) (fun h12 => ?_)
      · try simp only [ne_eq, b2i_e, b2i_1, Classical.not_not] at h12
        refine R_inc rfl rfl (by omega) (by omega) ?_
        refine R_goto rfl ?_
        have hwk := hwk (by omega)
        refine ih (k + 1) ⟨⟨by omega, by omega⟩, fun q q0 q1 => ?_⟩ (by omega)
        by_cases z : q = k
        · rw [z]; omega
        · exact hn q q0 (by omega)
      · try simp only [ne_eq, b2i_e, b2i_1, Classical.not_not] at h12
        refine R_iload rfl rfl ?_
        refine R_iret rfl ?_
        exact hE _ (by have hwk := hwk (by omega); rw [if_pos (by omega)]; congr 1; omega)
  · exact ⟨⟨by omega, by omega⟩, fun q q0 q1 => by omega⟩
theorem lc_l {a b : Int} : pLcmp a b < 0 ↔ a < b := by unfold pLcmp; split <;> (try split) <;> omega
theorem lc_g {a b : Int} : pLcmp a b ≤ 0 ↔ a ≤ b := by unfold pLcmp; split <;> (try split) <;> omega
set_option maxRecDepth 20000 in
set_option maxHeartbeats 2000000 in
theorem sp_X10_takeNumber (d : Nat) (hd : 2 ≤ d) (xs : List (Nat × Nat)) (t dd rr : Nat) (σ s : Sg) (lo hh : Int) (hlh : 0 ≤ lo ∧ hh ≤ 99) (m c0 : Int) (S : PSt) (hT : TR σ m) (h : RP s σ m c0 S)  : ∃ σ', Ev d 51 [(87, 0), (0, lo), (0, hh)] (Wd xs t dd rr s) (0, if (tnm (tkM σ) (twM σ) (σ 74) lo hh S).2.1 = 0 then twM σ S.1 else 0) (Wd xs t dd rr σ') ∧ RP σ' σ m c0 (tnm (tkM σ) (twM σ) (σ 74) lo hh S) ∧ GR s σ' := by
  obtain ⟨d, rfl⟩ : ∃ e, d = e + 1 := ⟨d - 1, by omega⟩
  have hm := hT.1
  obtain ⟨a1, a2, a3, a4, a5, a6, a7⟩ := id h
  have hat : 0 ≤ s 71 7 ∧ s 71 7 ≤ 1001 := by omega
  have hpl : 0 ≤ s 74 (s 71 7) ∧ s 74 (s 71 7) ≤ 1000 := by rw [a1.row 74 rfl]; exact (hT.2.2.1 (s 71 7) a4.1 a4.2).2.1
  have hcs : S.2.1 = 0 → _ := fun q => tk_cs hT (j := S.1) (by have := (a7 q).1; omega) (by have := (a7 q).1; omega)
  have hi : S.2.1 = 0 → s 71 7 = S.1 := fun q => (a7 q).1
  have e73 : s 73 S.1 = σ 73 S.1 := a1.row 73 rfl _
  have e75 : s 75 S.1 = σ 75 S.1 := a1.row 75 rfl _
  clear a6 a7
  refine evS (nL := 3) (code := k_X10_takeNumber) rfl dc_X10_takeNumber rfl (fun E hE => ?_)
  show pCm (Ev d) k_X10_takeNumber E 0 [(87, 0), (0, lo), (0, hh)] [] _
  have J79 : S.2.1 = 0 → tkM σ S.1 = 2 → (lo ≤ twM σ S.1 ∧ twM σ S.1 ≤ hh) → pCm (Ev d) k_X10_takeNumber E 79 [(87, 0), (0, lo), (0, hh)] [] (Wd xs t dd rr s) := by
    intro hf0 htk hwl
    have hi0 := hi hf0
    have hcs0 := hcs hf0
    have hv9 : twM σ S.1 = σ 75 S.1 ∧ 0 ≤ σ 75 S.1 ∧ σ 75 S.1 ≤ 9999 := by omega
    clear hcs hcs0
    refine R_aload rfl rfl rfl ?_
    refine R_dup rfl rfl ?_
    refine T_geti rfl rfl rfl ?_
    refine R_push rfl ?_
    refine R_add rfl (by omega) (by omega) ?_
    refine T_puti rfl rfl rfl ?_
    generalize hs3 : up2 s 71 7 (s 71 7 + 1) = s3
    have hF3 : Fr [] [(71, 7)] s s3 := by rw [← hs3]; exact Fr.rf.up rfl
    have h73 : s3 71 7 = s 71 7 + 1 := by rw [← hs3]; simp [up2]
    obtain ⟨hR3, hG3⟩ := RP_ad hT h hf0 (by omega) hF3 h73
    have e375 : s3 75 (s3 71 7 - 1) = σ 75 S.1 := by rw [h73, hi0, show S.1 + 1 - 1 = S.1 by omega, hF3.row 75 rfl, e75]
    refine R_aload rfl rfl rfl ?_
    refine T_getr (v := 91) rfl rfl rfl rfl ?_
    refine R_aload rfl rfl rfl ?_
    refine T_geti rfl rfl rfl ?_
    refine R_push rfl ?_
    refine R_sub rfl (by omega) (by omega) ?_
    refine T_ald rfl rfl (by omega) (by omega) ?_
    rw [e375]
    refine R_l2i rfl ?_
    rw [l2i_s hv9.2]
    refine R_iret rfl ?_
    exact hE _ _ (by unfold tnm; rw [if_neg (c := S.2.1 ≠ 0) (by omega), if_neg (c := tkM σ S.1 ≠ 2) (by omega), if_neg (c := twM σ S.1 < lo ∨ hh < twM σ S.1) (by omega), if_pos (by show S.2.1 = 0; omega)]; congr 1; omega) ⟨by unfold tnm; rw [if_neg (by omega), if_neg (by omega), if_neg (by omega)]; exact hR3, hG3⟩
  refine R_aload rfl rfl rfl ?_
  refine T_geti rfl rfl rfl ?_
  refine R_if rfl (fun h4 => ?_) (fun h4 => ?_)
  · try simp only [ne_eq, b2i_e, b2i_1, Classical.not_not] at h4
    refine R_aload rfl rfl rfl ?_
    refine T_geti rfl rfl rfl ?_
    refine R_if rfl (fun h32 => ?_) (fun h32 => ?_)
    · try simp only [ne_eq, b2i_e, b2i_1, Classical.not_not] at h32
      refine R_aload rfl rfl rfl ?_
      refine T_geti rfl rfl rfl ?_
      refine R_if rfl (fun h74 => ?_) (fun h74 => ?_)
      · try simp only [ne_eq, b2i_e, b2i_1, Classical.not_not] at h74
        first
        | (exfalso; omega)
        | exact J79 (by omega) (by omega) (by omega)
      · try simp only [ne_eq, b2i_e, b2i_1, Classical.not_not] at h74
        refine R_push rfl ?_
        refine R_iret rfl ?_
        first
        | (exfalso; omega)
        | exact hE _ _ (by unfold tnm; rw [if_pos (c := S.2.1 ≠ 0) (by omega), if_neg (by omega)]) ⟨by unfold tnm; rw [if_pos (by omega)]; exact h, GR.rf⟩
        | exact hE _ _ (by unfold tnm; rw [if_neg (c := S.2.1 ≠ 0) (by omega), if_pos (c := tkM σ S.1 ≠ 2) (by omega), if_neg (by have := hR2.2.1; omega)]) ⟨by unfold tnm; rw [if_neg (by omega), if_pos (by omega)]; exact hR2, hG2⟩
        | exact hE _ _ (by unfold tnm; rw [if_neg (c := S.2.1 ≠ 0) (by omega), if_neg (c := tkM σ S.1 ≠ 2) (by omega), if_pos (c := twM σ S.1 < lo ∨ hh < twM σ S.1) (by omega), if_neg (by have := hR2.2.1; omega)]) ⟨by unfold tnm; rw [if_neg (by omega), if_neg (by omega), if_pos (by omega)]; exact hR2, hG2⟩
    · try simp only [ne_eq, b2i_e, b2i_1, Classical.not_not] at h32
      have hiS := hi (by omega)
      have hcs2 := hcs (by omega)
      have hlc1 := lc_l (a := σ 75 S.1) (b := lo)
      have hlc2 := lc_g (a := σ 75 S.1) (b := hh)
      refine R_aload rfl rfl rfl ?_
      refine T_getr (v := 91) rfl rfl rfl rfl ?_
      refine R_aload rfl rfl rfl ?_
      refine T_geti rfl rfl rfl ?_
      rw [hiS]
      refine T_ald rfl rfl (by omega) (by omega) ?_
      rw [e75]
      refine R_iload rfl rfl ?_
      refine R_i2l rfl ?_
      refine R_lcmp rfl ?_
      refine R_if rfl (fun h47 => ?_) (fun h47 => ?_)
      · try simp only [ne_eq, b2i_e, b2i_1, Classical.not_not] at h47
        refine R_aload rfl rfl rfl ?_
        refine R_push rfl ?_
        obtain ⟨s2, hev2, hF2, h82⟩ := sp_X10_wrong d (by omega) xs t dd rr s 4 ⟨by omega, by omega⟩ hat hpl
        obtain ⟨hR2, hG2⟩ := RP_er (c := 4) hT h (by omega) hF2 h82
        rw [if_pos (by omega)] at hR2
        have h82' : 1 ≤ s2 71 8 := by rw [h82, if_pos (by omega)]; omega
        refine R_invv rfl rfl rfl rfl rfl rfl (hev2) rfl ?_
        show pCm _ _ _ 70 _ [] _
        refine R_aload rfl rfl rfl ?_
        refine T_geti rfl rfl rfl ?_
        refine R_if rfl (fun h74 => ?_) (fun h74 => ?_)
        · try simp only [ne_eq, b2i_e, b2i_1, Classical.not_not] at h74
          first
          | (exfalso; omega)
          | exact J79 (by omega) (by omega) (by omega)
        · try simp only [ne_eq, b2i_e, b2i_1, Classical.not_not] at h74
          refine R_push rfl ?_
          refine R_iret rfl ?_
          first
          | (exfalso; omega)
          | exact hE _ _ (by unfold tnm; rw [if_pos (c := S.2.1 ≠ 0) (by omega), if_neg (by omega)]) ⟨by unfold tnm; rw [if_pos (by omega)]; exact h, GR.rf⟩
          | exact hE _ _ (by unfold tnm; rw [if_neg (c := S.2.1 ≠ 0) (by omega), if_pos (c := tkM σ S.1 ≠ 2) (by omega), if_neg (by have := hR2.2.1; omega)]) ⟨by unfold tnm; rw [if_neg (by omega), if_pos (by omega)]; exact hR2, hG2⟩
          | exact hE _ _ (by unfold tnm; rw [if_neg (c := S.2.1 ≠ 0) (by omega), if_neg (c := tkM σ S.1 ≠ 2) (by omega), if_pos (c := twM σ S.1 < lo ∨ hh < twM σ S.1) (by omega), if_neg (by have := hR2.2.1; omega)]) ⟨by unfold tnm; rw [if_neg (by omega), if_neg (by omega), if_pos (by omega)]; exact hR2, hG2⟩
      · try simp only [ne_eq, b2i_e, b2i_1, Classical.not_not] at h47
        refine R_aload rfl rfl rfl ?_
        refine T_getr (v := 91) rfl rfl rfl rfl ?_
        refine R_aload rfl rfl rfl ?_
        refine T_geti rfl rfl rfl ?_
        rw [hiS]
        refine T_ald rfl rfl (by omega) (by omega) ?_
        rw [e75]
        refine R_iload rfl rfl ?_
        refine R_i2l rfl ?_
        refine R_lcmp rfl ?_
        refine R_if rfl (fun h62 => ?_) (fun h62 => ?_)
        · try simp only [ne_eq, b2i_e, b2i_1, Classical.not_not] at h62
          refine R_aload rfl rfl rfl ?_
          refine T_geti rfl rfl rfl ?_
          refine R_if rfl (fun h74 => ?_) (fun h74 => ?_)
          · try simp only [ne_eq, b2i_e, b2i_1, Classical.not_not] at h74
            first
            | (exfalso; omega)
            | exact J79 (by omega) (by omega) (by omega)
          · try simp only [ne_eq, b2i_e, b2i_1, Classical.not_not] at h74
            refine R_push rfl ?_
            refine R_iret rfl ?_
            first
            | (exfalso; omega)
            | exact hE _ _ (by unfold tnm; rw [if_pos (c := S.2.1 ≠ 0) (by omega), if_neg (by omega)]) ⟨by unfold tnm; rw [if_pos (by omega)]; exact h, GR.rf⟩
            | exact hE _ _ (by unfold tnm; rw [if_neg (c := S.2.1 ≠ 0) (by omega), if_pos (c := tkM σ S.1 ≠ 2) (by omega), if_neg (by have := hR2.2.1; omega)]) ⟨by unfold tnm; rw [if_neg (by omega), if_pos (by omega)]; exact hR2, hG2⟩
            | exact hE _ _ (by unfold tnm; rw [if_neg (c := S.2.1 ≠ 0) (by omega), if_neg (c := tkM σ S.1 ≠ 2) (by omega), if_pos (c := twM σ S.1 < lo ∨ hh < twM σ S.1) (by omega), if_neg (by have := hR2.2.1; omega)]) ⟨by unfold tnm; rw [if_neg (by omega), if_neg (by omega), if_pos (by omega)]; exact hR2, hG2⟩
        · try simp only [ne_eq, b2i_e, b2i_1, Classical.not_not] at h62
          refine R_aload rfl rfl rfl ?_
          refine R_push rfl ?_
          obtain ⟨s2, hev2, hF2, h82⟩ := sp_X10_wrong d (by omega) xs t dd rr s 4 ⟨by omega, by omega⟩ hat hpl
          obtain ⟨hR2, hG2⟩ := RP_er (c := 4) hT h (by omega) hF2 h82
          rw [if_pos (by omega)] at hR2
          have h82' : 1 ≤ s2 71 8 := by rw [h82, if_pos (by omega)]; omega
          refine R_invv rfl rfl rfl rfl rfl rfl (hev2) rfl ?_
          show pCm _ _ _ 70 _ [] _
          refine R_aload rfl rfl rfl ?_
          refine T_geti rfl rfl rfl ?_
          refine R_if rfl (fun h74 => ?_) (fun h74 => ?_)
          · try simp only [ne_eq, b2i_e, b2i_1, Classical.not_not] at h74
            first
            | (exfalso; omega)
            | exact J79 (by omega) (by omega) (by omega)
          · try simp only [ne_eq, b2i_e, b2i_1, Classical.not_not] at h74
            refine R_push rfl ?_
            refine R_iret rfl ?_
            first
            | (exfalso; omega)
            | exact hE _ _ (by unfold tnm; rw [if_pos (c := S.2.1 ≠ 0) (by omega), if_neg (by omega)]) ⟨by unfold tnm; rw [if_pos (by omega)]; exact h, GR.rf⟩
            | exact hE _ _ (by unfold tnm; rw [if_neg (c := S.2.1 ≠ 0) (by omega), if_pos (c := tkM σ S.1 ≠ 2) (by omega), if_neg (by have := hR2.2.1; omega)]) ⟨by unfold tnm; rw [if_neg (by omega), if_pos (by omega)]; exact hR2, hG2⟩
            | exact hE _ _ (by unfold tnm; rw [if_neg (c := S.2.1 ≠ 0) (by omega), if_neg (c := tkM σ S.1 ≠ 2) (by omega), if_pos (c := twM σ S.1 < lo ∨ hh < twM σ S.1) (by omega), if_neg (by have := hR2.2.1; omega)]) ⟨by unfold tnm; rw [if_neg (by omega), if_neg (by omega), if_pos (by omega)]; exact hR2, hG2⟩
  · try simp only [ne_eq, b2i_e, b2i_1, Classical.not_not] at h4
    have hf0 : S.2.1 = 0 := by omega
    have hcs1 := hcs hf0
    have hiS := hi hf0
    refine R_aload rfl rfl rfl ?_
    refine T_getr (v := 89) rfl rfl rfl rfl ?_
    refine R_aload rfl rfl rfl ?_
    refine T_geti rfl rfl rfl ?_
    rw [hiS]
    refine T_ald rfl rfl (by omega) (by omega) ?_
    rw [e73]
    refine R_push rfl ?_
    refine R_ic rfl (fun h17 => ?_) (fun h17 => ?_)
    · try simp only [ne_eq, b2i_e, b2i_1, Classical.not_not] at h17
      refine R_aload rfl rfl rfl ?_
      refine T_geti rfl rfl rfl ?_
      refine R_if rfl (fun h32 => ?_) (fun h32 => ?_)
      · try simp only [ne_eq, b2i_e, b2i_1, Classical.not_not] at h32
        refine R_aload rfl rfl rfl ?_
        refine T_geti rfl rfl rfl ?_
        refine R_if rfl (fun h74 => ?_) (fun h74 => ?_)
        · try simp only [ne_eq, b2i_e, b2i_1, Classical.not_not] at h74
          first
          | (exfalso; omega)
          | exact J79 (by omega) (by omega) (by omega)
        · try simp only [ne_eq, b2i_e, b2i_1, Classical.not_not] at h74
          refine R_push rfl ?_
          refine R_iret rfl ?_
          first
          | (exfalso; omega)
          | exact hE _ _ (by unfold tnm; rw [if_pos (c := S.2.1 ≠ 0) (by omega), if_neg (by omega)]) ⟨by unfold tnm; rw [if_pos (by omega)]; exact h, GR.rf⟩
          | exact hE _ _ (by unfold tnm; rw [if_neg (c := S.2.1 ≠ 0) (by omega), if_pos (c := tkM σ S.1 ≠ 2) (by omega), if_neg (by have := hR2.2.1; omega)]) ⟨by unfold tnm; rw [if_neg (by omega), if_pos (by omega)]; exact hR2, hG2⟩
          | exact hE _ _ (by unfold tnm; rw [if_neg (c := S.2.1 ≠ 0) (by omega), if_neg (c := tkM σ S.1 ≠ 2) (by omega), if_pos (c := twM σ S.1 < lo ∨ hh < twM σ S.1) (by omega), if_neg (by have := hR2.2.1; omega)]) ⟨by unfold tnm; rw [if_neg (by omega), if_neg (by omega), if_pos (by omega)]; exact hR2, hG2⟩
      · try simp only [ne_eq, b2i_e, b2i_1, Classical.not_not] at h32
        have hiS := hi (by omega)
        have hcs2 := hcs (by omega)
        have hlc1 := lc_l (a := σ 75 S.1) (b := lo)
        have hlc2 := lc_g (a := σ 75 S.1) (b := hh)
        refine R_aload rfl rfl rfl ?_
        refine T_getr (v := 91) rfl rfl rfl rfl ?_
        refine R_aload rfl rfl rfl ?_
        refine T_geti rfl rfl rfl ?_
        rw [hiS]
        refine T_ald rfl rfl (by omega) (by omega) ?_
        rw [e75]
        refine R_iload rfl rfl ?_
        refine R_i2l rfl ?_
        refine R_lcmp rfl ?_
        refine R_if rfl (fun h47 => ?_) (fun h47 => ?_)
        · try simp only [ne_eq, b2i_e, b2i_1, Classical.not_not] at h47
          refine R_aload rfl rfl rfl ?_
          refine R_push rfl ?_
          obtain ⟨s2, hev2, hF2, h82⟩ := sp_X10_wrong d (by omega) xs t dd rr s 4 ⟨by omega, by omega⟩ hat hpl
          obtain ⟨hR2, hG2⟩ := RP_er (c := 4) hT h (by omega) hF2 h82
          rw [if_pos (by omega)] at hR2
          have h82' : 1 ≤ s2 71 8 := by rw [h82, if_pos (by omega)]; omega
          refine R_invv rfl rfl rfl rfl rfl rfl (hev2) rfl ?_
          show pCm _ _ _ 70 _ [] _
          refine R_aload rfl rfl rfl ?_
          refine T_geti rfl rfl rfl ?_
          refine R_if rfl (fun h74 => ?_) (fun h74 => ?_)
          · try simp only [ne_eq, b2i_e, b2i_1, Classical.not_not] at h74
            first
            | (exfalso; omega)
            | exact J79 (by omega) (by omega) (by omega)
          · try simp only [ne_eq, b2i_e, b2i_1, Classical.not_not] at h74
            refine R_push rfl ?_
            refine R_iret rfl ?_
            first
            | (exfalso; omega)
            | exact hE _ _ (by unfold tnm; rw [if_pos (c := S.2.1 ≠ 0) (by omega), if_neg (by omega)]) ⟨by unfold tnm; rw [if_pos (by omega)]; exact h, GR.rf⟩
            | exact hE _ _ (by unfold tnm; rw [if_neg (c := S.2.1 ≠ 0) (by omega), if_pos (c := tkM σ S.1 ≠ 2) (by omega), if_neg (by have := hR2.2.1; omega)]) ⟨by unfold tnm; rw [if_neg (by omega), if_pos (by omega)]; exact hR2, hG2⟩
            | exact hE _ _ (by unfold tnm; rw [if_neg (c := S.2.1 ≠ 0) (by omega), if_neg (c := tkM σ S.1 ≠ 2) (by omega), if_pos (c := twM σ S.1 < lo ∨ hh < twM σ S.1) (by omega), if_neg (by have := hR2.2.1; omega)]) ⟨by unfold tnm; rw [if_neg (by omega), if_neg (by omega), if_pos (by omega)]; exact hR2, hG2⟩
        · try simp only [ne_eq, b2i_e, b2i_1, Classical.not_not] at h47
          refine R_aload rfl rfl rfl ?_
          refine T_getr (v := 91) rfl rfl rfl rfl ?_
          refine R_aload rfl rfl rfl ?_
          refine T_geti rfl rfl rfl ?_
          rw [hiS]
          refine T_ald rfl rfl (by omega) (by omega) ?_
          rw [e75]
          refine R_iload rfl rfl ?_
          refine R_i2l rfl ?_
          refine R_lcmp rfl ?_
          refine R_if rfl (fun h62 => ?_) (fun h62 => ?_)
          · try simp only [ne_eq, b2i_e, b2i_1, Classical.not_not] at h62
            refine R_aload rfl rfl rfl ?_
            refine T_geti rfl rfl rfl ?_
            refine R_if rfl (fun h74 => ?_) (fun h74 => ?_)
            · try simp only [ne_eq, b2i_e, b2i_1, Classical.not_not] at h74
              first
              | (exfalso; omega)
              | exact J79 (by omega) (by omega) (by omega)
            · try simp only [ne_eq, b2i_e, b2i_1, Classical.not_not] at h74
              refine R_push rfl ?_
              refine R_iret rfl ?_
              first
              | (exfalso; omega)
              | exact hE _ _ (by unfold tnm; rw [if_pos (c := S.2.1 ≠ 0) (by omega), if_neg (by omega)]) ⟨by unfold tnm; rw [if_pos (by omega)]; exact h, GR.rf⟩
              | exact hE _ _ (by unfold tnm; rw [if_neg (c := S.2.1 ≠ 0) (by omega), if_pos (c := tkM σ S.1 ≠ 2) (by omega), if_neg (by have := hR2.2.1; omega)]) ⟨by unfold tnm; rw [if_neg (by omega), if_pos (by omega)]; exact hR2, hG2⟩
              | exact hE _ _ (by unfold tnm; rw [if_neg (c := S.2.1 ≠ 0) (by omega), if_neg (c := tkM σ S.1 ≠ 2) (by omega), if_pos (c := twM σ S.1 < lo ∨ hh < twM σ S.1) (by omega), if_neg (by have := hR2.2.1; omega)]) ⟨by unfold tnm; rw [if_neg (by omega), if_neg (by omega), if_pos (by omega)]; exact hR2, hG2⟩
          · try simp only [ne_eq, b2i_e, b2i_1, Classical.not_not] at h62
            refine R_aload rfl rfl rfl ?_
            refine R_push rfl ?_
            obtain ⟨s2, hev2, hF2, h82⟩ := sp_X10_wrong d (by omega) xs t dd rr s 4 ⟨by omega, by omega⟩ hat hpl
            obtain ⟨hR2, hG2⟩ := RP_er (c := 4) hT h (by omega) hF2 h82
            rw [if_pos (by omega)] at hR2
            have h82' : 1 ≤ s2 71 8 := by rw [h82, if_pos (by omega)]; omega
            refine R_invv rfl rfl rfl rfl rfl rfl (hev2) rfl ?_
            show pCm _ _ _ 70 _ [] _
            refine R_aload rfl rfl rfl ?_
            refine T_geti rfl rfl rfl ?_
            refine R_if rfl (fun h74 => ?_) (fun h74 => ?_)
            · try simp only [ne_eq, b2i_e, b2i_1, Classical.not_not] at h74
              first
              | (exfalso; omega)
              | exact J79 (by omega) (by omega) (by omega)
            · try simp only [ne_eq, b2i_e, b2i_1, Classical.not_not] at h74
              refine R_push rfl ?_
              refine R_iret rfl ?_
              first
              | (exfalso; omega)
              | exact hE _ _ (by unfold tnm; rw [if_pos (c := S.2.1 ≠ 0) (by omega), if_neg (by omega)]) ⟨by unfold tnm; rw [if_pos (by omega)]; exact h, GR.rf⟩
              | exact hE _ _ (by unfold tnm; rw [if_neg (c := S.2.1 ≠ 0) (by omega), if_pos (c := tkM σ S.1 ≠ 2) (by omega), if_neg (by have := hR2.2.1; omega)]) ⟨by unfold tnm; rw [if_neg (by omega), if_pos (by omega)]; exact hR2, hG2⟩
              | exact hE _ _ (by unfold tnm; rw [if_neg (c := S.2.1 ≠ 0) (by omega), if_neg (c := tkM σ S.1 ≠ 2) (by omega), if_pos (c := twM σ S.1 < lo ∨ hh < twM σ S.1) (by omega), if_neg (by have := hR2.2.1; omega)]) ⟨by unfold tnm; rw [if_neg (by omega), if_neg (by omega), if_pos (by omega)]; exact hR2, hG2⟩
    · try simp only [ne_eq, b2i_e, b2i_1, Classical.not_not] at h17
      refine R_aload rfl rfl rfl ?_
      refine R_push rfl ?_
      obtain ⟨s2, hev2, hF2, h82⟩ := sp_X10_wrong d (by omega) xs t dd rr s 1 ⟨by omega, by omega⟩ hat hpl
      obtain ⟨hR2, hG2⟩ := RP_er (c := 1) hT h (by omega) hF2 h82
      rw [if_pos (by omega)] at hR2
      have h82' : 1 ≤ s2 71 8 := by rw [h82, if_pos (by omega)]; omega
      refine R_invv rfl rfl rfl rfl rfl rfl (hev2) rfl ?_
      show pCm _ _ _ 25 _ [] _
      refine R_goto rfl ?_
      refine R_aload rfl rfl rfl ?_
      refine T_geti rfl rfl rfl ?_
      refine R_if rfl (fun h74 => ?_) (fun h74 => ?_)
      · try simp only [ne_eq, b2i_e, b2i_1, Classical.not_not] at h74
        first
        | (exfalso; omega)
        | exact J79 (by omega) (by omega) (by omega)
      · try simp only [ne_eq, b2i_e, b2i_1, Classical.not_not] at h74
        refine R_push rfl ?_
        refine R_iret rfl ?_
        first
        | (exfalso; omega)
        | exact hE _ _ (by unfold tnm; rw [if_pos (c := S.2.1 ≠ 0) (by omega), if_neg (by omega)]) ⟨by unfold tnm; rw [if_pos (by omega)]; exact h, GR.rf⟩
        | exact hE _ _ (by unfold tnm; rw [if_neg (c := S.2.1 ≠ 0) (by omega), if_pos (c := tkM σ S.1 ≠ 2) (by omega), if_neg (by have := hR2.2.1; omega)]) ⟨by unfold tnm; rw [if_neg (by omega), if_pos (by omega)]; exact hR2, hG2⟩
        | exact hE _ _ (by unfold tnm; rw [if_neg (c := S.2.1 ≠ 0) (by omega), if_neg (c := tkM σ S.1 ≠ 2) (by omega), if_pos (c := twM σ S.1 < lo ∨ hh < twM σ S.1) (by omega), if_neg (by have := hR2.2.1; omega)]) ⟨by unfold tnm; rw [if_neg (by omega), if_neg (by omega), if_pos (by omega)]; exact hR2, hG2⟩
set_option maxRecDepth 20000 in
set_option maxHeartbeats 2000000 in
theorem sp_X10_takeNewName (d : Nat) (hd : 3 ≤ d) (xs : List (Nat × Nat)) (t dd rr : Nat) (σ s : Sg) (m c0 : Int) (S : PSt) (hT : TR σ m) (h : RP s σ m c0 S)  : ∃ σ', Ev d 54 [(87, 0)] (Wd xs t dd rr s) (1, if (tnn (tkM σ) (twM σ) (σ 74) (σ 81 (σ 71 11)) S).2.1 = 0 then σ 75 S.1 else 0) (Wd xs t dd rr σ') ∧ RP σ' σ m c0 (tnn (tkM σ) (twM σ) (σ 74) (σ 81 (σ 71 11)) S) ∧ GR s σ' := by
  obtain ⟨d, rfl⟩ : ∃ e, d = e + 1 := ⟨d - 1, by omega⟩
  have hm := hT.1
  obtain ⟨a1, a2, a3, a4, a5, a6, a7⟩ := id h
  have hat : 0 ≤ s 71 7 ∧ s 71 7 ≤ 1001 := by omega
  have hpl : 0 ≤ s 74 (s 71 7) ∧ s 74 (s 71 7) ≤ 1000 := by rw [a1.row 74 rfl]; exact (hT.2.2.1 (s 71 7) a4.1 a4.2).2.1
  have hcs : S.2.1 = 0 → _ := fun q => tk_cs hT (j := S.1) (by have := (a7 q).1; omega) (by have := (a7 q).1; omega)
  have hi : S.2.1 = 0 → s 71 7 = S.1 := fun q => (a7 q).1
  have e73 : s 73 S.1 = σ 73 S.1 := a1.row 73 rfl _
  have e75 : s 75 S.1 = σ 75 S.1 := a1.row 75 rfl _
  clear a6 a7
  refine evS (nL := 1) (code := k_X10_takeNewName) rfl dc_X10_takeNewName rfl (fun E hE => ?_)
  show pCm (Ev d) k_X10_takeNewName E 0 [(87, 0)] [] _
  refine R_aload rfl rfl rfl ?_
  refine T_geti rfl rfl rfl ?_
  refine R_if rfl (fun h4 => ?_) (fun h4 => ?_)
  · try simp only [ne_eq, b2i_e, b2i_1, Classical.not_not] at h4
    have hf0 : S.2.1 = 0 := by omega
    have hcs := hcs hf0
    have hi := hi hf0
    have e76 : s 76 = σ 76 := a1.fn 76 rfl
    have e11 : s 71 11 = σ 71 11 := a1.at 71 11 rfl
    have hnx := hT.2.2.2.2.1
    have hnb := idx_c (R := nmF σ) (T := σ 81 (σ 71 11)) (y := σ 75 S.1) hT.2.2.2.2.2.1
    have J80 : tkM σ S.1 = 3 → twM σ S.1 = -1 → σ 81 (σ 71 11) ≠ 8 → pCm (Ev d) k_X10_takeNewName E 80 [(87, 0)] [] (Wd xs t dd rr s) := by
      intro htk htw hM8
      refine R_aload rfl rfl rfl ?_
      refine R_dup rfl rfl ?_
      refine T_geti rfl rfl rfl ?_
      refine R_push rfl ?_
      refine R_add rfl (by omega) (by omega) ?_
      refine T_puti rfl rfl rfl ?_
      generalize hs3 : up2 s 71 7 (s 71 7 + 1) = s3
      have hF3 : Fr [] [(71, 7)] s s3 := by rw [← hs3]; exact Fr.rf.up rfl
      have h73 : s3 71 7 = s 71 7 + 1 := by rw [← hs3]; simp [up2]
      obtain ⟨hR3, hG3⟩ := RP_ad hT h hf0 (by omega) hF3 h73
      have e375 : s3 75 (s3 71 7 - 1) = σ 75 S.1 := by rw [h73, hi, show S.1 + 1 - 1 = S.1 by omega, hF3.row 75 rfl, e75]
      refine R_aload rfl rfl rfl ?_
      refine T_getr (v := 91) rfl rfl rfl rfl ?_
      refine R_aload rfl rfl rfl ?_
      refine T_geti rfl rfl rfl ?_
      refine R_push rfl ?_
      refine R_sub rfl (by omega) (by omega) ?_
      refine T_ald rfl rfl (by omega) (by omega) ?_
      rw [e375]
      refine R_lret rfl ?_
      exact hE _ _ (by unfold tnn; rw [if_neg (c := S.2.1 ≠ 0) (by omega), if_neg (c := tkM σ S.1 ≠ 3) (by omega), if_neg (c := twM σ S.1 ≠ -1) (by omega), if_neg (c := σ 81 (σ 71 11) = 8) (by omega), if_pos (by show S.2.1 = 0; omega)]) ⟨by unfold tnn; rw [if_neg (c := S.2.1 ≠ 0) (by omega), if_neg (c := tkM σ S.1 ≠ 3) (by omega), if_neg (c := twM σ S.1 ≠ -1) (by omega), if_neg (c := σ 81 (σ 71 11) = 8) (by omega)]; exact hR3, hG3⟩
    refine R_aload rfl rfl rfl ?_
    refine T_getr (v := 89) rfl rfl rfl rfl ?_
    refine R_aload rfl rfl rfl ?_
    refine T_geti rfl rfl rfl ?_
    rw [hi]
    refine T_ald rfl rfl (by omega) (by omega) ?_
    rw [e73]
    refine R_push rfl ?_
    refine R_ic rfl (fun h19 => ?_) (fun h19 => ?_)
    · try simp only [ne_eq, b2i_e, b2i_1, Classical.not_not] at h19
      refine R_aload rfl rfl rfl ?_
      refine R_push rfl ?_
      obtain ⟨s2, hev2, hF2, h82⟩ := sp_X10_wrong d (by omega) xs t dd rr s 1 ⟨by omega, by omega⟩ hat hpl
      obtain ⟨hR2, hG2⟩ := RP_er (c := 1) hT h (by omega) hF2 h82
      rw [if_pos (by omega)] at hR2
      have h82' : 1 ≤ s2 71 8 := by rw [h82, if_pos (by omega)]; omega
      refine R_invv rfl rfl rfl rfl rfl rfl (hev2) rfl ?_
      show pCm _ _ _ 34 _ [] _
      refine R_goto rfl ?_
      refine R_aload rfl rfl rfl ?_
      refine T_geti rfl rfl rfl ?_
      refine R_if rfl (fun h75 => ?_) (fun h75 => ?_)
      · try simp only [ne_eq, b2i_e, b2i_1, Classical.not_not] at h75
        first
        | (exfalso; omega)
        | exact J80 (by omega) (by omega) (by omega)
      · try simp only [ne_eq, b2i_e, b2i_1, Classical.not_not] at h75
        refine R_push rfl ?_
        refine R_lret rfl ?_
        first
        | (exfalso; omega)
        | exact hE _ _ (by unfold tnn; rw [if_neg (c := S.2.1 ≠ 0) (by omega), if_pos (c := tkM σ S.1 ≠ 3) (by omega), if_neg (by have := hR2.2.1; omega)]) ⟨by unfold tnn; rw [if_neg (c := S.2.1 ≠ 0) (by omega), if_pos (c := tkM σ S.1 ≠ 3) (by omega)]; exact hR2, hG2⟩
        | exact hE _ _ (by unfold tnn; rw [if_neg (c := S.2.1 ≠ 0) (by omega), if_neg (c := tkM σ S.1 ≠ 3) (by omega), if_pos (c := twM σ S.1 ≠ -1) (by omega), if_neg (by have := hR2.2.1; omega)]) ⟨by unfold tnn; rw [if_neg (c := S.2.1 ≠ 0) (by omega), if_neg (c := tkM σ S.1 ≠ 3) (by omega), if_pos (c := twM σ S.1 ≠ -1) (by omega)]; exact hR2, hG2⟩
        | exact hE _ _ (by unfold tnn; rw [if_neg (c := S.2.1 ≠ 0) (by omega), if_neg (c := tkM σ S.1 ≠ 3) (by omega), if_neg (c := twM σ S.1 ≠ -1) (by omega), if_pos (c := σ 81 (σ 71 11) = 8) (by omega), if_neg (by have := hR2.2.1; omega)]) ⟨by unfold tnn; rw [if_neg (c := S.2.1 ≠ 0) (by omega), if_neg (c := tkM σ S.1 ≠ 3) (by omega), if_neg (c := twM σ S.1 ≠ -1) (by omega), if_pos (c := σ 81 (σ 71 11) = 8) (by omega)]; exact hR2, hG2⟩
    · try simp only [ne_eq, b2i_e, b2i_1, Classical.not_not] at h19
      refine R_aload rfl rfl rfl ?_
      have hkp := sp_X10_isKept d (by omega) xs t dd rr s hat
      rw [hi, e73, e75, e76] at hkp
      have hkb : b2i (s 71 8 = 0 ∧ σ 73 S.1 = 1 ∧ fnd (σ 76) (σ 75 S.1) 20 ≠ -1) = 1 ∧ (s 71 8 = 0 ∧ σ 73 S.1 = 1 ∧ fnd (σ 76) (σ 75 S.1) 20 ≠ -1) ∨ b2i (s 71 8 = 0 ∧ σ 73 S.1 = 1 ∧ fnd (σ 76) (σ 75 S.1) 20 ≠ -1) = 0 ∧ ¬ (s 71 8 = 0 ∧ σ 73 S.1 = 1 ∧ fnd (σ 76) (σ 75 S.1) 20 ≠ -1) := b2i_or
      refine R_invv rfl rfl rfl rfl rfl rfl (hkp) rfl ?_
      show pCm _ _ _ 26 _ [(0, _)] _
      refine R_if rfl (fun h26 => ?_) (fun h26 => ?_)
      · try simp only [ne_eq, b2i_e, b2i_1, Classical.not_not] at h26
        refine R_aload rfl rfl rfl ?_
        have hfn := sp_X10_findName d (by omega) xs t dd rr s (σ 81 (σ 71 11)) (by rw [e11]; exact hT.2.2.2.2.1) (by rw [e11, a1.row 81 rfl]) hT.2.2.2.2.2 hat
        rw [hi, e75, e11, a1.fn 82 rfl] at hfn
        have hfn : Ev d 53 [(87, 0)] (Wd xs t dd rr s) (0, idx (nmF σ) (σ 81 (σ 71 11)) (σ 75 S.1)) (Wd xs t dd rr s) := hfn
        refine R_invv rfl rfl rfl rfl rfl rfl (hfn) rfl ?_
        show pCm _ _ _ 41 _ [(0, _)] _
        refine R_if rfl (fun h41 => ?_) (fun h41 => ?_)
        · try simp only [ne_eq, b2i_e, b2i_1, Classical.not_not] at h41
          refine R_aload rfl rfl rfl ?_
          refine T_getr (v := 97) rfl rfl rfl rfl ?_
          refine R_aload rfl rfl rfl ?_
          refine T_geti rfl rfl rfl ?_
          rw [e11]
          refine T_ald rfl rfl (by omega) (by omega) ?_
          rw [a1.row 81 rfl]
          refine R_push rfl ?_
          refine R_ic rfl (fun h63 => ?_) (fun h63 => ?_)
          · try simp only [ne_eq, b2i_e, b2i_1, Classical.not_not] at h63
            refine R_aload rfl rfl rfl ?_
            refine T_geti rfl rfl rfl ?_
            refine R_if rfl (fun h75 => ?_) (fun h75 => ?_)
            · try simp only [ne_eq, b2i_e, b2i_1, Classical.not_not] at h75
              first
              | (exfalso; omega)
              | exact J80 (by omega) (by omega) (by omega)
            · try simp only [ne_eq, b2i_e, b2i_1, Classical.not_not] at h75
              refine R_push rfl ?_
              refine R_lret rfl ?_
              first
              | (exfalso; omega)
              | exact hE _ _ (by unfold tnn; rw [if_neg (c := S.2.1 ≠ 0) (by omega), if_pos (c := tkM σ S.1 ≠ 3) (by omega), if_neg (by have := hR2.2.1; omega)]) ⟨by unfold tnn; rw [if_neg (c := S.2.1 ≠ 0) (by omega), if_pos (c := tkM σ S.1 ≠ 3) (by omega)]; exact hR2, hG2⟩
              | exact hE _ _ (by unfold tnn; rw [if_neg (c := S.2.1 ≠ 0) (by omega), if_neg (c := tkM σ S.1 ≠ 3) (by omega), if_pos (c := twM σ S.1 ≠ -1) (by omega), if_neg (by have := hR2.2.1; omega)]) ⟨by unfold tnn; rw [if_neg (c := S.2.1 ≠ 0) (by omega), if_neg (c := tkM σ S.1 ≠ 3) (by omega), if_pos (c := twM σ S.1 ≠ -1) (by omega)]; exact hR2, hG2⟩
              | exact hE _ _ (by unfold tnn; rw [if_neg (c := S.2.1 ≠ 0) (by omega), if_neg (c := tkM σ S.1 ≠ 3) (by omega), if_neg (c := twM σ S.1 ≠ -1) (by omega), if_pos (c := σ 81 (σ 71 11) = 8) (by omega), if_neg (by have := hR2.2.1; omega)]) ⟨by unfold tnn; rw [if_neg (c := S.2.1 ≠ 0) (by omega), if_neg (c := tkM σ S.1 ≠ 3) (by omega), if_neg (c := twM σ S.1 ≠ -1) (by omega), if_pos (c := σ 81 (σ 71 11) = 8) (by omega)]; exact hR2, hG2⟩
          · try simp only [ne_eq, b2i_e, b2i_1, Classical.not_not] at h63
            refine R_aload rfl rfl rfl ?_
            refine R_push rfl ?_
            obtain ⟨s2, hev2, hF2, h82⟩ := sp_X10_wrong d (by omega) xs t dd rr s 5 ⟨by omega, by omega⟩ hat hpl
            obtain ⟨hR2, hG2⟩ := RP_er (c := 5) hT h (by omega) hF2 h82
            rw [if_pos (by omega)] at hR2
            have h82' : 1 ≤ s2 71 8 := by rw [h82, if_pos (by omega)]; omega
            refine R_invv rfl rfl rfl rfl rfl rfl (hev2) rfl ?_
            show pCm _ _ _ 71 _ [] _
            refine R_aload rfl rfl rfl ?_
            refine T_geti rfl rfl rfl ?_
            refine R_if rfl (fun h75 => ?_) (fun h75 => ?_)
            · try simp only [ne_eq, b2i_e, b2i_1, Classical.not_not] at h75
              first
              | (exfalso; omega)
              | exact J80 (by omega) (by omega) (by omega)
            · try simp only [ne_eq, b2i_e, b2i_1, Classical.not_not] at h75
              refine R_push rfl ?_
              refine R_lret rfl ?_
              first
              | (exfalso; omega)
              | exact hE _ _ (by unfold tnn; rw [if_neg (c := S.2.1 ≠ 0) (by omega), if_pos (c := tkM σ S.1 ≠ 3) (by omega), if_neg (by have := hR2.2.1; omega)]) ⟨by unfold tnn; rw [if_neg (c := S.2.1 ≠ 0) (by omega), if_pos (c := tkM σ S.1 ≠ 3) (by omega)]; exact hR2, hG2⟩
              | exact hE _ _ (by unfold tnn; rw [if_neg (c := S.2.1 ≠ 0) (by omega), if_neg (c := tkM σ S.1 ≠ 3) (by omega), if_pos (c := twM σ S.1 ≠ -1) (by omega), if_neg (by have := hR2.2.1; omega)]) ⟨by unfold tnn; rw [if_neg (c := S.2.1 ≠ 0) (by omega), if_neg (c := tkM σ S.1 ≠ 3) (by omega), if_pos (c := twM σ S.1 ≠ -1) (by omega)]; exact hR2, hG2⟩
              | exact hE _ _ (by unfold tnn; rw [if_neg (c := S.2.1 ≠ 0) (by omega), if_neg (c := tkM σ S.1 ≠ 3) (by omega), if_neg (c := twM σ S.1 ≠ -1) (by omega), if_pos (c := σ 81 (σ 71 11) = 8) (by omega), if_neg (by have := hR2.2.1; omega)]) ⟨by unfold tnn; rw [if_neg (c := S.2.1 ≠ 0) (by omega), if_neg (c := tkM σ S.1 ≠ 3) (by omega), if_neg (c := twM σ S.1 ≠ -1) (by omega), if_pos (c := σ 81 (σ 71 11) = 8) (by omega)]; exact hR2, hG2⟩
        · try simp only [ne_eq, b2i_e, b2i_1, Classical.not_not] at h41
          refine R_aload rfl rfl rfl ?_
          refine R_push rfl ?_
          obtain ⟨s2, hev2, hF2, h82⟩ := sp_X10_wrong d (by omega) xs t dd rr s 3 ⟨by omega, by omega⟩ hat hpl
          obtain ⟨hR2, hG2⟩ := RP_er (c := 3) hT h (by omega) hF2 h82
          rw [if_pos (by omega)] at hR2
          have h82' : 1 ≤ s2 71 8 := by rw [h82, if_pos (by omega)]; omega
          refine R_invv rfl rfl rfl rfl rfl rfl (hev2) rfl ?_
          show pCm _ _ _ 49 _ [] _
          refine R_goto rfl ?_
          refine R_aload rfl rfl rfl ?_
          refine T_geti rfl rfl rfl ?_
          refine R_if rfl (fun h75 => ?_) (fun h75 => ?_)
          · try simp only [ne_eq, b2i_e, b2i_1, Classical.not_not] at h75
            first
            | (exfalso; omega)
            | exact J80 (by omega) (by omega) (by omega)
          · try simp only [ne_eq, b2i_e, b2i_1, Classical.not_not] at h75
            refine R_push rfl ?_
            refine R_lret rfl ?_
            first
            | (exfalso; omega)
            | exact hE _ _ (by unfold tnn; rw [if_neg (c := S.2.1 ≠ 0) (by omega), if_pos (c := tkM σ S.1 ≠ 3) (by omega), if_neg (by have := hR2.2.1; omega)]) ⟨by unfold tnn; rw [if_neg (c := S.2.1 ≠ 0) (by omega), if_pos (c := tkM σ S.1 ≠ 3) (by omega)]; exact hR2, hG2⟩
            | exact hE _ _ (by unfold tnn; rw [if_neg (c := S.2.1 ≠ 0) (by omega), if_neg (c := tkM σ S.1 ≠ 3) (by omega), if_pos (c := twM σ S.1 ≠ -1) (by omega), if_neg (by have := hR2.2.1; omega)]) ⟨by unfold tnn; rw [if_neg (c := S.2.1 ≠ 0) (by omega), if_neg (c := tkM σ S.1 ≠ 3) (by omega), if_pos (c := twM σ S.1 ≠ -1) (by omega)]; exact hR2, hG2⟩
            | exact hE _ _ (by unfold tnn; rw [if_neg (c := S.2.1 ≠ 0) (by omega), if_neg (c := tkM σ S.1 ≠ 3) (by omega), if_neg (c := twM σ S.1 ≠ -1) (by omega), if_pos (c := σ 81 (σ 71 11) = 8) (by omega), if_neg (by have := hR2.2.1; omega)]) ⟨by unfold tnn; rw [if_neg (c := S.2.1 ≠ 0) (by omega), if_neg (c := tkM σ S.1 ≠ 3) (by omega), if_neg (c := twM σ S.1 ≠ -1) (by omega), if_pos (c := σ 81 (σ 71 11) = 8) (by omega)]; exact hR2, hG2⟩
      · try simp only [ne_eq, b2i_e, b2i_1, Classical.not_not] at h26
        refine R_aload rfl rfl rfl ?_
        refine R_push rfl ?_
        obtain ⟨s2, hev2, hF2, h82⟩ := sp_X10_wrong d (by omega) xs t dd rr s 1 ⟨by omega, by omega⟩ hat hpl
        obtain ⟨hR2, hG2⟩ := RP_er (c := 1) hT h (by omega) hF2 h82
        rw [if_pos (by omega)] at hR2
        have h82' : 1 ≤ s2 71 8 := by rw [h82, if_pos (by omega)]; omega
        refine R_invv rfl rfl rfl rfl rfl rfl (hev2) rfl ?_
        show pCm _ _ _ 34 _ [] _
        refine R_goto rfl ?_
        refine R_aload rfl rfl rfl ?_
        refine T_geti rfl rfl rfl ?_
        refine R_if rfl (fun h75 => ?_) (fun h75 => ?_)
        · try simp only [ne_eq, b2i_e, b2i_1, Classical.not_not] at h75
          first
          | (exfalso; omega)
          | exact J80 (by omega) (by omega) (by omega)
        · try simp only [ne_eq, b2i_e, b2i_1, Classical.not_not] at h75
          refine R_push rfl ?_
          refine R_lret rfl ?_
          first
          | (exfalso; omega)
          | exact hE _ _ (by unfold tnn; rw [if_neg (c := S.2.1 ≠ 0) (by omega), if_pos (c := tkM σ S.1 ≠ 3) (by omega), if_neg (by have := hR2.2.1; omega)]) ⟨by unfold tnn; rw [if_neg (c := S.2.1 ≠ 0) (by omega), if_pos (c := tkM σ S.1 ≠ 3) (by omega)]; exact hR2, hG2⟩
          | exact hE _ _ (by unfold tnn; rw [if_neg (c := S.2.1 ≠ 0) (by omega), if_neg (c := tkM σ S.1 ≠ 3) (by omega), if_pos (c := twM σ S.1 ≠ -1) (by omega), if_neg (by have := hR2.2.1; omega)]) ⟨by unfold tnn; rw [if_neg (c := S.2.1 ≠ 0) (by omega), if_neg (c := tkM σ S.1 ≠ 3) (by omega), if_pos (c := twM σ S.1 ≠ -1) (by omega)]; exact hR2, hG2⟩
          | exact hE _ _ (by unfold tnn; rw [if_neg (c := S.2.1 ≠ 0) (by omega), if_neg (c := tkM σ S.1 ≠ 3) (by omega), if_neg (c := twM σ S.1 ≠ -1) (by omega), if_pos (c := σ 81 (σ 71 11) = 8) (by omega), if_neg (by have := hR2.2.1; omega)]) ⟨by unfold tnn; rw [if_neg (c := S.2.1 ≠ 0) (by omega), if_neg (c := tkM σ S.1 ≠ 3) (by omega), if_neg (c := twM σ S.1 ≠ -1) (by omega), if_pos (c := σ 81 (σ 71 11) = 8) (by omega)]; exact hR2, hG2⟩
  · try simp only [ne_eq, b2i_e, b2i_1, Classical.not_not] at h4
    refine R_push rfl ?_
    refine R_lret rfl ?_
    exact hE _ _ (by unfold tnn; rw [if_pos (c := S.2.1 ≠ 0) (by omega), if_neg (by omega)]) ⟨by unfold tnn; rw [if_pos (by omega)]; exact h, GR.rf⟩

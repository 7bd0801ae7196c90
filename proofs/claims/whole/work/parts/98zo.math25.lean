-- the end of a line, by the reference
def LNE (s σ : Sg) (m c0 : Int) (S : PSt) : Prop := Fp σ s ∧ s 71 8 = S.2.1 ∧ 0 ≤ S.2.1 ∧ (0 ≤ s 71 7 ∧ s 71 7 ≤ m) ∧ (0 ≤ c0 ∧ c0 ≤ s 71 18 ∧ s 71 18 ≤ s 71 7) ∧ (∀ x, x < 1100 * σ 71 11 + c0 ∨ 1100 * (σ 71 11 + 1) ≤ x → s 83 x = σ 83 x ∧ s 84 x = σ 84 x) ∧ (S.2.1 = 0 → s 71 7 = S.1 ∧ s 71 18 = c0 + S.2.2.1 + 1 ∧ s 83 (1100 * σ 71 11 + c0 + S.2.2.1) = 0 ∧ ∀ q, 0 ≤ q → q < S.2.2.1 → s 83 (1100 * σ 71 11 + c0 + q) = opOf (S.2.2.2.1 q) ∧ s 84 (1100 * σ 71 11 + c0 + q) = S.2.2.2.2 q)
theorem LE_of {s8 s9 s10 σ : Sg} {m c0 : Int} {S : PSt} (hT : TR σ m) (h : RP s8 σ m c0 S) (hroom : s8 71 18 + 1 ≤ s8 71 7) (hF9 : Fr [83, 84] [(71, 18)] s8 s9) (h18 : s9 71 18 = s8 71 18 + 1) (h83 : ∀ x, s9 83 x = if x = 1100 * s8 71 11 + s8 71 18 then 0 else s8 83 x) (h84 : ∀ x, s9 84 x = if x = 1100 * s8 71 11 + s8 71 18 then 0 else s8 84 x) (hF : Fr [] [(71, 7), (71, 8)] s9 s10) (h7 : s10 71 7 = s9 71 7 + sgM s9 59) (h8 : s10 71 8 = if sgM s9 59 = 1 then s9 71 8 else if s9 71 8 = 0 then 1 + 16 * s9 74 (s9 71 7) else s9 71 8) : LNE s10 σ m c0 (tsg (tkM σ) (σ 74) 59 S) := by
  have hsg : sgM s9 59 = sgM s8 59 := by
    unfold sgM
    rw [hF9.at 71 8 rfl, hF9.at 71 7 rfl, hF9.fn 73 rfl, hF9.fn 75 rfl]
  rw [hsg, hF9.at 71 7 rfl] at h7
  rw [hsg, hF9.at 71 8 rfl, hF9.at 71 7 rfl, hF9.fn 74 rfl] at h8
  have ht := sg_tk (ch := 59) hT h rfl
  obtain ⟨a1, a2, a3, a4, a5, a6, a7⟩ := h
  have e11 : s8 71 11 = σ 71 11 := a1.at 71 11 rfl
  rw [e11] at h83 h84
  have hm := hT.1
  have hnx := hT.2.2.2.2.1
  have hp := (hT.2.2.1 (s8 71 7) a4.1 a4.2).2.1
  have e18 := hF.at 71 18 rfl
  have hfr : Fp σ s10 := (a1.tr (r3 := [83, 84]) (s3 := [(71, 7), (71, 8), (71, 18)]) hF9 rfl rfl).tr hF rfl rfl
  have hout : ∀ x, x < 1100 * σ 71 11 + c0 ∨ 1100 * (σ 71 11 + 1) ≤ x → s10 83 x = σ 83 x ∧ s10 84 x = σ 84 x := fun x hx => by
    rw [hF.row 83 rfl, hF.row 84 rfl, h83, h84, if_neg (by omega), if_neg (by omega)]; exact a6 x hx
  rw [a1.row 74 rfl] at h8
  unfold tsg
  by_cases q : S.2.1 = 0
  · rw [if_neg (by omega)]
    obtain ⟨b1, b2, b3⟩ := a7 q
    by_cases z : tkM σ S.1 = 59
    · rw [if_pos z]
      have hs1 : sgM s8 59 = 1 := by omega
      have hne : S.1 ≠ m := fun y => by
        have e : tkM σ m = 0 := by unfold tkM; rw [if_pos hT.2.1]
        rw [y, e] at z; omega
      rw [if_pos hs1] at h8
      refine ⟨hfr, by rw [h8]; exact a2, a3, by omega, by omega, hout, fun _ => ⟨by rw [h7, hs1, b1]; rfl, by rw [e18, h18, b2]; rfl, ?_, fun y y0 y1 => ?_⟩⟩
      · show s10 83 (1100 * σ 71 11 + c0 + S.2.2.1) = 0
        rw [hF.row 83 rfl, h83, if_pos (by omega)]
      · have y1 : y < S.2.2.1 := y1
        rw [hF.row 83 rfl, hF.row 84 rfl, h83, h84, if_neg (by omega), if_neg (by omega)]
        exact b3 y y0 y1
    · rw [if_neg z]
      have hs0 : sgM s8 59 = 0 := by omega
      rw [if_neg (by omega), if_pos (by omega)] at h8
      refine ⟨hfr, by rw [h8, b1]; rfl, by show 0 ≤ 1 + 16 * σ 74 S.1; rw [← b1]; omega, by omega, by omega, hout, fun y => ?_⟩
      have y : 1 + 16 * σ 74 S.1 = 0 := y
      rw [← b1] at y
      omega
  · rw [if_pos q]
    have hs0 : sgM s8 59 = 0 := by omega
    rw [if_neg (by omega), if_neg (by omega)] at h8
    exact ⟨hfr, by rw [h8]; exact a2, a3, by omega, by omega, hout, fun z => absurd z q⟩

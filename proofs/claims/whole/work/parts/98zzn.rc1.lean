set_option maxHeartbeats 1000000 in
theorem rc_days (d : Nat) (hd : 60 ≤ d) (xs : List (Nat × Nat)) (t dd rr : Nat) (σ : Sg) (P J : Int) (n : Int) (hn : -2147483648 ≤ n ∧ n < 2147483648) (hR : RR σ t dd P J) : ∃ (r : Int) (σ1 σ2 : Sg), Ev d 1 [(16, 0), (0, n)] (Wd xs t dd rr σ) (0, r) (Wd xs t dd rr σ1) ∧ Ev d 65 [(87, 0), (0, n)] (Wd xs t dd rr σ1) (0, r) (Wd xs t dd rr σ2) ∧ ∃ P' J', RR σ2 t dd P' J' := by
  obtain ⟨⟨ra, rb, rp, rf, rj, gi, rt⟩, hb, hg⟩ := hR
  obtain ⟨ra1, ra2, ra3⟩ := id ra
  obtain ⟨σ1, h1, e1⟩ := sp_X9_days d (by omega) xs t dd rr σ n hn ra1.2
  have f1 : Fr [] [(0, 8)] σ σ1 := by
    rw [e1]
    split
    · exact (Fr.rf).up rfl
    · exact Fr.rf
  have k1 : σ1 71 24 = σ 0 8 := by rw [f1.at 71 24 rfl]; exact ra1.1
  obtain ⟨σ2, h2, e2⟩ := sp_X10_days d (by omega) xs t dd rr σ1 n hn (by rw [k1]; exact ra1.2)
  rw [k1] at h2 e2
  refine ⟨_, σ1, σ2, h1, h2, P, J, ?_⟩
  have f2 : Fr [] [(71, 0), (71, 24)] σ1 σ2 := by
    rw [e2]
    split
    · exact ((Fr.rf).up rfl).up rfl
    · exact (Fr.rf).up rfl
  have f : Fr [] [(0, 8), (71, 0), (71, 24)] σ σ2 := Fr.tr f1 f2 rfl rfl
  refine ⟨⟨?_, ?_, ?_, ?_, ?_, ?_, ?_⟩, ?_, ?_⟩
  · have q8 : σ2 71 24 = σ2 0 8 ∧ 0 ≤ σ2 0 8 ∧ σ2 0 8 ≤ 999 := by
      by_cases C : (0 ≤ n ∧ n ≤ 100) ∧ σ 0 8 + n ≤ 999
      · rw [if_pos C] at e1 e2
        rw [e2, e1]
        simp [up2]
        omega
      · rw [if_neg C] at e1 e2
        rw [e2, e1]
        simp [up2]
        exact ra1
    exact ⟨q8, by rw [f.at 71 71 rfl, f.at 71 72 rfl, f.at 0 9 rfl, f.at 0 10 rfl]; exact ra2, by rw [f.at 71 25 rfl, f.at 36 2 rfl]; exact ra3⟩
  · unfold Rb at rb ⊢
    rw [f.at 71 2 rfl, f.at 52 0 rfl, f.at 71 65 rfl, f.at 64 2 rfl, f.fn 72 rfl, f.fn 53 rfl, f.fn 119 rfl, f.fn 120 rfl, f.fn 121 rfl, f.fn 65 rfl, f.fn 66 rfl, f.fn 67 rfl]; exact rb
  · unfold Rp PBs at rp ⊢
    rw [f.at 1 0 rfl, f.at 71 26 rfl, f.fn 88 rfl, f.fn 89 rfl, f.fn 90 rfl, f.fn 91 rfl, f.fn 92 rfl, f.fn 93 rfl, f.fn 94 rfl, f.fn 95 rfl, f.fn 96 rfl, f.fn 97 rfl, f.fn 2 rfl, f.fn 3 rfl, f.fn 4 rfl, f.fn 5 rfl, f.fn 6 rfl, f.fn 7 rfl, f.fn 8 rfl, f.fn 9 rfl, f.fn 10 rfl, f.fn 11 rfl]; exact rp
  · unfold Rf at rf ⊢
    rw [hsS_fn (f.fn 13 rfl), f.fn 98 rfl, f.fn 99 rfl, f.fn 101 rfl, f.fn 100 rfl, f.fn 116 rfl, f.fn 13 rfl, f.fn 14 rfl, f.fn 15 rfl, f.fn 16 rfl, f.fn 18 rfl]; exact rf
  · unfold Rj CW CB at rj ⊢
    rw [hsS_fn (f.fn 13 rfl), f.at 71 43 rfl, f.at 1 0 rfl, f.at 21 0 rfl, f.fn 102 rfl, f.fn 103 rfl, f.fn 104 rfl, f.fn 105 rfl, f.fn 106 rfl, f.fn 22 rfl, f.fn 23 rfl, f.fn 24 rfl, f.fn 25 rfl, f.fn 26 rfl, f.fn 27 rfl, f.fn 14 rfl, f.fn 17 rfl]; exact rj
  · exact GI_fs (f.fn 22 rfl) (f.fn 23 rfl) (f.fn 24 rfl) (f.fn 26 rfl) (f.fn 27 rfl) (f.fn 29 rfl) (f.fn 30 rfl) (f.fn 31 rfl) (f.fn 32 rfl) gi
  · exact Rt_fs (f.at 37 0 rfl) (f.at 44 0 rfl) (f.at 37 1 rfl) (f.at 44 1 rfl) (f.at 71 10 rfl) (f.fn 38 rfl) (f.fn 39 rfl) (f.fn 40 rfl) (f.fn 41 rfl) (f.fn 45 rfl) (f.fn 46 rfl) (f.fn 47 rfl) (f.fn 48 rfl) (f.fn 54 rfl) (f.fn 55 rfl) (f.fn 76 rfl) (f.fn 77 rfl) (f.fn 78 rfl) (f.fn 79 rfl) (f.fn 80 rfl) (f.fn 81 rfl) (f.fn 83 rfl) (f.fn 84 rfl) rt
  · exact HB_fs (f.at 57 4 rfl) (f.at 57 5 rfl) (f.fn 13 rfl) (f.fn 14 rfl) (f.fn 17 rfl) (f.fn 18 rfl) (f.fn 22 rfl) (f.fn 23 rfl) (f.fn 29 rfl) (f.fn 30 rfl) (f.fn 58 rfl) (f.fn 62 rfl) (f.fn 63 rfl) hb
  · exact HG_fs (f.at 64 10 rfl) (f.at 64 11 rfl) (f.at 64 12 rfl) (f.at 64 13 rfl) (f.at 64 14 rfl) (f.fn 3 rfl) (f.fn 4 rfl) (f.fn 5 rfl) (f.fn 29 rfl) hg
set_option maxHeartbeats 1000000 in
theorem rc_near (d : Nat) (hd : 60 ≤ d) (xs : List (Nat × Nat)) (t dd rr : Nat) (σ : Sg) (P J : Int) (n : Int) (hR : RR σ t dd P J) : ∃ (r : Int) (σ1 σ2 : Sg), Ev d 7 [(16, 0), (0, n)] (Wd xs t dd rr σ) (0, r) (Wd xs t dd rr σ1) ∧ Ev d 77 [(87, 0), (0, n)] (Wd xs t dd rr σ1) (0, r) (Wd xs t dd rr σ2) ∧ ∃ P' J', RR σ2 t dd P' J' := by
  obtain ⟨⟨ra, rb, rp, rf, rj, gi, rt⟩, hb, hg⟩ := hR
  obtain ⟨ra1, ra2, ra3⟩ := id ra
  obtain ⟨σ1, h1, e1⟩ := sp_X9_near d (by omega) xs t dd rr σ n
  have f1 : Fr [] [(36, 2)] σ σ1 := by
    rw [e1]
    split
    · exact (Fr.rf).up rfl
    · exact Fr.rf
  obtain ⟨σ2, h2, e2⟩ := sp_X10_near d (by omega) xs t dd rr σ1 n
  refine ⟨_, σ1, σ2, h1, h2, P, J, ?_⟩
  have f2 : Fr [] [(71, 0), (71, 25)] σ1 σ2 := by
    rw [e2]
    split
    · exact ((Fr.rf).up rfl).up rfl
    · exact (Fr.rf).up rfl
  have f : Fr [] [(36, 2), (71, 0), (71, 25)] σ σ2 := Fr.tr f1 f2 rfl rfl
  refine ⟨⟨?_, ?_, ?_, ?_, ?_, ?_, ?_⟩, ?_, ?_⟩
  · have q8 : σ2 71 25 = σ2 36 2 ∧ 0 ≤ σ2 36 2 ∧ σ2 36 2 ≤ 400 := by
      by_cases C : 0 ≤ n ∧ n ≤ 400
      · rw [if_pos C] at e1 e2
        rw [e2, e1]
        simp [up2]
        omega
      · rw [if_neg C] at e1 e2
        rw [e2, e1]
        simp [up2]
        exact ra3
    exact ⟨by rw [f.at 71 24 rfl, f.at 0 8 rfl]; exact ra1, by rw [f.at 71 71 rfl, f.at 71 72 rfl, f.at 0 9 rfl, f.at 0 10 rfl]; exact ra2, q8⟩
  · unfold Rb at rb ⊢
    rw [f.at 71 2 rfl, f.at 52 0 rfl, f.at 71 65 rfl, f.at 64 2 rfl, f.fn 72 rfl, f.fn 53 rfl, f.fn 119 rfl, f.fn 120 rfl, f.fn 121 rfl, f.fn 65 rfl, f.fn 66 rfl, f.fn 67 rfl]; exact rb
  · unfold Rp PBs at rp ⊢
    rw [f.at 1 0 rfl, f.at 71 26 rfl, f.fn 88 rfl, f.fn 89 rfl, f.fn 90 rfl, f.fn 91 rfl, f.fn 92 rfl, f.fn 93 rfl, f.fn 94 rfl, f.fn 95 rfl, f.fn 96 rfl, f.fn 97 rfl, f.fn 2 rfl, f.fn 3 rfl, f.fn 4 rfl, f.fn 5 rfl, f.fn 6 rfl, f.fn 7 rfl, f.fn 8 rfl, f.fn 9 rfl, f.fn 10 rfl, f.fn 11 rfl]; exact rp
  · unfold Rf at rf ⊢
    rw [hsS_fn (f.fn 13 rfl), f.fn 98 rfl, f.fn 99 rfl, f.fn 101 rfl, f.fn 100 rfl, f.fn 116 rfl, f.fn 13 rfl, f.fn 14 rfl, f.fn 15 rfl, f.fn 16 rfl, f.fn 18 rfl]; exact rf
  · unfold Rj CW CB at rj ⊢
    rw [hsS_fn (f.fn 13 rfl), f.at 71 43 rfl, f.at 1 0 rfl, f.at 21 0 rfl, f.fn 102 rfl, f.fn 103 rfl, f.fn 104 rfl, f.fn 105 rfl, f.fn 106 rfl, f.fn 22 rfl, f.fn 23 rfl, f.fn 24 rfl, f.fn 25 rfl, f.fn 26 rfl, f.fn 27 rfl, f.fn 14 rfl, f.fn 17 rfl]; exact rj
  · exact GI_fs (f.fn 22 rfl) (f.fn 23 rfl) (f.fn 24 rfl) (f.fn 26 rfl) (f.fn 27 rfl) (f.fn 29 rfl) (f.fn 30 rfl) (f.fn 31 rfl) (f.fn 32 rfl) gi
  · exact Rt_fs (f.at 37 0 rfl) (f.at 44 0 rfl) (f.at 37 1 rfl) (f.at 44 1 rfl) (f.at 71 10 rfl) (f.fn 38 rfl) (f.fn 39 rfl) (f.fn 40 rfl) (f.fn 41 rfl) (f.fn 45 rfl) (f.fn 46 rfl) (f.fn 47 rfl) (f.fn 48 rfl) (f.fn 54 rfl) (f.fn 55 rfl) (f.fn 76 rfl) (f.fn 77 rfl) (f.fn 78 rfl) (f.fn 79 rfl) (f.fn 80 rfl) (f.fn 81 rfl) (f.fn 83 rfl) (f.fn 84 rfl) rt
  · exact HB_fs (f.at 57 4 rfl) (f.at 57 5 rfl) (f.fn 13 rfl) (f.fn 14 rfl) (f.fn 17 rfl) (f.fn 18 rfl) (f.fn 22 rfl) (f.fn 23 rfl) (f.fn 29 rfl) (f.fn 30 rfl) (f.fn 58 rfl) (f.fn 62 rfl) (f.fn 63 rfl) hb
  · exact HG_fs (f.at 64 10 rfl) (f.at 64 11 rfl) (f.at 64 12 rfl) (f.at 64 13 rfl) (f.at 64 14 rfl) (f.fn 3 rfl) (f.fn 4 rfl) (f.fn 5 rfl) (f.fn 29 rfl) hg
set_option maxHeartbeats 1000000 in
theorem rc_blind (d : Nat) (hd : 60 ≤ d) (xs : List (Nat × Nat)) (t dd rr : Nat) (σ : Sg) (P J : Int) (b : Int) (hb01 : b = 0 ∨ b = 1) (hR : RR σ t dd P J) : ∃ (r : Int) (σ1 σ2 : Sg), Ev d 23 [(16, 0), (0, b)] (Wd xs t dd rr σ) (0, r) (Wd xs t dd rr σ1) ∧ Ev d 122 [(87, 0), (0, b)] (Wd xs t dd rr σ1) (0, r) (Wd xs t dd rr σ2) ∧ ∃ P' J', RR σ2 t dd P' J' := by
  obtain ⟨⟨ra, rb, rp, rf, rj, gi, rt⟩, hb, hg⟩ := hR
  obtain ⟨ra1, ra2, ra3⟩ := id ra
  obtain ⟨σ1, h1, e1⟩ := sp_X9_blind d (by omega) xs t dd rr σ b hb01 ⟨ra2.2.2.1, ra2.2.2.2.1, by omega⟩
  have f1 : Fr [] [(0, 9), (0, 10)] σ σ1 := by
    rw [e1]
    split
    · exact ((Fr.rf).up rfl).up rfl
    · exact Fr.rf
  have k1 : σ1 71 71 = σ 0 9 := by rw [f1.at 71 71 rfl]; exact ra2.1
  have k2 : σ1 71 72 = σ 0 10 := by rw [f1.at 71 72 rfl]; exact ra2.2.1
  obtain ⟨σ2, h2, e2⟩ := sp_X10_blind d (by omega) xs t dd rr σ1 b hb01 (by rw [k1, k2]; exact ⟨ra2.2.2.1, ra2.2.2.2.1, by omega⟩)
  rw [k1] at h2 e2
  rw [k2] at e2
  refine ⟨_, σ1, σ2, h1, h2, P, J, ?_⟩
  have f2 : Fr [] [(71, 0), (71, 71), (71, 72)] σ1 σ2 := by
    rw [e2]
    split
    · exact (((Fr.rf).up rfl).up rfl).up rfl
    · exact (Fr.rf).up rfl
  have f : Fr [] [(0, 9), (0, 10), (71, 0), (71, 71), (71, 72)] σ σ2 := Fr.tr f1 f2 rfl rfl
  refine ⟨⟨?_, ?_, ?_, ?_, ?_, ?_, ?_⟩, ?_, ?_⟩
  · have q8 : σ2 71 71 = σ2 0 9 ∧ σ2 71 72 = σ2 0 10 ∧ (0 ≤ σ2 0 9 ∧ σ2 0 9 ≤ 1000) ∧ 0 ≤ σ2 0 10 ∧ σ2 0 10 ≤ σ2 0 9 := by
      by_cases C : σ 0 9 < 1000
      · rw [if_pos C] at e1 e2
        rw [e2, e1]
        simp [up2]
        omega
      · rw [if_neg C] at e1 e2
        rw [e2, e1]
        simp [up2]
        exact ra2
    exact ⟨by rw [f.at 71 24 rfl, f.at 0 8 rfl]; exact ra1, q8, by rw [f.at 71 25 rfl, f.at 36 2 rfl]; exact ra3⟩
  · unfold Rb at rb ⊢
    rw [f.at 71 2 rfl, f.at 52 0 rfl, f.at 71 65 rfl, f.at 64 2 rfl, f.fn 72 rfl, f.fn 53 rfl, f.fn 119 rfl, f.fn 120 rfl, f.fn 121 rfl, f.fn 65 rfl, f.fn 66 rfl, f.fn 67 rfl]; exact rb
  · unfold Rp PBs at rp ⊢
    rw [f.at 1 0 rfl, f.at 71 26 rfl, f.fn 88 rfl, f.fn 89 rfl, f.fn 90 rfl, f.fn 91 rfl, f.fn 92 rfl, f.fn 93 rfl, f.fn 94 rfl, f.fn 95 rfl, f.fn 96 rfl, f.fn 97 rfl, f.fn 2 rfl, f.fn 3 rfl, f.fn 4 rfl, f.fn 5 rfl, f.fn 6 rfl, f.fn 7 rfl, f.fn 8 rfl, f.fn 9 rfl, f.fn 10 rfl, f.fn 11 rfl]; exact rp
  · unfold Rf at rf ⊢
    rw [hsS_fn (f.fn 13 rfl), f.fn 98 rfl, f.fn 99 rfl, f.fn 101 rfl, f.fn 100 rfl, f.fn 116 rfl, f.fn 13 rfl, f.fn 14 rfl, f.fn 15 rfl, f.fn 16 rfl, f.fn 18 rfl]; exact rf
  · unfold Rj CW CB at rj ⊢
    rw [hsS_fn (f.fn 13 rfl), f.at 71 43 rfl, f.at 1 0 rfl, f.at 21 0 rfl, f.fn 102 rfl, f.fn 103 rfl, f.fn 104 rfl, f.fn 105 rfl, f.fn 106 rfl, f.fn 22 rfl, f.fn 23 rfl, f.fn 24 rfl, f.fn 25 rfl, f.fn 26 rfl, f.fn 27 rfl, f.fn 14 rfl, f.fn 17 rfl]; exact rj
  · exact GI_fs (f.fn 22 rfl) (f.fn 23 rfl) (f.fn 24 rfl) (f.fn 26 rfl) (f.fn 27 rfl) (f.fn 29 rfl) (f.fn 30 rfl) (f.fn 31 rfl) (f.fn 32 rfl) gi
  · exact Rt_fs (f.at 37 0 rfl) (f.at 44 0 rfl) (f.at 37 1 rfl) (f.at 44 1 rfl) (f.at 71 10 rfl) (f.fn 38 rfl) (f.fn 39 rfl) (f.fn 40 rfl) (f.fn 41 rfl) (f.fn 45 rfl) (f.fn 46 rfl) (f.fn 47 rfl) (f.fn 48 rfl) (f.fn 54 rfl) (f.fn 55 rfl) (f.fn 76 rfl) (f.fn 77 rfl) (f.fn 78 rfl) (f.fn 79 rfl) (f.fn 80 rfl) (f.fn 81 rfl) (f.fn 83 rfl) (f.fn 84 rfl) rt
  · exact HB_fs (f.at 57 4 rfl) (f.at 57 5 rfl) (f.fn 13 rfl) (f.fn 14 rfl) (f.fn 17 rfl) (f.fn 18 rfl) (f.fn 22 rfl) (f.fn 23 rfl) (f.fn 29 rfl) (f.fn 30 rfl) (f.fn 58 rfl) (f.fn 62 rfl) (f.fn 63 rfl) hb
  · exact HG_fs (f.at 64 10 rfl) (f.at 64 11 rfl) (f.at 64 12 rfl) (f.at 64 13 rfl) (f.at 64 14 rfl) (f.fn 3 rfl) (f.fn 4 rfl) (f.fn 5 rfl) (f.fn 29 rfl) hg
set_option maxHeartbeats 1000000 in
theorem rc_foot (d : Nat) (hd : 60 ≤ d) (xs : List (Nat × Nat)) (t dd rr : Nat) (σ : Sg) (P J : Int) (x y z : Int) (hR : RR σ t dd P J) : ∃ (r : Int) (σ1 σ2 : Sg), Ev d 20 [(16, 0), (0, x), (0, y), (0, z)] (Wd xs t dd rr σ) (0, r) (Wd xs t dd rr σ1) ∧ Ev d 117 [(87, 0), (0, x), (0, y), (0, z)] (Wd xs t dd rr σ1) (0, r) (Wd xs t dd rr σ2) ∧ ∃ P' J', RR σ2 t dd P' J' := by
  obtain ⟨⟨ra, rb, rp, rf, rj, gi, rt⟩, hb, hg⟩ := hR
  obtain ⟨rb1, rb2, rb3, rb4, rb5, rb6, rb7⟩ := id rb
  obtain ⟨σ1, h1, e1⟩ := sp_X9_foot d (by omega) xs t dd rr σ x y z rb3
  have f1 : Fr [65, 66, 67] [(64, 2)] σ σ1 := by
    rw [e1]
    split
    · exact ((((Fr.rf).up rfl).up rfl).up rfl).up rfl
    · exact Fr.rf
  have k1 : σ1 71 65 = σ 64 2 := by rw [f1.at 71 65 rfl]; exact rb2
  obtain ⟨σ2, h2, e2⟩ := sp_X10_foot d (by omega) xs t dd rr σ1 x y z (by rw [k1]; exact rb3)
  rw [k1] at h2 e2
  refine ⟨_, σ1, σ2, h1, h2, P, J, ?_⟩
  have f2 : Fr [119, 120, 121] [(71, 0), (71, 65)] σ1 σ2 := by
    rw [e2]
    split
    · exact (((((Fr.rf).up rfl).up rfl).up rfl).up rfl).up rfl
    · exact (Fr.rf).up rfl
  have f : Fr [65, 66, 67, 119, 120, 121] [(64, 2), (71, 0), (71, 65)] σ σ2 := Fr.tr f1 f2 rfl rfl
  refine ⟨⟨?_, ?_, ?_, ?_, ?_, ?_, ?_⟩, ?_, ?_⟩
  · unfold Ra at ra ⊢
    rw [f.at 71 24 rfl, f.at 0 8 rfl, f.at 71 71 rfl, f.at 0 9 rfl, f.at 71 72 rfl, f.at 0 10 rfl, f.at 71 25 rfl, f.at 36 2 rfl]; exact ra
  · refine ⟨by rw [f.at 71 2 rfl, f.at 52 0 rfl, f.fn 72 rfl, f.fn 53 rfl]; exact rb1, ?_⟩
    by_cases C : ((0 ≤ x ∧ x ≤ 999) ∧ (0 ≤ y ∧ y ≤ 999) ∧ (1 ≤ z ∧ z ≤ 99)) ∧ σ 64 2 < 20
    · rw [if_pos C] at e1 e2
      have q2 : σ2 64 2 = σ 64 2 + 1 := by rw [e2, e1]; simp [up2]
      have q65 : σ2 65 = fup (σ 65) (σ 64 2) x := by rw [e2, e1]; funext i; simp [up2, fup]
      have q66 : σ2 66 = fup (σ 66) (σ 64 2) y := by rw [e2, e1]; funext i; simp [up2, fup]
      have q67 : σ2 67 = fup (σ 67) (σ 64 2) z := by rw [e2, e1]; funext i; simp [up2, fup]
      have q119 : σ2 119 = fup (σ 119) (σ 64 2) x := by rw [e2, e1]; funext i; simp [up2, fup]
      have q120 : σ2 120 = fup (σ 120) (σ 64 2) y := by rw [e2, e1]; funext i; simp [up2, fup]
      have q121 : σ2 121 = fup (σ 121) (σ 64 2) z := by rw [e2, e1]; funext i; simp [up2, fup]
      have q71 : σ2 71 65 = σ 64 2 + 1 := by rw [e2, e1]; simp [up2]
      rw [q71, q2, q119, q120, q121, q65, q66, q67, rb4, rb5, rb6]
      refine ⟨rfl, by omega, rfl, rfl, rfl, fun k k0 k1 => ?_⟩
      by_cases w : k = σ 64 2
      · rw [w, fup_s, fup_s, fup_s]; omega
      · rw [fup_o w, fup_o w, fup_o w]; exact rb7 k k0 (by omega)
    · rw [if_neg C] at e1 e2
      have g : Fr [] [(71, 0)] σ σ2 := by rw [e2, e1]; exact (Fr.rf).up rfl
      rw [g.at 71 65 rfl, g.at 64 2 rfl, g.fn 119 rfl, g.fn 120 rfl, g.fn 121 rfl, g.fn 65 rfl, g.fn 66 rfl, g.fn 67 rfl]
      exact ⟨rb2, rb3, rb4, rb5, rb6, rb7⟩
  · unfold Rp PBs at rp ⊢
    rw [f.at 1 0 rfl, f.at 71 26 rfl, f.fn 88 rfl, f.fn 89 rfl, f.fn 90 rfl, f.fn 91 rfl, f.fn 92 rfl, f.fn 93 rfl, f.fn 94 rfl, f.fn 95 rfl, f.fn 96 rfl, f.fn 97 rfl, f.fn 2 rfl, f.fn 3 rfl, f.fn 4 rfl, f.fn 5 rfl, f.fn 6 rfl, f.fn 7 rfl, f.fn 8 rfl, f.fn 9 rfl, f.fn 10 rfl, f.fn 11 rfl]; exact rp
  · unfold Rf at rf ⊢
    rw [hsS_fn (f.fn 13 rfl), f.fn 98 rfl, f.fn 99 rfl, f.fn 101 rfl, f.fn 100 rfl, f.fn 116 rfl, f.fn 13 rfl, f.fn 14 rfl, f.fn 15 rfl, f.fn 16 rfl, f.fn 18 rfl]; exact rf
  · unfold Rj CW CB at rj ⊢
    rw [hsS_fn (f.fn 13 rfl), f.at 71 43 rfl, f.at 1 0 rfl, f.at 21 0 rfl, f.fn 102 rfl, f.fn 103 rfl, f.fn 104 rfl, f.fn 105 rfl, f.fn 106 rfl, f.fn 22 rfl, f.fn 23 rfl, f.fn 24 rfl, f.fn 25 rfl, f.fn 26 rfl, f.fn 27 rfl, f.fn 14 rfl, f.fn 17 rfl]; exact rj
  · exact GI_fs (f.fn 22 rfl) (f.fn 23 rfl) (f.fn 24 rfl) (f.fn 26 rfl) (f.fn 27 rfl) (f.fn 29 rfl) (f.fn 30 rfl) (f.fn 31 rfl) (f.fn 32 rfl) gi
  · exact Rt_fs (f.at 37 0 rfl) (f.at 44 0 rfl) (f.at 37 1 rfl) (f.at 44 1 rfl) (f.at 71 10 rfl) (f.fn 38 rfl) (f.fn 39 rfl) (f.fn 40 rfl) (f.fn 41 rfl) (f.fn 45 rfl) (f.fn 46 rfl) (f.fn 47 rfl) (f.fn 48 rfl) (f.fn 54 rfl) (f.fn 55 rfl) (f.fn 76 rfl) (f.fn 77 rfl) (f.fn 78 rfl) (f.fn 79 rfl) (f.fn 80 rfl) (f.fn 81 rfl) (f.fn 83 rfl) (f.fn 84 rfl) rt
  · exact HB_fs (f.at 57 4 rfl) (f.at 57 5 rfl) (f.fn 13 rfl) (f.fn 14 rfl) (f.fn 17 rfl) (f.fn 18 rfl) (f.fn 22 rfl) (f.fn 23 rfl) (f.fn 29 rfl) (f.fn 30 rfl) (f.fn 58 rfl) (f.fn 62 rfl) (f.fn 63 rfl) hb
  · exact HG_fs (f.at 64 10 rfl) (f.at 64 11 rfl) (f.at 64 12 rfl) (f.at 64 13 rfl) (f.at 64 14 rfl) (f.fn 3 rfl) (f.fn 4 rfl) (f.fn 5 rfl) (f.fn 29 rfl) hg
set_option maxHeartbeats 1000000 in
theorem rc_marks (d : Nat) (hd : 60 ≤ d) (xs : List (Nat × Nat)) (t dd rr : Nat) (σ : Sg) (P J : Int) (p c g s b fl : Int) (hb01 : b = 0 ∨ b = 1) (hR : RR σ t dd P J) : ∃ (r : Int) (σ1 σ2 : Sg), Ev d 3 [(16, 0), (0, p), (0, c), (0, g), (0, s), (0, b), (0, fl)] (Wd xs t dd rr σ) (0, r) (Wd xs t dd rr σ1) ∧ Ev d 68 [(87, 0), (0, p), (0, c), (0, g), (0, s), (0, b), (0, fl)] (Wd xs t dd rr σ1) (0, r) (Wd xs t dd rr σ2) ∧ ∃ P' J', RR σ2 t dd P' J' := by
  obtain ⟨⟨ra, rb, rp, rf, rj, gi, rt⟩, hb, hg⟩ := hR
  obtain ⟨⟨rp1, rp2, rp3, rp4⟩, rpr, rpb, rps, rpz⟩ := id rp
  obtain ⟨σ1, h1, e1⟩ := sp_X9_marks d (by omega) xs t dd rr σ p c g s b fl P rp1 rp4 hb01
  have f1 : Fr [7, 8, 9, 10, 11] [] σ σ1 := by
    rw [e1]
    split
    · exact (((((Fr.rf).up rfl).up rfl).up rfl).up rfl).up rfl
    · exact Fr.rf
  have k1 : σ1 71 26 = P := by rw [f1.at 71 26 rfl]; exact rp2
  obtain ⟨σ2, h2, e2⟩ := sp_X10_marks d (by omega) xs t dd rr σ1 p c g s b fl P k1 rp4 hb01
  refine ⟨_, σ1, σ2, h1, h2, P, J, ?_⟩
  have f2 : Fr [93, 94, 95, 96, 97] [(71, 0)] σ1 σ2 := by
    rw [e2]
    split
    · exact ((((((Fr.rf).up rfl).up rfl).up rfl).up rfl).up rfl).up rfl
    · exact (Fr.rf).up rfl
  have f : Fr [7, 8, 9, 10, 11, 93, 94, 95, 96, 97] [(71, 0)] σ σ2 := Fr.tr f1 f2 rfl rfl
  refine ⟨⟨?_, ?_, ?_, ?_, ?_, ?_, ?_⟩, ?_, ?_⟩
  · unfold Ra at ra ⊢
    rw [f.at 71 24 rfl, f.at 0 8 rfl, f.at 71 71 rfl, f.at 0 9 rfl, f.at 71 72 rfl, f.at 0 10 rfl, f.at 71 25 rfl, f.at 36 2 rfl]; exact ra
  · unfold Rb at rb ⊢
    rw [f.at 71 2 rfl, f.at 52 0 rfl, f.at 71 65 rfl, f.at 64 2 rfl, f.fn 72 rfl, f.fn 53 rfl, f.fn 119 rfl, f.fn 120 rfl, f.fn 121 rfl, f.fn 65 rfl, f.fn 66 rfl, f.fn 67 rfl]; exact rb
  · refine ⟨by rw [f.at 1 0 rfl, f.at 71 26 rfl]; exact ⟨rp1, rp2, rp3, rp4⟩, ?_⟩
    unfold PBs at rpb ⊢
    by_cases C : ((0 ≤ c ∧ c ≤ 99) ∧ (0 ≤ g ∧ g ≤ 99) ∧ (0 ≤ s ∧ s ≤ 9) ∧ (0 ≤ fl ∧ fl ≤ 9)) ∧ (0 ≤ p ∧ p < P)
    · rw [if_pos C] at e1 e2
      have q7 : σ2 7 = fup (σ 7) p c := by rw [e2, e1]; funext i; simp [up2, fup]
      have q8 : σ2 8 = fup (σ 8) p g := by rw [e2, e1]; funext i; simp [up2, fup]
      have q9 : σ2 9 = fup (σ 9) p s := by rw [e2, e1]; funext i; simp [up2, fup]
      have q10 : σ2 10 = fup (σ 10) p b := by rw [e2, e1]; funext i; simp [up2, fup]
      have q11 : σ2 11 = fup (σ 11) p fl := by rw [e2, e1]; funext i; simp [up2, fup]
      have q93 : σ2 93 = fup (σ 93) p c := by rw [e2, e1]; funext i; simp [up2, fup]
      have q94 : σ2 94 = fup (σ 94) p g := by rw [e2, e1]; funext i; simp [up2, fup]
      have q95 : σ2 95 = fup (σ 95) p s := by rw [e2, e1]; funext i; simp [up2, fup]
      have q96 : σ2 96 = fup (σ 96) p b := by rw [e2, e1]; funext i; simp [up2, fup]
      have q97 : σ2 97 = fup (σ 97) p fl := by rw [e2, e1]; funext i; simp [up2, fup]
      rw [f.fn 88 rfl, f.fn 89 rfl, f.fn 90 rfl, f.fn 91 rfl, f.fn 92 rfl, f.fn 2 rfl, f.fn 3 rfl, f.fn 4 rfl, f.fn 5 rfl, f.fn 6 rfl, q93, q94, q95, q96, q97, q7, q8, q9, q10, q11]
      obtain ⟨u1, u2, u3, u4, u5, u6, u7, u8, u9, u10⟩ := rpr
      rw [u6, u7, u8, u9, u10]
      refine ⟨⟨u1, u2, u3, u4, u5, rfl, rfl, rfl, rfl, rfl⟩, fun q q0 q1 => ?_, rps, fun q q0 q1 => ?_⟩
      · have hq := rpb q q0 q1
        by_cases w : q = p
        · rw [w, fup_s, fup_s, fup_s, fup_s, fup_s]
          rw [w] at hq
          omega
        · rw [fup_o w, fup_o w, fup_o w, fup_o w, fup_o w]; exact hq
      · rw [fup_o (by omega), fup_o (by omega), fup_o (by omega), fup_o (by omega), fup_o (by omega)]; exact rpz q q0 q1
    · rw [if_neg C] at e1 e2
      have g' : Fr [] [(71, 0)] σ σ2 := by rw [e2, e1]; exact (Fr.rf).up rfl
      rw [g'.fn 88 rfl, g'.fn 89 rfl, g'.fn 90 rfl, g'.fn 91 rfl, g'.fn 92 rfl, g'.fn 93 rfl, g'.fn 94 rfl, g'.fn 95 rfl, g'.fn 96 rfl, g'.fn 97 rfl, g'.fn 2 rfl, g'.fn 3 rfl, g'.fn 4 rfl, g'.fn 5 rfl, g'.fn 6 rfl, g'.fn 7 rfl, g'.fn 8 rfl, g'.fn 9 rfl, g'.fn 10 rfl, g'.fn 11 rfl]
      exact ⟨rpr, rpb, rps, rpz⟩
  · unfold Rf at rf ⊢
    rw [hsS_fn (f.fn 13 rfl), f.fn 98 rfl, f.fn 99 rfl, f.fn 101 rfl, f.fn 100 rfl, f.fn 116 rfl, f.fn 13 rfl, f.fn 14 rfl, f.fn 15 rfl, f.fn 16 rfl, f.fn 18 rfl]; exact rf
  · unfold Rj CW CB at rj ⊢
    rw [hsS_fn (f.fn 13 rfl), f.at 71 43 rfl, f.at 1 0 rfl, f.at 21 0 rfl, f.fn 102 rfl, f.fn 103 rfl, f.fn 104 rfl, f.fn 105 rfl, f.fn 106 rfl, f.fn 22 rfl, f.fn 23 rfl, f.fn 24 rfl, f.fn 25 rfl, f.fn 26 rfl, f.fn 27 rfl, f.fn 14 rfl, f.fn 17 rfl]; exact rj
  · exact GI_fs (f.fn 22 rfl) (f.fn 23 rfl) (f.fn 24 rfl) (f.fn 26 rfl) (f.fn 27 rfl) (f.fn 29 rfl) (f.fn 30 rfl) (f.fn 31 rfl) (f.fn 32 rfl) gi
  · exact Rt_fs (f.at 37 0 rfl) (f.at 44 0 rfl) (f.at 37 1 rfl) (f.at 44 1 rfl) (f.at 71 10 rfl) (f.fn 38 rfl) (f.fn 39 rfl) (f.fn 40 rfl) (f.fn 41 rfl) (f.fn 45 rfl) (f.fn 46 rfl) (f.fn 47 rfl) (f.fn 48 rfl) (f.fn 54 rfl) (f.fn 55 rfl) (f.fn 76 rfl) (f.fn 77 rfl) (f.fn 78 rfl) (f.fn 79 rfl) (f.fn 80 rfl) (f.fn 81 rfl) (f.fn 83 rfl) (f.fn 84 rfl) rt
  · exact HB_fs (f.at 57 4 rfl) (f.at 57 5 rfl) (f.fn 13 rfl) (f.fn 14 rfl) (f.fn 17 rfl) (f.fn 18 rfl) (f.fn 22 rfl) (f.fn 23 rfl) (f.fn 29 rfl) (f.fn 30 rfl) (f.fn 58 rfl) (f.fn 62 rfl) (f.fn 63 rfl) hb
  · exact HG_fs (f.at 64 10 rfl) (f.at 64 11 rfl) (f.at 64 12 rfl) (f.at 64 13 rfl) (f.at 64 14 rfl) (f.fn 3 rfl) (f.fn 4 rfl) (f.fn 5 rfl) (f.fn 29 rfl) hg
theorem tape8_ch {v : Int} {s : TS} (hn : 0 ≤ s.1 ∧ s.1 ≤ 1000) (h : ∀ i, 0 ≤ i → i < s.1 → 0 ≤ s.2 i ∧ s.2 i ≤ 127) : ∀ m : Nat, ∀ i, 0 ≤ i → i < (tape8 v m s).1 → 0 ≤ (tape8 v m s).2 i ∧ (tape8 v m s).2 i ≤ 127 := by
  intro m
  induction m with
  | zero => exact h
  | succ m ih =>
    have hb := tape8_bd (v := v) hn m
    have e : tape8 v ((m : Int) + 1) s = _ := tape8_s (by omega)
    show ∀ i, 0 ≤ i → i < (tape8 v ((m : Int) + 1) s).1 → _
    rw [show (((m + 1 : Nat) : Int)) = (m : Int) + 1 by omega, e]
    generalize tape8 v (m : Int) s = u at *
    unfold tstep
    intro i i0 i1
    split at i1
    · rename_i q
      rw [if_pos q]
      have i1 : i < u.1 + 1 := i1
      by_cases z : i = u.1
      · show 0 ≤ fup u.2 u.1 _ i ∧ fup u.2 u.1 _ i ≤ 127
        rw [z, fup_s]
        omega
      · show 0 ≤ fup u.2 u.1 _ i ∧ fup u.2 u.1 _ i ≤ 127
        rw [fup_o z]
        exact ih i i0 (by omega)
    · rename_i q
      rw [if_neg q]
      exact ih i i0 i1
set_option maxHeartbeats 1000000 in
theorem rc_feed (d : Nat) (hd : 60 ≤ d) (xs : List (Nat × Nat)) (t dd rr : Nat) (σ : Sg) (P J : Int) (a b c : Int) (hR : RR σ t dd P J) : ∃ (r : Int) (σ1 σ2 : Sg), Ev d 5 [(16, 0), (1, a), (1, b), (1, c)] (Wd xs t dd rr σ) (0, r) (Wd xs t dd rr σ1) ∧ Ev d 32 [(87, 0), (1, a), (1, b), (1, c)] (Wd xs t dd rr σ1) (0, r) (Wd xs t dd rr σ2) ∧ ∃ P' J', RR σ2 t dd P' J' := by
  obtain ⟨⟨ra, rb, rp, rf, rj, gi, rt⟩, hb, hg⟩ := hR
  obtain ⟨⟨rb1, rb2, rb3, rb4⟩, rb5⟩ := id rb
  obtain ⟨σ1, h1, f1, e1⟩ := sp_X9_feed d (by omega) xs t dd rr σ a b c rb2
  have k1 : σ1 71 2 = σ 52 0 := by rw [f1.at 71 2 rfl]; exact rb1
  have k2 : σ1 72 = σ 53 := by rw [f1.fn 72 rfl]; exact rb3
  obtain ⟨σ2, h2, f2, e2⟩ := sp_X10_feed d (by omega) xs t dd rr σ1 a b c (by rw [k1]; exact rb2)
  rw [k1, k2] at h2 e2
  refine ⟨_, σ1, σ2, h1, h2, P, J, ?_⟩
  have f : Fr [53, 72] [(52, 0), (71, 0), (71, 2)] σ σ2 := Fr.tr f1 f2 rfl rfl
  have n0 := tape8_bd (v := a) (s := (σ 52 0, σ 53)) rb2 8
  have c0 := tape8_ch (v := a) (s := (σ 52 0, σ 53)) rb2 rb4 8
  have n1 := tape8_bd (v := b) n0 8
  have c1 := tape8_ch (v := b) n0 c0 8
  have n2 := tape8_bd (v := c) n1 8
  have c2 := tape8_ch (v := c) n1 c1 8
  have g52 : σ2 52 0 = σ1 52 0 := f2.at 52 0 rfl
  have g53 : σ2 53 = σ1 53 := f2.fn 53 rfl
  refine ⟨⟨?_, ?_, ?_, ?_, ?_, ?_, ?_⟩, ?_, ?_⟩
  · unfold Ra at ra ⊢
    rw [f.at 71 24 rfl, f.at 0 8 rfl, f.at 71 71 rfl, f.at 0 9 rfl, f.at 71 72 rfl, f.at 0 10 rfl, f.at 71 25 rfl, f.at 36 2 rfl]; exact ra
  · refine ⟨?_, by rw [f.at 71 65 rfl, f.at 64 2 rfl, f.fn 119 rfl, f.fn 120 rfl, f.fn 121 rfl, f.fn 65 rfl, f.fn 66 rfl, f.fn 67 rfl]; exact rb5⟩
    have n2 : 0 ≤ (tape8 c 8 (tape8 b 8 (tape8 a 8 (σ 52 0, σ 53)))).1 ∧ (tape8 c 8 (tape8 b 8 (tape8 a 8 (σ 52 0, σ 53)))).1 ≤ 1000 := n2
    have c2 : ∀ i, 0 ≤ i → i < (tape8 c 8 (tape8 b 8 (tape8 a 8 (σ 52 0, σ 53)))).1 → 0 ≤ (tape8 c 8 (tape8 b 8 (tape8 a 8 (σ 52 0, σ 53)))).2 i ∧ (tape8 c 8 (tape8 b 8 (tape8 a 8 (σ 52 0, σ 53)))).2 i ≤ 127 := c2
    generalize tape8 c 8 (tape8 b 8 (tape8 a 8 (σ 52 0, σ 53))) = T at *
    have t1 : σ1 52 0 = T.1 := by rw [← e1]
    have t2 : σ1 53 = T.2 := by rw [← e1]
    have t3 : σ2 71 2 = T.1 := by rw [← e2]
    have t4 : σ2 72 = T.2 := by rw [← e2]
    rw [t3, t4, g52, g53, t1, t2]
    exact ⟨rfl, n2, rfl, c2⟩
  · unfold Rp PBs at rp ⊢
    rw [f.at 1 0 rfl, f.at 71 26 rfl, f.fn 88 rfl, f.fn 89 rfl, f.fn 90 rfl, f.fn 91 rfl, f.fn 92 rfl, f.fn 93 rfl, f.fn 94 rfl, f.fn 95 rfl, f.fn 96 rfl, f.fn 97 rfl, f.fn 2 rfl, f.fn 3 rfl, f.fn 4 rfl, f.fn 5 rfl, f.fn 6 rfl, f.fn 7 rfl, f.fn 8 rfl, f.fn 9 rfl, f.fn 10 rfl, f.fn 11 rfl]; exact rp
  · unfold Rf at rf ⊢
    rw [hsS_fn (f.fn 13 rfl), f.fn 98 rfl, f.fn 99 rfl, f.fn 101 rfl, f.fn 100 rfl, f.fn 116 rfl, f.fn 13 rfl, f.fn 14 rfl, f.fn 15 rfl, f.fn 16 rfl, f.fn 18 rfl]; exact rf
  · unfold Rj CW CB at rj ⊢
    rw [hsS_fn (f.fn 13 rfl), f.at 71 43 rfl, f.at 1 0 rfl, f.at 21 0 rfl, f.fn 102 rfl, f.fn 103 rfl, f.fn 104 rfl, f.fn 105 rfl, f.fn 106 rfl, f.fn 22 rfl, f.fn 23 rfl, f.fn 24 rfl, f.fn 25 rfl, f.fn 26 rfl, f.fn 27 rfl, f.fn 14 rfl, f.fn 17 rfl]; exact rj
  · exact GI_fs (f.fn 22 rfl) (f.fn 23 rfl) (f.fn 24 rfl) (f.fn 26 rfl) (f.fn 27 rfl) (f.fn 29 rfl) (f.fn 30 rfl) (f.fn 31 rfl) (f.fn 32 rfl) gi
  · exact Rt_fs (f.at 37 0 rfl) (f.at 44 0 rfl) (f.at 37 1 rfl) (f.at 44 1 rfl) (f.at 71 10 rfl) (f.fn 38 rfl) (f.fn 39 rfl) (f.fn 40 rfl) (f.fn 41 rfl) (f.fn 45 rfl) (f.fn 46 rfl) (f.fn 47 rfl) (f.fn 48 rfl) (f.fn 54 rfl) (f.fn 55 rfl) (f.fn 76 rfl) (f.fn 77 rfl) (f.fn 78 rfl) (f.fn 79 rfl) (f.fn 80 rfl) (f.fn 81 rfl) (f.fn 83 rfl) (f.fn 84 rfl) rt
  · exact HB_fs (f.at 57 4 rfl) (f.at 57 5 rfl) (f.fn 13 rfl) (f.fn 14 rfl) (f.fn 17 rfl) (f.fn 18 rfl) (f.fn 22 rfl) (f.fn 23 rfl) (f.fn 29 rfl) (f.fn 30 rfl) (f.fn 58 rfl) (f.fn 62 rfl) (f.fn 63 rfl) hb
  · exact HG_fs (f.at 64 10 rfl) (f.at 64 11 rfl) (f.at 64 12 rfl) (f.at 64 13 rfl) (f.at 64 14 rfl) (f.fn 3 rfl) (f.fn 4 rfl) (f.fn 5 rfl) (f.fn 29 rfl) hg

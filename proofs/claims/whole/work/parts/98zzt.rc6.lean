set_option maxHeartbeats 2000000 in
theorem rc_text_53 (d : Nat) (hd : 60 ≤ d) (xs : List (Nat × Nat)) (rr : Nat) (σ : Sg) (P J : Int) (hR : RR σ 60 53 P J) : ∃ (r : Int) (σ1 σ2 : Sg) (t' dd' : Nat), Ev d 6 [(16, 0)] (Wd xs 60 53 rr σ) (0, r) (Wd xs t' dd' 53 σ1) ∧ Ev d 48 [(87, 0)] (Wd xs t' dd' 53 σ1) (0, r) (Wd xs t' dd' 53 σ2) ∧ ∃ P' J', RR σ2 t' dd' P' J' := by
  obtain ⟨⟨ra, rb, rp, rf, rj, gi, rt⟩, hb, hg⟩ := hR
  obtain ⟨t1, t2, t3, t4, t5, hh, N, M, kd, nu, len, K, W, w1, w2, w3, w4, w5, w6⟩ := id rt
  obtain ⟨⟨rb1, rb2, rb3, rb4⟩, rb5⟩ := id rb
  obtain ⟨m, hNT⟩ := NT_ex (c := σ 53) (n := σ 52 0) rb2.1
  obtain ⟨σ1, h1, hP1⟩ := sp_X9_text_53 d (by omega) xs rr σ (σ 76) (σ 52 0) m rfl rb2 hNT rb4 t3 t4 t5 t2.1
  obtain ⟨f1, z0, z1, y1⟩ := hP1
  have hM := frM f1 rfl rfl
  have hwd : ∀ a b, 0 ≤ a → a < b → b < 20 → σ 76 a ≠ σ 76 b := fun a b a0 ab b1 => by
    rw [t5 a a0 (by omega), t5 b (by omega) b1, (wd_ok a0 (by omega)).2.1, (wd_ok (show 0 ≤ b by omega) b1).2.1]
    exact wd_d a0 ab b1
  have h10 : σ 71 10 = hh := w3.1.1
  have hh1 : hh = 0 ∨ hh = 1 := w3.1.2.1
  obtain ⟨σ2, h2, hP2⟩ := sp_X10_text d (by omega) xs (if (txR (σ 53) (σ 76) (σ 52 0) m 1001 x0).2.1 = 0 then 53 else 60) (if (txR (σ 53) (σ 76) (σ 52 0) m 1001 x0).2.1 = 0 then 60 else 53) 53 σ1 (σ 52 0) m hh (by rw [hM 71 (by decide)]; exact rb1) rb2 (by rw [hM 72 (by decide), rb3]; exact hNT) (by rw [hM 71 (by decide)]; exact h10) hh1 (by rw [hM 76 (by decide)]; exact hwd)
  rw [hM 72 (by decide), hM 76 (by decide), rb3] at h2 hP2
  obtain ⟨f2, v0, v1, v2, v3⟩ := hP2
  refine ⟨_, σ1, σ2, _, _, h1, h2, P, J, ?_⟩
  have f : Fr [38, 39, 40, 41, 56, 73, 74, 75, 77, 78, 79, 80, 81, 82, 83, 84] [(52, 0), (52, 3), (52, 4), (52, 5), (52, 6), (52, 7), (52, 8), (37, 0), (37, 1), (37, 2), (71, 0), (71, 2), (71, 3), (71, 7), (71, 8), (71, 10), (71, 11), (71, 18)] σ σ2 := Fr.tr f1 f2 rfl rfl
  have hz3 : σ2 40 0 = 0 := by rw [f2.row 40 rfl]; exact z1
  have hzo : σ2 47 0 = 0 := by rw [f.row 47 rfl]; exact t2.2
  refine ⟨⟨?_, ?_, ?_, ?_, ?_, ?_, ?_⟩, ?_, ?_⟩
  · unfold Ra at ra ⊢
    rw [f.at 71 24 rfl, f.at 0 8 rfl, f.at 71 71 rfl, f.at 0 9 rfl, f.at 71 72 rfl, f.at 0 10 rfl, f.at 71 25 rfl, f.at 36 2 rfl]; exact ra
  · refine ⟨⟨?_, ?_, ?_, ?_⟩, by rw [f.at 71 65 rfl, f.at 64 2 rfl, f.fn 119 rfl, f.fn 120 rfl, f.fn 121 rfl, f.fn 65 rfl, f.fn 66 rfl, f.fn 67 rfl]; exact rb5⟩
    · rw [v0.2, f2.at 52 0 rfl, z0]
    · rw [f2.at 52 0 rfl, z0]; omega
    · rw [f.fn 72 rfl, f.fn 53 rfl]; exact rb3
    · rw [f2.at 52 0 rfl, z0]; exact fun i i0 i1 => by omega
  · unfold Rp PBs at rp ⊢
    rw [f.at 1 0 rfl, f.at 71 26 rfl, f.fn 88 rfl, f.fn 89 rfl, f.fn 90 rfl, f.fn 91 rfl, f.fn 92 rfl, f.fn 93 rfl, f.fn 94 rfl, f.fn 95 rfl, f.fn 96 rfl, f.fn 97 rfl, f.fn 2 rfl, f.fn 3 rfl, f.fn 4 rfl, f.fn 5 rfl, f.fn 6 rfl, f.fn 7 rfl, f.fn 8 rfl, f.fn 9 rfl, f.fn 10 rfl, f.fn 11 rfl]; exact rp
  · unfold Rf at rf ⊢
    rw [hsS_fn (f.fn 13 rfl), f.fn 98 rfl, f.fn 99 rfl, f.fn 101 rfl, f.fn 100 rfl, f.fn 116 rfl, f.fn 13 rfl, f.fn 14 rfl, f.fn 15 rfl, f.fn 16 rfl, f.fn 18 rfl]; exact rf
  · unfold Rj CW CB at rj ⊢
    rw [hsS_fn (f.fn 13 rfl), f.at 71 43 rfl, f.at 1 0 rfl, f.at 21 0 rfl, f.fn 102 rfl, f.fn 103 rfl, f.fn 104 rfl, f.fn 105 rfl, f.fn 106 rfl, f.fn 22 rfl, f.fn 23 rfl, f.fn 24 rfl, f.fn 25 rfl, f.fn 26 rfl, f.fn 27 rfl, f.fn 14 rfl, f.fn 17 rfl]; exact rj
  · exact GI_fs (f.fn 22 rfl) (f.fn 23 rfl) (f.fn 24 rfl) (f.fn 26 rfl) (f.fn 27 rfl) (f.fn 29 rfl) (f.fn 30 rfl) (f.fn 31 rfl) (f.fn 32 rfl) gi
  · have e54 : ∀ w, 0 ≤ w → w < 8 → σ2 54 w = wvl 32 (wdg w) (wln w) := by rw [f.fn 54 rfl]; exact t3
    have e55 : ∀ w, 0 ≤ w → w < 12 → σ2 55 w = wvl 32 (wdg (8 + w)) (wln (8 + w)) := by rw [f.fn 55 rfl]; exact t4
    have e76 : ∀ w, 0 ≤ w → w < 20 → σ2 76 w = wvl 37 (wdg w) (wln w) := by rw [f.fn 76 rfl]; exact t5
    by_cases q : (txR (σ 53) (σ 76) (σ 52 0) m 1001 x0).2.1 = 0
    · rw [if_pos q, if_pos q]
      obtain ⟨o1, o2, o3⟩ := y1 q
      obtain ⟨-, o4, o5⟩ := v2 q
      refine ⟨by omega, ⟨hz3, hzo⟩, e54, e55, e76, 1 - hh, _, _, _, _, _, _, _, o1.2.1, ?_, o4, o1.2.2.2.1, ?_, o5⟩
      · exact Or.inl ⟨rfl, CT_fs (f2.at 37 0 rfl) (f2.fn 38 rfl) (f2.fn 39 rfl) (f2.fn 40 rfl) (f2.fn 41 rfl) o2⟩
      · show σ2 37 1 = _
        rw [f2.at 37 1 rfl]; exact o3
    · rw [if_neg q, if_neg q]
      obtain ⟨o5, o6⟩ := v3 q
      have hMT1 : MTh σ1 hh N kd nu len K W := by
        unfold MTh MT at w3 ⊢
        rw [hM 71 (by decide), hM 77 (by decide), hM 78 (by decide), hM 79 (by decide), hM 80 (by decide), hM 83 (by decide), hM 84 (by decide)]
        exact w3
      refine ⟨by omega, ⟨hz3, hzo⟩, e54, e55, e76, hh, N, M, kd, nu, len, K, W, w1, ?_, o6 _ _ _ _ _ _ hMT1, w4, ?_, ?_⟩
      · rcases w2 with ⟨y, w2⟩ | ⟨y, w2⟩
        · omega
        · exact Or.inr ⟨rfl, CT_fs (f.at 44 0 rfl) (f.fn 45 rfl) (f.fn 46 rfl) (f.fn 47 rfl) (f.fn 48 rfl) w2⟩
      · show σ2 44 1 = M
        rw [f.at 44 1 rfl]; exact w5
      · rw [o5, hM 81 (by decide)]; exact w6
  · exact HB_fs (f.at 57 4 rfl) (f.at 57 5 rfl) (f.fn 13 rfl) (f.fn 14 rfl) (f.fn 17 rfl) (f.fn 18 rfl) (f.fn 22 rfl) (f.fn 23 rfl) (f.fn 29 rfl) (f.fn 30 rfl) (f.fn 58 rfl) (f.fn 62 rfl) (f.fn 63 rfl) hb
  · exact HG_fs (f.at 64 10 rfl) (f.at 64 11 rfl) (f.at 64 12 rfl) (f.at 64 13 rfl) (f.at 64 14 rfl) (f.fn 3 rfl) (f.fn 4 rfl) (f.fn 5 rfl) (f.fn 29 rfl) hg
set_option maxHeartbeats 2000000 in
theorem rc_text_60 (d : Nat) (hd : 60 ≤ d) (xs : List (Nat × Nat)) (rr : Nat) (σ : Sg) (P J : Int) (hR : RR σ 53 60 P J) : ∃ (r : Int) (σ1 σ2 : Sg) (t' dd' : Nat), Ev d 6 [(16, 0)] (Wd xs 53 60 rr σ) (0, r) (Wd xs t' dd' 60 σ1) ∧ Ev d 48 [(87, 0)] (Wd xs t' dd' 60 σ1) (0, r) (Wd xs t' dd' 60 σ2) ∧ ∃ P' J', RR σ2 t' dd' P' J' := by
  obtain ⟨⟨ra, rb, rp, rf, rj, gi, rt⟩, hb, hg⟩ := hR
  obtain ⟨t1, t2, t3, t4, t5, hh, N, M, kd, nu, len, K, W, w1, w2, w3, w4, w5, w6⟩ := id rt
  obtain ⟨⟨rb1, rb2, rb3, rb4⟩, rb5⟩ := id rb
  obtain ⟨m, hNT⟩ := NT_ex (c := σ 53) (n := σ 52 0) rb2.1
  obtain ⟨σ1, h1, hP1⟩ := sp_X9_text_60 d (by omega) xs rr σ (σ 76) (σ 52 0) m rfl rb2 hNT rb4 t3 t4 t5 t2.2
  obtain ⟨f1, z0, z1, y1⟩ := hP1
  have hM := frM f1 rfl rfl
  have hwd : ∀ a b, 0 ≤ a → a < b → b < 20 → σ 76 a ≠ σ 76 b := fun a b a0 ab b1 => by
    rw [t5 a a0 (by omega), t5 b (by omega) b1, (wd_ok a0 (by omega)).2.1, (wd_ok (show 0 ≤ b by omega) b1).2.1]
    exact wd_d a0 ab b1
  have h10 : σ 71 10 = hh := w3.1.1
  have hh1 : hh = 0 ∨ hh = 1 := w3.1.2.1
  obtain ⟨σ2, h2, hP2⟩ := sp_X10_text d (by omega) xs (if (txR (σ 53) (σ 76) (σ 52 0) m 1001 x0).2.1 = 0 then 60 else 53) (if (txR (σ 53) (σ 76) (σ 52 0) m 1001 x0).2.1 = 0 then 53 else 60) 60 σ1 (σ 52 0) m hh (by rw [hM 71 (by decide)]; exact rb1) rb2 (by rw [hM 72 (by decide), rb3]; exact hNT) (by rw [hM 71 (by decide)]; exact h10) hh1 (by rw [hM 76 (by decide)]; exact hwd)
  rw [hM 72 (by decide), hM 76 (by decide), rb3] at h2 hP2
  obtain ⟨f2, v0, v1, v2, v3⟩ := hP2
  refine ⟨_, σ1, σ2, _, _, h1, h2, P, J, ?_⟩
  have f : Fr [45, 46, 47, 48, 56, 73, 74, 75, 77, 78, 79, 80, 81, 82, 83, 84] [(52, 0), (52, 3), (52, 4), (52, 5), (52, 6), (52, 7), (52, 8), (44, 0), (44, 1), (44, 2), (71, 0), (71, 2), (71, 3), (71, 7), (71, 8), (71, 10), (71, 11), (71, 18)] σ σ2 := Fr.tr f1 f2 rfl rfl
  have hz3 : σ2 47 0 = 0 := by rw [f2.row 47 rfl]; exact z1
  have hzo : σ2 40 0 = 0 := by rw [f.row 40 rfl]; exact t2.1
  refine ⟨⟨?_, ?_, ?_, ?_, ?_, ?_, ?_⟩, ?_, ?_⟩
  · unfold Ra at ra ⊢
    rw [f.at 71 24 rfl, f.at 0 8 rfl, f.at 71 71 rfl, f.at 0 9 rfl, f.at 71 72 rfl, f.at 0 10 rfl, f.at 71 25 rfl, f.at 36 2 rfl]; exact ra
  · refine ⟨⟨?_, ?_, ?_, ?_⟩, by rw [f.at 71 65 rfl, f.at 64 2 rfl, f.fn 119 rfl, f.fn 120 rfl, f.fn 121 rfl, f.fn 65 rfl, f.fn 66 rfl, f.fn 67 rfl]; exact rb5⟩
    · rw [v0.2, f2.at 52 0 rfl, z0]
    · rw [f2.at 52 0 rfl, z0]; omega
    · rw [f.fn 72 rfl, f.fn 53 rfl]; exact rb3
    · rw [f2.at 52 0 rfl, z0]; exact fun i i0 i1 => by omega
  · unfold Rp PBs at rp ⊢
    rw [f.at 1 0 rfl, f.at 71 26 rfl, f.fn 88 rfl, f.fn 89 rfl, f.fn 90 rfl, f.fn 91 rfl, f.fn 92 rfl, f.fn 93 rfl, f.fn 94 rfl, f.fn 95 rfl, f.fn 96 rfl, f.fn 97 rfl, f.fn 2 rfl, f.fn 3 rfl, f.fn 4 rfl, f.fn 5 rfl, f.fn 6 rfl, f.fn 7 rfl, f.fn 8 rfl, f.fn 9 rfl, f.fn 10 rfl, f.fn 11 rfl]; exact rp
  · unfold Rf at rf ⊢
    rw [hsS_fn (f.fn 13 rfl), f.fn 98 rfl, f.fn 99 rfl, f.fn 101 rfl, f.fn 100 rfl, f.fn 116 rfl, f.fn 13 rfl, f.fn 14 rfl, f.fn 15 rfl, f.fn 16 rfl, f.fn 18 rfl]; exact rf
  · unfold Rj CW CB at rj ⊢
    rw [hsS_fn (f.fn 13 rfl), f.at 71 43 rfl, f.at 1 0 rfl, f.at 21 0 rfl, f.fn 102 rfl, f.fn 103 rfl, f.fn 104 rfl, f.fn 105 rfl, f.fn 106 rfl, f.fn 22 rfl, f.fn 23 rfl, f.fn 24 rfl, f.fn 25 rfl, f.fn 26 rfl, f.fn 27 rfl, f.fn 14 rfl, f.fn 17 rfl]; exact rj
  · exact GI_fs (f.fn 22 rfl) (f.fn 23 rfl) (f.fn 24 rfl) (f.fn 26 rfl) (f.fn 27 rfl) (f.fn 29 rfl) (f.fn 30 rfl) (f.fn 31 rfl) (f.fn 32 rfl) gi
  · have e54 : ∀ w, 0 ≤ w → w < 8 → σ2 54 w = wvl 32 (wdg w) (wln w) := by rw [f.fn 54 rfl]; exact t3
    have e55 : ∀ w, 0 ≤ w → w < 12 → σ2 55 w = wvl 32 (wdg (8 + w)) (wln (8 + w)) := by rw [f.fn 55 rfl]; exact t4
    have e76 : ∀ w, 0 ≤ w → w < 20 → σ2 76 w = wvl 37 (wdg w) (wln w) := by rw [f.fn 76 rfl]; exact t5
    by_cases q : (txR (σ 53) (σ 76) (σ 52 0) m 1001 x0).2.1 = 0
    · rw [if_pos q, if_pos q]
      obtain ⟨o1, o2, o3⟩ := y1 q
      obtain ⟨-, o4, o5⟩ := v2 q
      refine ⟨by omega, ⟨hzo, hz3⟩, e54, e55, e76, 1 - hh, _, _, _, _, _, _, _, o1.2.1, ?_, o4, o1.2.2.2.1, ?_, o5⟩
      · exact Or.inr ⟨rfl, CT_fs (f2.at 44 0 rfl) (f2.fn 45 rfl) (f2.fn 46 rfl) (f2.fn 47 rfl) (f2.fn 48 rfl) o2⟩
      · show σ2 44 1 = _
        rw [f2.at 44 1 rfl]; exact o3
    · rw [if_neg q, if_neg q]
      obtain ⟨o5, o6⟩ := v3 q
      have hMT1 : MTh σ1 hh N kd nu len K W := by
        unfold MTh MT at w3 ⊢
        rw [hM 71 (by decide), hM 77 (by decide), hM 78 (by decide), hM 79 (by decide), hM 80 (by decide), hM 83 (by decide), hM 84 (by decide)]
        exact w3
      refine ⟨by omega, ⟨hzo, hz3⟩, e54, e55, e76, hh, N, M, kd, nu, len, K, W, w1, ?_, o6 _ _ _ _ _ _ hMT1, w4, ?_, ?_⟩
      · rcases w2 with ⟨y, w2⟩ | ⟨y, w2⟩
        · exact Or.inl ⟨rfl, CT_fs (f.at 37 0 rfl) (f.fn 38 rfl) (f.fn 39 rfl) (f.fn 40 rfl) (f.fn 41 rfl) w2⟩
        · omega
      · show σ2 37 1 = M
        rw [f.at 37 1 rfl]; exact w5
      · rw [o5, hM 81 (by decide)]; exact w6
  · exact HB_fs (f.at 57 4 rfl) (f.at 57 5 rfl) (f.fn 13 rfl) (f.fn 14 rfl) (f.fn 17 rfl) (f.fn 18 rfl) (f.fn 22 rfl) (f.fn 23 rfl) (f.fn 29 rfl) (f.fn 30 rfl) (f.fn 58 rfl) (f.fn 62 rfl) (f.fn 63 rfl) hb
  · exact HG_fs (f.at 64 10 rfl) (f.at 64 11 rfl) (f.at 64 12 rfl) (f.at 64 13 rfl) (f.at 64 14 rfl) (f.fn 3 rfl) (f.fn 4 rfl) (f.fn 5 rfl) (f.fn 29 rfl) hg

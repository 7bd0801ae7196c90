set_option maxHeartbeats 2000000 in
theorem rc_part (d : Nat) (hd : 60 ≤ d) (xs : List (Nat × Nat)) (t dd rr : Nat) (σ : Sg) (P J : Int) (j : Int) (hR : RR σ t dd P J) : ∃ (r : Int) (σ1 σ2 : Sg), Ev d 11 [(16, 0), (0, j)] (Wd xs t dd rr σ) (0, r) (Wd xs t dd rr σ1) ∧ Ev d 83 [(87, 0), (0, j)] (Wd xs t dd rr σ1) (0, r) (Wd xs t dd rr σ2) ∧ ∃ P' J', RR σ2 t dd P' J' := by
  obtain ⟨⟨ra, rb, rp, rf, rj, gi, rt⟩, hb, hg⟩ := hR
  obtain ⟨⟨rj1, u1, u2, u3, u4, u5⟩, ⟨⟨c1, c2, c3, c4, c5⟩, c6, c7⟩, rj3, rj4⟩ := id rj
  obtain ⟨σ1, h1, n1, y1⟩ := sp_X9_part d (by omega) xs t dd rr σ j P J rj.2.1 ra.1.2
  by_cases C : (0 ≤ j ∧ j < J) ∧ σ 26 j = -1
  · obtain ⟨f1, gi1, k57, k64⟩ := y1 C
    have F1 : Fr [26, 17, 29, 30, 31, 32, 34] [(57, 4), (64, 10)] σ σ1 := Fr.tr ((((Fr.rf).up rfl).up rfl).up rfl : Fr [26, 17] [] σ _) f1 rfl rfl
    have k43 : σ1 71 43 = J := by rw [F1.at 71 43 rfl]; exact rj1
    have k106 : σ1 106 = σ 26 := by rw [F1.fn 106 rfl]; exact u5
    have k24 : σ1 71 24 = σ 0 8 := by rw [F1.at 71 24 rfl]; exact ra.1.1
    obtain ⟨σ2, h2, e2⟩ := sp_X10_part d (by omega) xs t dd rr σ1 j (by rw [k43]; exact c4)
    rw [k43, k106] at h2 e2
    rw [k24] at e2
    rw [if_pos C] at h2 e2
    rw [b2i_t C] at h1
    refine ⟨1, σ1, σ2, h1, h2, P, J, ?_⟩
    have f2 : Fr [106] [(71, 0)] σ1 σ2 := by rw [e2]; exact ((Fr.rf).up rfl).up rfl
    have f : Fr [26, 17, 29, 30, 31, 32, 34, 106] [(57, 4), (64, 10), (71, 0)] σ σ2 := Fr.tr F1 f2 rfl rfl
    have q26 : σ2 26 = fup (σ 26) j (σ 0 8) := by rw [f2.fn 26 rfl, f1.fn 26 rfl]; funext i; simp [up2, fup]
    have q106 : σ2 106 = fup (σ 26) j (σ 0 8) := by rw [e2]; funext i; simp [up2, fup, k106]
    have q17 : ∀ i, σ2 17 i = if i = σ 23 j then -1 else if i = σ 22 j then -1 else σ 17 i := fun i => by
      rw [f2.row 17 rfl, f1.row 17 rfl]
      by_cases w : i = σ 23 j
      · rw [if_pos w, w]; simp [up2]
      · rw [if_neg w]
        by_cases v : i = σ 22 j
        · rw [if_pos v, v]; simp [up2]
        · rw [if_neg v]; simp [up2, w, v]
    have hs2 : hsS σ2 = hsS σ := hsS_fn (f.fn 13 rfl)
    refine ⟨⟨?_, ?_, ?_, ?_, ?_, ?_, ?_⟩, ?_, ?_⟩
    · unfold Ra at ra ⊢
      rw [f.at 71 24 rfl, f.at 0 8 rfl, f.at 71 71 rfl, f.at 0 9 rfl, f.at 71 72 rfl, f.at 0 10 rfl, f.at 71 25 rfl, f.at 36 2 rfl]; exact ra
    · unfold Rb at rb ⊢
      rw [f.at 71 2 rfl, f.at 52 0 rfl, f.at 71 65 rfl, f.at 64 2 rfl, f.fn 72 rfl, f.fn 53 rfl, f.fn 119 rfl, f.fn 120 rfl, f.fn 121 rfl, f.fn 65 rfl, f.fn 66 rfl, f.fn 67 rfl]; exact rb
    · unfold Rp PBs at rp ⊢
      rw [f.at 1 0 rfl, f.at 71 26 rfl, f.fn 88 rfl, f.fn 89 rfl, f.fn 90 rfl, f.fn 91 rfl, f.fn 92 rfl, f.fn 93 rfl, f.fn 94 rfl, f.fn 95 rfl, f.fn 96 rfl, f.fn 97 rfl, f.fn 2 rfl, f.fn 3 rfl, f.fn 4 rfl, f.fn 5 rfl, f.fn 6 rfl, f.fn 7 rfl, f.fn 8 rfl, f.fn 9 rfl, f.fn 10 rfl, f.fn 11 rfl]; exact rp
    · unfold Rf at rf ⊢
      rw [hsS_fn (f.fn 13 rfl), f.fn 98 rfl, f.fn 99 rfl, f.fn 101 rfl, f.fn 100 rfl, f.fn 116 rfl, f.fn 13 rfl, f.fn 14 rfl, f.fn 15 rfl, f.fn 16 rfl, f.fn 18 rfl]; exact rf
    · unfold Rj CW CB
      rw [hs2, f.at 71 43 rfl, f.fn 102 rfl, f.fn 103 rfl, f.fn 104 rfl, f.fn 105 rfl, q106, f.fn 22 rfl, f.fn 23 rfl, f.fn 24 rfl, f.fn 25 rfl, q26, f.fn 27 rfl, f.fn 14 rfl, f.at 1 0 rfl, f.at 21 0 rfl]
      have h8 := ra.1.2
      refine ⟨⟨rj1, u1, u2, u3, u4, rfl⟩, ⟨⟨c1, c2, c3, c4, c5⟩, c6, fun i i0 i1 => ?_⟩, fun i i0 i1 => ?_, fun g g0 g1 hg1 => ?_⟩
      · have := c7 i i0 i1
        by_cases w : i = j
        · rw [w, fup_s]; rw [w] at this; omega
        · rw [fup_o w]; exact this
      · obtain ⟨r1, r2, r3, r4, r5⟩ := rj3 i i0 i1
        by_cases w : i = j
        · refine ⟨r1, r2, r3, ?_, ?_⟩
          · rw [w, fup_s]; rw [w] at r4; omega
          · rw [w, fup_s]; intro v; omega
        · rw [fup_o w]
          refine ⟨r1, r2, r3, r4, fun v => ?_⟩
          have h5 := r5 v
          obtain ⟨s1, s2, s3, s4, s5⟩ := rj3 j C.1.1 C.1.2
          have h6 := s5 C.2
          rw [q17, q17, if_neg (fun y => w (by rw [← h5.1, y, h6.2])), if_neg (fun y => w (by rw [← h5.1, y, h6.1])), if_neg (fun y => w (by rw [← h5.2, y, h6.2])), if_neg (fun y => w (by rw [← h5.2, y, h6.1]))]
          exact h5
      · rw [q17]
        by_cases w : g = σ 23 j
        · rw [if_pos w]; exact Or.inl rfl
        · rw [if_neg w]
          by_cases v : g = σ 22 j
          · rw [if_pos v]; exact Or.inl rfl
          · rw [if_neg v]
            rcases rj4 g g0 g1 hg1 with y | y
            · exact Or.inl y
            · refine Or.inr ⟨y.1, ?_, y.2.2⟩
              have hne : σ 17 g ≠ j := fun u => by
                rcases y.2.2 with k | k
                · rw [u] at k; exact v k.symm
                · rw [u] at k; exact w k.symm
              rw [fup_o hne]; exact y.2.1
    · exact GI_fs (f2.fn 22 rfl) (f2.fn 23 rfl) (f2.fn 24 rfl) (f2.fn 26 rfl) (f2.fn 27 rfl) (f2.fn 29 rfl) (f2.fn 30 rfl) (f2.fn 31 rfl) (f2.fn 32 rfl) gi1
    · exact Rt_fs (f.at 37 0 rfl) (f.at 44 0 rfl) (f.at 37 1 rfl) (f.at 44 1 rfl) (f.at 71 10 rfl) (f.fn 38 rfl) (f.fn 39 rfl) (f.fn 40 rfl) (f.fn 41 rfl) (f.fn 45 rfl) (f.fn 46 rfl) (f.fn 47 rfl) (f.fn 48 rfl) (f.fn 54 rfl) (f.fn 55 rfl) (f.fn 76 rfl) (f.fn 77 rfl) (f.fn 78 rfl) (f.fn 79 rfl) (f.fn 80 rfl) (f.fn 81 rfl) (f.fn 83 rfl) (f.fn 84 rfl) rt
    · exact Or.inl (by rw [f2.at 57 4 rfl]; exact k57)
    · exact Or.inl (by rw [f2.at 64 10 rfl]; exact k64)
  · have e1 := n1 C
    rw [e1] at h1
    obtain ⟨σ2, h2, e2⟩ := sp_X10_part d (by omega) xs t dd rr σ j (by rw [rj1]; exact c4)
    rw [rj1, u5] at h2 e2
    rw [if_neg C] at h2 e2
    rw [b2i_f C] at h1
    refine ⟨0, σ, σ2, h1, h2, P, J, ?_⟩
    have f : Fr [] [(71, 0)] σ σ2 := by rw [e2]; exact (Fr.rf).up rfl
    refine ⟨⟨?_, ?_, ?_, ?_, ?_, ?_, ?_⟩, ?_, ?_⟩
    · unfold Ra at ra ⊢
      rw [f.at 71 24 rfl, f.at 0 8 rfl, f.at 71 71 rfl, f.at 0 9 rfl, f.at 71 72 rfl, f.at 0 10 rfl, f.at 71 25 rfl, f.at 36 2 rfl]; exact ra
    · unfold Rb at rb ⊢
      rw [f.at 71 2 rfl, f.at 52 0 rfl, f.at 71 65 rfl, f.at 64 2 rfl, f.fn 72 rfl, f.fn 53 rfl, f.fn 119 rfl, f.fn 120 rfl, f.fn 121 rfl, f.fn 65 rfl, f.fn 66 rfl, f.fn 67 rfl]; exact rb
    · unfold Rp PBs at rp ⊢
      rw [f.at 1 0 rfl, f.at 71 26 rfl, f.fn 88 rfl, f.fn 89 rfl, f.fn 90 rfl, f.fn 91 rfl, f.fn 92 rfl, f.fn 93 rfl, f.fn 94 rfl, f.fn 95 rfl, f.fn 96 rfl, f.fn 97 rfl, f.fn 2 rfl, f.fn 3 rfl, f.fn 4 rfl, f.fn 5 rfl, f.fn 6 rfl, f.fn 7 rfl, f.fn 8 rfl, f.fn 9 rfl, f.fn 10 rfl, f.fn 11 rfl]; exact rp
    · unfold Rf at rf ⊢
      rw [hsS_fn (f.fn 13 rfl), f.fn 98 rfl, f.fn 99 rfl, f.fn 101 rfl, f.fn 100 rfl, f.fn 116 rfl, f.fn 13 rfl, f.fn 14 rfl, f.fn 15 rfl, f.fn 16 rfl, f.fn 18 rfl]; exact rf
    · unfold Rj CW CB at rj ⊢
      rw [hsS_fn (f.fn 13 rfl), f.at 71 43 rfl, f.at 1 0 rfl, f.at 21 0 rfl, f.fn 102 rfl, f.fn 103 rfl, f.fn 104 rfl, f.fn 105 rfl, f.fn 106 rfl, f.fn 22 rfl, f.fn 23 rfl, f.fn 24 rfl, f.fn 25 rfl, f.fn 26 rfl, f.fn 27 rfl, f.fn 14 rfl, f.fn 17 rfl]; exact rj
    · exact GI_fs (f.fn 22 rfl) (f.fn 23 rfl) (f.fn 24 rfl) (f.fn 26 rfl) (f.fn 27 rfl) (f.fn 29 rfl) (f.fn 30 rfl) (f.fn 31 rfl) (f.fn 32 rfl) gi
    · exact Rt_fs (f.at 37 0 rfl) (f.at 44 0 rfl) (f.at 37 1 rfl) (f.at 44 1 rfl) (f.at 71 10 rfl) (f.fn 38 rfl) (f.fn 39 rfl) (f.fn 40 rfl) (f.fn 41 rfl) (f.fn 45 rfl) (f.fn 46 rfl) (f.fn 47 rfl) (f.fn 48 rfl) (f.fn 54 rfl) (f.fn 55 rfl) (f.fn 76 rfl) (f.fn 77 rfl) (f.fn 78 rfl) (f.fn 79 rfl) (f.fn 80 rfl) (f.fn 81 rfl) (f.fn 83 rfl) (f.fn 84 rfl) rt
    · exact HB_fs (f.at 57 4 rfl) (f.at 57 5 rfl) (f.fn 13 rfl) (f.fn 14 rfl) (f.fn 17 rfl) (f.fn 18 rfl) (f.fn 22 rfl) (f.fn 23 rfl) (f.fn 29 rfl) (f.fn 30 rfl) (f.fn 58 rfl) (f.fn 62 rfl) (f.fn 63 rfl) hb
    · exact HG_fs (f.at 64 10 rfl) (f.at 64 11 rfl) (f.at 64 12 rfl) (f.at 64 13 rfl) (f.at 64 14 rfl) (f.fn 3 rfl) (f.fn 4 rfl) (f.fn 5 rfl) (f.fn 29 rfl) hg
set_option maxHeartbeats 2000000 in
theorem rc_face (d : Nat) (hd : 60 ≤ d) (xs : List (Nat × Nat)) (t dd rr : Nat) (σ : Sg) (P J : Int) (p a r q : Int) (hR : RR σ t dd P J) : ∃ (r0 : Int) (σ1 σ2 : Sg), Ev d 4 [(16, 0), (0, p), (0, a), (1, r), (0, q)] (Wd xs t dd rr σ) (0, r0) (Wd xs t dd rr σ1) ∧ Ev d 69 [(87, 0), (0, p), (0, a), (1, r), (0, q)] (Wd xs t dd rr σ1) (0, r0) (Wd xs t dd rr σ2) ∧ ∃ P' J', RR σ2 t dd P' J' := by
  obtain ⟨⟨ra, rb, rp, rf, rj, gi, rt⟩, hb, hg⟩ := hR
  obtain ⟨⟨rp1, rp2, rp3, rp4⟩, -⟩ := id rp
  obtain ⟨⟨rf1, rf2, rf3, rf9⟩, rf4, rf5, rf6, rf7, rf8⟩ := id rf
  obtain ⟨σ1, h1, y1, n1⟩ := sp_X9_face d (by omega) xs t dd rr σ p a r q P rp1 rp4 rf4
  by_cases C : ((0 ≤ p ∧ p < P) ∧ (0 ≤ a ∧ a ≤ 3) ∧ (0 ≤ q ∧ q ≤ 7)) ∧ rimOk r = 1 ∧ ¬ (a = 1 ∧ bel (σ 14) p (σ 13 p) = 1) ∧ σ 13 p < 8
  · have e1 := y1 C
    have F1 : Fr [14, 15, 16, 17, 13] [(57, 4)] σ σ1 := by rw [e1]; exact ((((((Fr.rf).up rfl).up rfl).up rfl).up rfl).up rfl).up rfl
    obtain ⟨σ2, h2, -, y2⟩ := sp_X10_face d (by omega) xs t dd rr σ1 p a r q P (by rw [F1.at 71 26 rfl]; exact rp2) rp4 (by rw [F1.fn 98 rfl, rf1]; exact rf4)
    rw [F1.fn 98 rfl, F1.fn 99 rfl, rf1, rf2] at h2 y2
    rw [if_pos C] at h1 h2
    obtain ⟨f2, e100⟩ := y2 C
    refine ⟨σ 13 p, σ1, σ2, h1, h2, P, J, ?_⟩
    have F2 : Fr [98, 99, 100, 101] [(71, 0)] σ1 σ2 := Fr.tr (((((Fr.rf).up rfl).up rfl).up rfl).up rfl : Fr [99, 101, 98] [(71, 0)] σ1 _) f2 rfl rfl
    have f : Fr [13, 14, 15, 16, 17, 98, 99, 100, 101] [(57, 4), (71, 0)] σ σ2 := Fr.tr F1 F2 rfl rfl
    have hp := C.1.1
    have hk := rf4 p hp.1 hp.2
    have hk8 : σ 13 p < 8 := C.2.2.2
    generalize hk0 : σ 13 p = k at *
    have q13 : σ2 13 = fup (σ 13) p (k + 1) := by rw [F2.fn 13 rfl, e1]; funext i; simp [up2, fup]
    have q14 : σ2 14 = fup (σ 14) (p * 8 + k) a := by rw [F2.fn 14 rfl, e1]; funext i; simp [up2, fup]
    have q15 : σ2 15 = fup (σ 15) (p * 8 + k) r := by rw [F2.fn 15 rfl, e1]; funext i; simp [up2, fup]
    have q16 : σ2 16 = fup (σ 16) (p * 8 + k) q := by rw [F2.fn 16 rfl, e1]; funext i; simp [up2, fup]
    have q17 : σ2 17 = fup (σ 17) (p * 8 + k) (-1) := by rw [F2.fn 17 rfl, e1]; funext i; simp [up2, fup]
    have q98 : σ2 98 = fup (σ 13) p (k + 1) := by rw [f2.fn 98 rfl]; funext i; simp [up2, fup]; rw [F1.fn 98 rfl, rf1]
    have q99 : σ2 99 = fup (σ 14) (8 * p + k) a := by rw [f2.fn 99 rfl]; funext i; simp [up2, fup]; rw [F1.fn 99 rfl, rf2]
    have q101 : σ2 101 = fup (σ 16) (8 * p + k) q := by rw [f2.fn 101 rfl]; funext i; simp [up2, fup]; rw [F1.fn 101 rfl, rf3]
    have e8 : p * 8 + k = 8 * p + k := by omega
    rw [e8] at q14 q15 q16 q17
    have hsn : ∀ g, hsS σ2 g = 1 ↔ hsS σ g = 1 ∨ g = 8 * p + k := fun g => by
      rw [hs_1, hs_1, q13]
      by_cases w : g / 8 = p
      · rw [w, fup_s, hk0]; omega
      · rw [fup_o w]; omega
    have hno : ¬ hsS σ (8 * p + k) = 1 := fun w => by
      have := hs_1.mp w
      rw [show (8 * p + k) / 8 = p by omega, show (8 * p + k) % 8 = k by omega, hk0] at this
      omega
    refine ⟨⟨?_, ?_, ?_, ?_, ?_, ?_, ?_⟩, ?_, ?_⟩
    · unfold Ra at ra ⊢
      rw [f.at 71 24 rfl, f.at 0 8 rfl, f.at 71 71 rfl, f.at 0 9 rfl, f.at 71 72 rfl, f.at 0 10 rfl, f.at 71 25 rfl, f.at 36 2 rfl]; exact ra
    · unfold Rb at rb ⊢
      rw [f.at 71 2 rfl, f.at 52 0 rfl, f.at 71 65 rfl, f.at 64 2 rfl, f.fn 72 rfl, f.fn 53 rfl, f.fn 119 rfl, f.fn 120 rfl, f.fn 121 rfl, f.fn 65 rfl, f.fn 66 rfl, f.fn 67 rfl]; exact rb
    · unfold Rp PBs at rp ⊢
      rw [f.at 1 0 rfl, f.at 71 26 rfl, f.fn 88 rfl, f.fn 89 rfl, f.fn 90 rfl, f.fn 91 rfl, f.fn 92 rfl, f.fn 93 rfl, f.fn 94 rfl, f.fn 95 rfl, f.fn 96 rfl, f.fn 97 rfl, f.fn 2 rfl, f.fn 3 rfl, f.fn 4 rfl, f.fn 5 rfl, f.fn 6 rfl, f.fn 7 rfl, f.fn 8 rfl, f.fn 9 rfl, f.fn 10 rfl, f.fn 11 rfl]; exact rp
    · refine ⟨⟨by rw [q98, q13], by rw [q99, q14], by rw [q101, q16], fun i => by
        rw [e100, F1.fn 100 rfl]
        split
        · have := byt_bd (r := r) (k := i - 8 * (8 * p + k))
          omega
        · exact rf9 i⟩, fun i i0 i1 => ?_, fun i i0 i1 => ?_, fun g g0 g1 => ?_, fun g i g0 g1 i0 i1 => ?_, fun g i g0 g1 i0 i1 hn => ?_⟩
      · rw [q13]
        by_cases w : i = p
        · rw [w, fup_s]; omega
        · rw [fup_o w]; exact rf4 i i0 i1
      · rw [q13, fup_o (by omega)]; exact rf5 i i0 i1
      · rw [q14, q16]
        by_cases w : g = 8 * p + k
        · rw [w, fup_s, fup_s]; omega
        · rw [fup_o w, fup_o w]; exact rf6 g g0 g1
      · have h7 := rf7 g i g0 g1 i0 i1
        rw [e100, q15, f.fn 116 rfl, f.fn 18 rfl, F1.fn 100 rfl]
        refine ⟨?_, h7.2⟩
        by_cases w : g = 8 * p + k
        · rw [if_pos (by omega), w, fup_s]; congr 1; omega
        · rw [if_neg (by omega), fup_o w]; exact h7.1
      · rw [f.fn 18 rfl] at hn
        have := rf8 g i g0 g1 i0 i1 hn
        exact ⟨(hsn _).mpr (Or.inl this.1), (hsn _).mpr (Or.inl this.2)⟩
    · obtain ⟨rj1, ⟨⟨c1, c2, c3, c4, c5⟩, c6, c7⟩, rj3, rj4⟩ := id rj
      unfold Rj CW CB
      rw [f.at 71 43 rfl, f.fn 102 rfl, f.fn 103 rfl, f.fn 104 rfl, f.fn 105 rfl, f.fn 106 rfl, f.fn 22 rfl, f.fn 23 rfl, f.fn 24 rfl, f.fn 25 rfl, f.fn 26 rfl, f.fn 27 rfl, q14, q17, f.at 1 0 rfl, f.at 21 0 rfl]
      refine ⟨rj1, ⟨⟨c1, c2, c3, c4, c5⟩, c6, c7⟩, fun i i0 i1 => ?_, fun g g0 g1 hg1 => ?_⟩
      · obtain ⟨r1, r2, r3, r4, r5⟩ := rj3 i i0 i1
        have n1 : σ 22 i ≠ 8 * p + k := fun w => hno (by rw [← w]; exact r1.1)
        have n2 : σ 23 i ≠ 8 * p + k := fun w => hno (by rw [← w]; exact r1.2.1)
        rw [fup_o n1, fup_o n2, fup_o n1, fup_o n2]
        exact ⟨⟨(hsn _).mpr (Or.inl r1.1), (hsn _).mpr (Or.inl r1.2.1), r1.2.2⟩, r2, r3, r4, r5⟩
      · by_cases w : g = 8 * p + k
        · rw [w, fup_s]; exact Or.inl rfl
        · rw [fup_o w]
          rcases (hsn g).mp hg1 with y | y
          · exact rj4 g g0 g1 y
          · exact absurd y w
    · exact GI_fs (f.fn 22 rfl) (f.fn 23 rfl) (f.fn 24 rfl) (f.fn 26 rfl) (f.fn 27 rfl) (f.fn 29 rfl) (f.fn 30 rfl) (f.fn 31 rfl) (f.fn 32 rfl) gi
    · exact Rt_fs (f.at 37 0 rfl) (f.at 44 0 rfl) (f.at 37 1 rfl) (f.at 44 1 rfl) (f.at 71 10 rfl) (f.fn 38 rfl) (f.fn 39 rfl) (f.fn 40 rfl) (f.fn 41 rfl) (f.fn 45 rfl) (f.fn 46 rfl) (f.fn 47 rfl) (f.fn 48 rfl) (f.fn 54 rfl) (f.fn 55 rfl) (f.fn 76 rfl) (f.fn 77 rfl) (f.fn 78 rfl) (f.fn 79 rfl) (f.fn 80 rfl) (f.fn 81 rfl) (f.fn 83 rfl) (f.fn 84 rfl) rt
    · exact Or.inl (by rw [F2.at 57 4 rfl, e1]; simp [up2])
    · exact HG_fs (f.at 64 10 rfl) (f.at 64 11 rfl) (f.at 64 12 rfl) (f.at 64 13 rfl) (f.at 64 14 rfl) (f.fn 3 rfl) (f.fn 4 rfl) (f.fn 5 rfl) (f.fn 29 rfl) hg
  · have F1 : Fr [] [(57, 4)] σ σ1 := by
      rcases n1 C with w | w
      · rw [w]; exact Fr.rf
      · rw [w]; exact (Fr.rf).up rfl
    obtain ⟨σ2, h2, n2, -⟩ := sp_X10_face d (by omega) xs t dd rr σ1 p a r q P (by rw [F1.at 71 26 rfl]; exact rp2) rp4 (by rw [F1.fn 98 rfl, rf1]; exact rf4)
    rw [F1.fn 98 rfl, F1.fn 99 rfl, rf1, rf2] at h2 n2
    rw [if_neg C] at h1 h2
    have e2 := n2 C
    refine ⟨-1, σ1, σ2, h1, h2, P, J, ?_⟩
    have F2 : Fr [] [(71, 0)] σ1 σ2 := by rw [e2]; exact (Fr.rf).up rfl
    have f : Fr [] [(57, 4), (71, 0)] σ σ2 := Fr.tr F1 F2 rfl rfl
    have hb2 : HB σ2 P J := by
      rcases n1 C with w | w
      · rw [w] at F2
        exact HB_fs (F2.at 57 4 rfl) (F2.at 57 5 rfl) (F2.fn 13 rfl) (F2.fn 14 rfl) (F2.fn 17 rfl) (F2.fn 18 rfl) (F2.fn 22 rfl) (F2.fn 23 rfl) (F2.fn 29 rfl) (F2.fn 30 rfl) (F2.fn 58 rfl) (F2.fn 62 rfl) (F2.fn 63 rfl) hb
      · exact Or.inl (by rw [F2.at 57 4 rfl, w]; simp [up2])
    refine ⟨⟨?_, ?_, ?_, ?_, ?_, ?_, ?_⟩, ?_, ?_⟩
    · unfold Ra at ra ⊢
      rw [f.at 71 24 rfl, f.at 0 8 rfl, f.at 71 71 rfl, f.at 0 9 rfl, f.at 71 72 rfl, f.at 0 10 rfl, f.at 71 25 rfl, f.at 36 2 rfl]; exact ra
    · unfold Rb at rb ⊢
      rw [f.at 71 2 rfl, f.at 52 0 rfl, f.at 71 65 rfl, f.at 64 2 rfl, f.fn 72 rfl, f.fn 53 rfl, f.fn 119 rfl, f.fn 120 rfl, f.fn 121 rfl, f.fn 65 rfl, f.fn 66 rfl, f.fn 67 rfl]; exact rb
    · unfold Rp PBs at rp ⊢
      rw [f.at 1 0 rfl, f.at 71 26 rfl, f.fn 88 rfl, f.fn 89 rfl, f.fn 90 rfl, f.fn 91 rfl, f.fn 92 rfl, f.fn 93 rfl, f.fn 94 rfl, f.fn 95 rfl, f.fn 96 rfl, f.fn 97 rfl, f.fn 2 rfl, f.fn 3 rfl, f.fn 4 rfl, f.fn 5 rfl, f.fn 6 rfl, f.fn 7 rfl, f.fn 8 rfl, f.fn 9 rfl, f.fn 10 rfl, f.fn 11 rfl]; exact rp
    · unfold Rf at rf ⊢
      rw [hsS_fn (f.fn 13 rfl), f.fn 98 rfl, f.fn 99 rfl, f.fn 101 rfl, f.fn 100 rfl, f.fn 116 rfl, f.fn 13 rfl, f.fn 14 rfl, f.fn 15 rfl, f.fn 16 rfl, f.fn 18 rfl]; exact rf
    · unfold Rj CW CB at rj ⊢
      rw [hsS_fn (f.fn 13 rfl), f.at 71 43 rfl, f.at 1 0 rfl, f.at 21 0 rfl, f.fn 102 rfl, f.fn 103 rfl, f.fn 104 rfl, f.fn 105 rfl, f.fn 106 rfl, f.fn 22 rfl, f.fn 23 rfl, f.fn 24 rfl, f.fn 25 rfl, f.fn 26 rfl, f.fn 27 rfl, f.fn 14 rfl, f.fn 17 rfl]; exact rj
    · exact GI_fs (f.fn 22 rfl) (f.fn 23 rfl) (f.fn 24 rfl) (f.fn 26 rfl) (f.fn 27 rfl) (f.fn 29 rfl) (f.fn 30 rfl) (f.fn 31 rfl) (f.fn 32 rfl) gi
    · exact Rt_fs (f.at 37 0 rfl) (f.at 44 0 rfl) (f.at 37 1 rfl) (f.at 44 1 rfl) (f.at 71 10 rfl) (f.fn 38 rfl) (f.fn 39 rfl) (f.fn 40 rfl) (f.fn 41 rfl) (f.fn 45 rfl) (f.fn 46 rfl) (f.fn 47 rfl) (f.fn 48 rfl) (f.fn 54 rfl) (f.fn 55 rfl) (f.fn 76 rfl) (f.fn 77 rfl) (f.fn 78 rfl) (f.fn 79 rfl) (f.fn 80 rfl) (f.fn 81 rfl) (f.fn 83 rfl) (f.fn 84 rfl) rt
    · exact hb2
    · exact HG_fs (f.at 64 10 rfl) (f.at 64 11 rfl) (f.at 64 12 rfl) (f.at 64 13 rfl) (f.at 64 14 rfl) (f.fn 3 rfl) (f.fn 4 rfl) (f.fn 5 rfl) (f.fn 29 rfl) hg

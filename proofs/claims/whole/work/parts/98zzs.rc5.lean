set_option maxHeartbeats 1000000 in
theorem rc_seat (d : Nat) (hd : 60 ≤ d) (xs : List (Nat × Nat)) (t dd rr : Nat) (σ : Sg) (P J : Int) (p n w : Int) (hR : RR σ t dd P J) : ∃ (r1 : pV) (v : Int) (σ1 σ2 : Sg), Ev d 19 [(16, 0), (0, p), (0, n), (0, w)] (Wd xs t dd rr σ) r1 (Wd xs t dd rr σ1) ∧ Ev d 116 [(87, 0), (0, p), (0, n), (0, w)] (Wd xs t dd rr σ1) (0, v) (Wd xs t dd rr σ2) ∧ ((r1 = (0, v) ∧ σ2 71 0 = 0) ∨ (r1 = (7, 0) ∧ σ2 71 0 = 1)) ∧ ∃ P' J', RR σ2 t dd P' J' := by
  obtain ⟨⟨ra, rb, rp, rf, rj, gi, rt⟩, hb, hg⟩ := hR
  have hMB := MB_of rp rj
  obtain ⟨⟨rp1, rp2, rp3, rp4⟩, rpr, rpb, -⟩ := id rp
  have hco : ∀ p, 0 ≤ p → p < P → 0 ≤ σ 29 p ∧ σ 29 p < P := fun p p0 p1 => by rw [(gi p p0 p1).1]; exact ((HHc_of rj).2.1 p p0 p1).1
  have hX : XB (σ 4) (σ 5) (σ 3) P := fun p p0 p1 => ⟨(rpb p p0 p1).2.1, (rpb p p0 p1).2.2.1, (rpb p p0 p1).1⟩
  obtain ⟨σ1, h1, f1, g1⟩ := sp_X9_seat d (by omega) xs t dd rr σ p n w P rp1 ⟨rp3, rp4⟩ hX hg hco
  have hM := frM f1 rfl rfl
  obtain ⟨⟨m1, m2, m3, m4⟩, ⟨m5, m6, m7, m8⟩, m9⟩ := M_c hM
  have hMB1 : MB σ1 P J := by
    unfold MB at hMB ⊢
    rw [hM 71 (by decide), hM 102 (by decide), hM 103 (by decide)]; exact hMB
  obtain ⟨σ2, h2, f2, t0⟩ := sp_X10_seat d (by omega) xs t dd rr σ1 p n w P J hMB1 (by rw [hM 90 (by decide), hM 91 (by decide), hM 89 (by decide), rpr.2.1, rpr.2.2.1, rpr.2.2.2.1]; exact hX)
  rw [m7, m1, eq_cob rj] at h2
  have f : Fr [68, 69, 70, 107, 111, 112] [(64, 9), (64, 10), (64, 11), (64, 12), (64, 13), (64, 14), (64, 15), (64, 16), (71, 0), (71, 62), (71, 63), (71, 64)] σ σ2 := Fr.tr f1 f2 rfl rfl
  refine ⟨_, _, σ1, σ2, h1, h2, ?_, P, J, ?_⟩
  · by_cases C : (0 ≤ p ∧ p < P) ∧ (1 ≤ n ∧ n ≤ 2) ∧ 0 ≤ w ∧ w ≤ 2
    · rw [if_pos C] at t0
      rw [if_pos C, if_pos C]
      refine Or.inl ⟨?_, t0⟩
      rw [eq_st rp rj gi, (gi p C.1.1 C.1.2).1]
    · rw [if_neg C] at t0
      rw [if_neg C, if_neg C]
      exact Or.inr ⟨rfl, t0⟩
  refine ⟨⟨?_, ?_, ?_, ?_, ?_, ?_, ?_⟩, ?_, ?_⟩
  · unfold Ra at ra ⊢
    rw [f.at 71 24 rfl, f.at 0 8 rfl, f.at 71 71 rfl, f.at 0 9 rfl, f.at 71 72 rfl, f.at 0 10 rfl, f.at 71 25 rfl, f.at 36 2 rfl]; exact ra
  · unfold Rb at rb ⊢
    rw [f.at 71 2 rfl, f.at 52 0 rfl, f.at 71 65 rfl, f.at 64 2 rfl, f.fn 72 rfl, f.fn 53 rfl, f.fn 119 rfl, f.fn 120 rfl, f.fn 121 rfl, f.fn 65 rfl, f.fn 66 rfl, f.fn 67 rfl]; exact rb
  · unfold Rp PBs at rp ⊢
    rw [f.at 1 0 rfl, f.at 71 26 rfl, f.fn 88 rfl, f.fn 89 rfl, f.fn 90 rfl, f.fn 91 rfl, f.fn 92 rfl, f.fn 93 rfl, f.fn 94 rfl, f.fn 95 rfl, f.fn 96 rfl, f.fn 97 rfl, f.fn 2 rfl, f.fn 3 rfl, f.fn 4 rfl, f.fn 5 rfl, f.fn 6 rfl, f.fn 7 rfl, f.fn 8 rfl, f.fn 9 rfl, f.fn 10 rfl, f.fn 11 rfl]; exact rp
  · unfold Rf at rf ⊢
    rw [hsS_fn (f.fn 13 rfl), f.fn 98 rfl, f.fn 99 rfl, f.fn 101 rfl, f.fn 100 rfl, f.fn 116 rfl, f.fn 13 rfl, f.fn 14 rfl, f.fn 15 rfl, f.fn 16 rfl, f.fn 18 rfl]; exact rf
  · unfold Rj CW CB at rj ⊢
    rw [hsS_fn (f.fn 13 rfl), f.at 71 43 rfl, f.at 1 0 rfl, f.at 21 0 rfl, f.fn 102 rfl, f.fn 103 rfl, f.fn 104 rfl, f.fn 105 rfl, f.fn 106 rfl, f.fn 22 rfl, f.fn 23 rfl, f.fn 24 rfl, f.fn 25 rfl, f.fn 26 rfl, f.fn 27 rfl, f.fn 14 rfl, f.fn 17 rfl]; exact rj
  · exact GI_fs (f.fn 22 rfl) (f.fn 23 rfl) (f.fn 24 rfl) (f.fn 26 rfl) (f.fn 27 rfl) (f.fn 29 rfl) (f.fn 30 rfl) (f.fn 31 rfl) (f.fn 32 rfl) gi
  · exact Rt_fs (f.at 37 0 rfl) (f.at 44 0 rfl) (f.at 37 1 rfl) (f.at 44 1 rfl) (f.at 71 10 rfl) (f.fn 38 rfl) (f.fn 39 rfl) (f.fn 40 rfl) (f.fn 41 rfl) (f.fn 45 rfl) (f.fn 46 rfl) (f.fn 47 rfl) (f.fn 48 rfl) (f.fn 54 rfl) (f.fn 55 rfl) (f.fn 76 rfl) (f.fn 77 rfl) (f.fn 78 rfl) (f.fn 79 rfl) (f.fn 80 rfl) (f.fn 81 rfl) (f.fn 83 rfl) (f.fn 84 rfl) rt
  · exact HB_fs (f.at 57 4 rfl) (f.at 57 5 rfl) (f.fn 13 rfl) (f.fn 14 rfl) (f.fn 17 rfl) (f.fn 18 rfl) (f.fn 22 rfl) (f.fn 23 rfl) (f.fn 29 rfl) (f.fn 30 rfl) (f.fn 58 rfl) (f.fn 62 rfl) (f.fn 63 rfl) hb
  · exact HG_fs (f2.at 64 10 rfl) (f2.at 64 11 rfl) (f2.at 64 12 rfl) (f2.at 64 13 rfl) (f2.at 64 14 rfl) (f2.fn 3 rfl) (f2.fn 4 rfl) (f2.fn 5 rfl) (f2.fn 29 rfl) g1
set_option maxHeartbeats 1000000 in
theorem rc_meet (d : Nat) (hd : 60 ≤ d) (xs : List (Nat × Nat)) (t dd rr : Nat) (σ : Sg) (P J : Int) (a b w : Int) (hab : a < 2147483648 ∧ b < 2147483648) (hR : RR σ t dd P J) : ∃ (r1 : pV) (v : Int) (σ1 σ2 : Sg), Ev d 8 [(16, 0), (0, a), (0, b), (0, w)] (Wd xs t dd rr σ) r1 (Wd xs t dd rr σ1) ∧ Ev d 78 [(87, 0), (0, a), (0, b), (0, w)] (Wd xs t dd rr σ1) (0, v) (Wd xs t dd rr σ2) ∧ ((r1 = (0, v) ∧ σ2 71 0 = 0) ∨ (r1 = (7, 0) ∧ σ2 71 0 = 1)) ∧ ∃ P' J', RR σ2 t dd P' J' := by
  obtain ⟨⟨ra, rb, rp, rf, rj, gi, rt⟩, hb, hg⟩ := hR
  obtain ⟨t1, t2, t3, t4, t5, hh, N, M, kd, nu, len, K, W, w1, w2, w3, w4, w5, w6⟩ := id rt
  obtain ⟨⟨rp1, rp2, rp3, rp4⟩, rpr, rpb, rps, -⟩ := id rp
  obtain ⟨⟨rf1, rf2, rf3, rf9⟩, rf4, rf5, rf6, rf7, rf8⟩ := id rf
  have hJS : JS σ t P N kd nu len K W := ⟨⟨rp3, rp4⟩, rpb, fun f f0 f1 => (rf6 f f0 (by omega)).2, ra.2.2.2, w1, w2, w4⟩
  have hJM : JM σ P hh N kd nu len K W := by
    refine ⟨rp2, ⟨rp3, rp4⟩, ?_, ?_, fun i i0 i1 => ?_, ?_, ?_, w1, w3.1, w4⟩
    · unfold PBm PBs at *
      obtain ⟨u1, u2, u3, u4, u5, u6, u7, u8, u9, u10⟩ := rpr
      rw [u2, u3, u4, u5, u6, u7, u8, u9, u10]; exact rpb
    · rw [rf3]; exact fun f f0 f1 => (rf6 f f0 (by omega)).2
    · have := (rf7 (i / 8) (i % 8) (by omega) (by omega) (by omega) (by omega)).1
      rw [show 8 * (i / 8) + i % 8 = i by omega] at this
      rw [this]
      have := byt_bd (r := σ 15 (i / 8)) (k := i % 8)
      omega
    · rw [rpr.1]; exact fun p p0 p1 => (rps p p0 p1).1
    · rw [ra.2.2.1]; exact ra.2.2.2
  obtain ⟨σ1, h1, f1⟩ := sp_X9_meet d (by omega) xs t dd rr σ a b w hab P N kd nu len K W hJS rf5
  have hM := frM f1 rfl rfl
  obtain ⟨⟨m1, m2, m3, m4⟩, ⟨m5, m6, m7, m8⟩, m9⟩ := M_c hM
  obtain ⟨m10, m11, m12⟩ := m9 N kd nu len K W
  have hJM1 : JM σ1 P hh N kd nu len K W := by
    unfold JM PBm MT at hJM ⊢
    rw [hM 71 (by decide), hM 89 (by decide), hM 90 (by decide), hM 91 (by decide), hM 92 (by decide), hM 93 (by decide), hM 94 (by decide), hM 95 (by decide), hM 96 (by decide), hM 97 (by decide), hM 101 (by decide), hM 100 (by decide), hM 88 (by decide), hM 77 (by decide), hM 78 (by decide), hM 79 (by decide), hM 80 (by decide), hM 83 (by decide), hM 84 (by decide)]
    exact hJM
  obtain ⟨σ2, h2, f2, t0⟩ := sp_X10_meet d (by omega) xs t dd rr σ1 a b w hab P hh N kd nu len K W hJM1
  rw [m6, m11, m12, hM 98 (by decide), rf1] at h2
  rw [hM 98 (by decide), rf1] at t0
  simp only [← has_e rp rf] at h2 t0
  have f : Fr [19, 20, 42, 43, 49, 50, 51, 85, 86, 87] [(71, 0), (71, 41), (71, 42)] σ σ2 := Fr.tr f1 f2 rfl rfl
  refine ⟨_, _, σ1, σ2, h1, h2, ?_, P, J, ?_⟩
  · by_cases C : (0 ≤ a ∧ a < 320 ∧ a % 8 < σ 13 (a / 8)) ∧ (0 ≤ b ∧ b < 320 ∧ b % 8 < σ 13 (b / 8)) ∧ a / 8 ≠ b / 8 ∧ 0 ≤ w ∧ w ≤ 3
    · rw [if_pos C] at t0
      rw [if_pos C, if_pos C]
      refine Or.inl ⟨?_, t0⟩
      rw [eq_fit rf ⟨C.1.1, C.1.2.1⟩ ⟨C.2.1.1, C.2.1.2.1⟩, eq_may ra rp rf ⟨C.1.1, C.1.2.1⟩ ⟨C.2.1.1, C.2.1.2.1⟩, eq_db rp rf ⟨C.1.1, C.1.2.1⟩ ⟨C.2.1.1, C.2.1.2.1⟩]
    · rw [if_neg C] at t0
      rw [if_neg C, if_neg C]
      exact Or.inr ⟨rfl, t0⟩
  refine ⟨⟨?_, ?_, ?_, ?_, ?_, ?_, ?_⟩, ?_, ?_⟩
  · unfold Ra at ra ⊢
    rw [f.at 71 24 rfl, f.at 0 8 rfl, f.at 71 71 rfl, f.at 0 9 rfl, f.at 71 72 rfl, f.at 0 10 rfl, f.at 71 25 rfl, f.at 36 2 rfl]; exact ra
  · unfold Rb at rb ⊢
    rw [f.at 71 2 rfl, f.at 52 0 rfl, f.at 71 65 rfl, f.at 64 2 rfl, f.fn 72 rfl, f.fn 53 rfl, f.fn 119 rfl, f.fn 120 rfl, f.fn 121 rfl, f.fn 65 rfl, f.fn 66 rfl, f.fn 67 rfl]; exact rb
  · unfold Rp PBs at rp ⊢
    rw [f.at 1 0 rfl, f.at 71 26 rfl, f.fn 88 rfl, f.fn 89 rfl, f.fn 90 rfl, f.fn 91 rfl, f.fn 92 rfl, f.fn 93 rfl, f.fn 94 rfl, f.fn 95 rfl, f.fn 96 rfl, f.fn 97 rfl, f.fn 2 rfl, f.fn 3 rfl, f.fn 4 rfl, f.fn 5 rfl, f.fn 6 rfl, f.fn 7 rfl, f.fn 8 rfl, f.fn 9 rfl, f.fn 10 rfl, f.fn 11 rfl]; exact rp
  · unfold Rf at rf ⊢
    rw [hsS_fn (f.fn 13 rfl), f.fn 98 rfl, f.fn 99 rfl, f.fn 101 rfl, f.fn 100 rfl, f.fn 116 rfl, f.fn 13 rfl, f.fn 14 rfl, f.fn 15 rfl, f.fn 16 rfl, f.fn 18 rfl]; exact rf
  · unfold Rj CW CB at rj ⊢
    rw [hsS_fn (f.fn 13 rfl), f.at 71 43 rfl, f.at 1 0 rfl, f.at 21 0 rfl, f.fn 102 rfl, f.fn 103 rfl, f.fn 104 rfl, f.fn 105 rfl, f.fn 106 rfl, f.fn 22 rfl, f.fn 23 rfl, f.fn 24 rfl, f.fn 25 rfl, f.fn 26 rfl, f.fn 27 rfl, f.fn 14 rfl, f.fn 17 rfl]; exact rj
  · exact GI_fs (f.fn 22 rfl) (f.fn 23 rfl) (f.fn 24 rfl) (f.fn 26 rfl) (f.fn 27 rfl) (f.fn 29 rfl) (f.fn 30 rfl) (f.fn 31 rfl) (f.fn 32 rfl) gi
  · exact Rt_fs (f.at 37 0 rfl) (f.at 44 0 rfl) (f.at 37 1 rfl) (f.at 44 1 rfl) (f.at 71 10 rfl) (f.fn 38 rfl) (f.fn 39 rfl) (f.fn 40 rfl) (f.fn 41 rfl) (f.fn 45 rfl) (f.fn 46 rfl) (f.fn 47 rfl) (f.fn 48 rfl) (f.fn 54 rfl) (f.fn 55 rfl) (f.fn 76 rfl) (f.fn 77 rfl) (f.fn 78 rfl) (f.fn 79 rfl) (f.fn 80 rfl) (f.fn 81 rfl) (f.fn 83 rfl) (f.fn 84 rfl) rt
  · exact HB_fs (f.at 57 4 rfl) (f.at 57 5 rfl) (f.fn 13 rfl) (f.fn 14 rfl) (f.fn 17 rfl) (f.fn 18 rfl) (f.fn 22 rfl) (f.fn 23 rfl) (f.fn 29 rfl) (f.fn 30 rfl) (f.fn 58 rfl) (f.fn 62 rfl) (f.fn 63 rfl) hb
  · exact HG_fs (f.at 64 10 rfl) (f.at 64 11 rfl) (f.at 64 12 rfl) (f.at 64 13 rfl) (f.at 64 14 rfl) (f.fn 3 rfl) (f.fn 4 rfl) (f.fn 5 rfl) (f.fn 29 rfl) hg
set_option maxHeartbeats 1000000 in
theorem rc_of (d : Nat) (hd : 60 ≤ d) (xs : List (Nat × Nat)) (t dd rr : Nat) (σ : Sg) (P J : Int) (x w : Int) (hx : x < 2147483648) (hR : RR σ t dd P J) : ∃ (r1 : pV) (v : Int) (σ1 σ2 : Sg), Ev d 14 [(16, 0), (0, x), (0, w)] (Wd xs t dd rr σ) r1 (Wd xs t dd rr σ1) ∧ Ev d 111 [(87, 0), (0, x), (0, w)] (Wd xs t dd rr σ1) (0, v) (Wd xs t dd rr σ2) ∧ ((r1 = (0, v) ∧ σ2 71 0 = 0) ∨ (r1 = (7, 0) ∧ σ2 71 0 = 1)) ∧ ∃ P' J', RR σ2 t dd P' J' := by
  obtain ⟨⟨ra, rb, rp, rf, rj, gi, rt⟩, hb, hg⟩ := hR
  obtain ⟨⟨rp1, rp2, rp3, rp4⟩, rpr, rpb, rps, -⟩ := id rp
  obtain ⟨⟨rf1, rf2, rf3, rf9⟩, rf4, rf5, rf6, rf7, rf8⟩ := id rf
  have hBH := BH_of rf rj gi
  have hMH := MHr_of rp rf rj
  have hfp : 0 ≤ x → x < 320 → x % 8 < σ 13 (x / 8) → x < 8 * P := fun a b c => by have := ((has_e rp rf x).mp ⟨a, b, c⟩).2.1; omega
  have h1 := sp_X9_of d (by omega) xs t dd rr σ x w P J hx hBH hfp ra.2.2.2
  obtain ⟨σ2, h2, f, t0⟩ := sp_X10_of d (by omega) xs t dd rr σ x w P J hx hMH (by rw [ra.2.2.1]; exact ra.2.2.2) (fun k k0 k1 => rf9 _)
  rw [rf1, eq_cob rj, eq_who rf2 rj, rf2, ra.2.2.1] at h2
  rw [rf1] at t0
  simp only [← has_e rp rf] at h2 t0
  refine ⟨_, _, σ, σ2, h1, h2, ?_, P, J, ?_⟩
  · by_cases C : (0 ≤ x ∧ x < 320 ∧ x % 8 < σ 13 (x / 8)) ∧ 0 ≤ w ∧ w ≤ 4
    · rw [if_pos C] at t0
      rw [if_pos C, if_pos C]
      refine Or.inl ⟨?_, t0⟩
      have hx8 := hfp C.1.1 C.1.2.1 C.1.2.2
      have hs := hs_1.mpr C.1.2.2
      have e1 := eq_mt rj C.1.1 hx8 hs
      have e2 : sumZ (fun k => σ 100 (8 * x + k)) 8 = sumZ (fun k => byt (σ 15 x) k) 8 := sumZ_congr (fun k k0 k1 => (rf7 x k C.1.1 C.1.2.1 k0 k1).1)
      have e3 : bl P (σ 14) (cobS σ P J) (whoS σ P J) (mtM σ J) x = blS σ P J x := by
        unfold blS bl
        have hm := (HHc_of rj).2.2 x C.1.1 hx8 hs
        have hco := ((HHc_of rj).2.1 (x / 8) (by omega) (by omega)).1
        rw [e1, (gi (x / 8) (by omega) (by omega)).1, mny_c (co := cobS σ P J) (co' := σ 29) (fun p p0 p1 => (gi p p0 p1).1.symm)]
        by_cases z : 0 ≤ mtS σ J x
        · rcases hm with y | y
          · omega
          · rw [(gi (mtS σ J x / 8) (by omega) (by omega)).2.1]
        · rw [if_neg z, if_neg z]
      rw [e1, e2, e3]
    · rw [if_neg C] at t0
      rw [if_neg C, if_neg C]
      exact Or.inr ⟨rfl, t0⟩
  refine ⟨⟨?_, ?_, ?_, ?_, ?_, ?_, ?_⟩, ?_, ?_⟩
  · unfold Ra at ra ⊢
    rw [f.at 71 24 rfl, f.at 0 8 rfl, f.at 71 71 rfl, f.at 0 9 rfl, f.at 71 72 rfl, f.at 0 10 rfl, f.at 71 25 rfl, f.at 36 2 rfl]; exact ra
  · unfold Rb at rb ⊢
    rw [f.at 71 2 rfl, f.at 52 0 rfl, f.at 71 65 rfl, f.at 64 2 rfl, f.fn 72 rfl, f.fn 53 rfl, f.fn 119 rfl, f.fn 120 rfl, f.fn 121 rfl, f.fn 65 rfl, f.fn 66 rfl, f.fn 67 rfl]; exact rb
  · unfold Rp PBs at rp ⊢
    rw [f.at 1 0 rfl, f.at 71 26 rfl, f.fn 88 rfl, f.fn 89 rfl, f.fn 90 rfl, f.fn 91 rfl, f.fn 92 rfl, f.fn 93 rfl, f.fn 94 rfl, f.fn 95 rfl, f.fn 96 rfl, f.fn 97 rfl, f.fn 2 rfl, f.fn 3 rfl, f.fn 4 rfl, f.fn 5 rfl, f.fn 6 rfl, f.fn 7 rfl, f.fn 8 rfl, f.fn 9 rfl, f.fn 10 rfl, f.fn 11 rfl]; exact rp
  · unfold Rf at rf ⊢
    rw [hsS_fn (f.fn 13 rfl), f.fn 98 rfl, f.fn 99 rfl, f.fn 101 rfl, f.fn 100 rfl, f.fn 116 rfl, f.fn 13 rfl, f.fn 14 rfl, f.fn 15 rfl, f.fn 16 rfl, f.fn 18 rfl]; exact rf
  · unfold Rj CW CB at rj ⊢
    rw [hsS_fn (f.fn 13 rfl), f.at 71 43 rfl, f.at 1 0 rfl, f.at 21 0 rfl, f.fn 102 rfl, f.fn 103 rfl, f.fn 104 rfl, f.fn 105 rfl, f.fn 106 rfl, f.fn 22 rfl, f.fn 23 rfl, f.fn 24 rfl, f.fn 25 rfl, f.fn 26 rfl, f.fn 27 rfl, f.fn 14 rfl, f.fn 17 rfl]; exact rj
  · exact GI_fs (f.fn 22 rfl) (f.fn 23 rfl) (f.fn 24 rfl) (f.fn 26 rfl) (f.fn 27 rfl) (f.fn 29 rfl) (f.fn 30 rfl) (f.fn 31 rfl) (f.fn 32 rfl) gi
  · exact Rt_fs (f.at 37 0 rfl) (f.at 44 0 rfl) (f.at 37 1 rfl) (f.at 44 1 rfl) (f.at 71 10 rfl) (f.fn 38 rfl) (f.fn 39 rfl) (f.fn 40 rfl) (f.fn 41 rfl) (f.fn 45 rfl) (f.fn 46 rfl) (f.fn 47 rfl) (f.fn 48 rfl) (f.fn 54 rfl) (f.fn 55 rfl) (f.fn 76 rfl) (f.fn 77 rfl) (f.fn 78 rfl) (f.fn 79 rfl) (f.fn 80 rfl) (f.fn 81 rfl) (f.fn 83 rfl) (f.fn 84 rfl) rt
  · exact HB_fs (f.at 57 4 rfl) (f.at 57 5 rfl) (f.fn 13 rfl) (f.fn 14 rfl) (f.fn 17 rfl) (f.fn 18 rfl) (f.fn 22 rfl) (f.fn 23 rfl) (f.fn 29 rfl) (f.fn 30 rfl) (f.fn 58 rfl) (f.fn 62 rfl) (f.fn 63 rfl) hb
  · exact HG_fs (f.at 64 10 rfl) (f.at 64 11 rfl) (f.at 64 12 rfl) (f.at 64 13 rfl) (f.at 64 14 rfl) (f.fn 3 rfl) (f.fn 4 rfl) (f.fn 5 rfl) (f.fn 29 rfl) hg

/-! The six calls that throw, when the law has written y0 into its row behind the class's call. Written by tools/rx.py. -/
theorem Fr.u122 {rows : List Nat} {sl : List (Nat × Int)} {σ s : Sg} {y : Int} (h : Fr rows sl σ s) : Fr (122 :: rows) sl σ (up2 s 122 0 y) := fun k i hk hi => by
  have hk1 : k ≠ 122 := fun z => hk (by rw [z]; exact List.mem_cons_self)
  have : up2 s 122 0 y k i = s k i := if_neg (fun z => hk1 z.1)
  rw [this]
  exact h k i (fun z => hk (List.mem_cons_of_mem _ z)) hi
theorem HG_122 {σ : Sg} {P y : Int} (h : HG σ P) : HG (up2 σ 122 0 y) P := HG_fs rfl rfl rfl rfl rfl rfl rfl rfl rfl h
theorem HB_122 {σ : Sg} {P J y : Int} (h : HB σ P J) : HB (up2 σ 122 0 y) P J := HB_fs rfl rfl rfl rfl rfl rfl rfl rfl rfl rfl rfl rfl rfl h
set_option maxHeartbeats 1000000 in
theorem rx_seat (d : Nat) (hd : 60 ≤ d) (xs : List (Nat × Nat)) (t dd rr : Nat) (σ : Sg) (P J : Int) (p n w : Int) (hR : RR σ t dd P J) : ∃ (r1 : pV) (σ1 : Sg), Ev d 19 [(16, 0), (0, p), (0, n), (0, w)] (Wd xs t dd rr σ) r1 (Wd xs t dd rr σ1) ∧ ∀ y0 : Int, ∃ (v : Int) (σ2 : Sg), Ev d 116 [(87, 0), (0, p), (0, n), (0, w)] (Wd xs t dd rr (up2 σ1 122 0 y0)) (0, v) (Wd xs t dd rr σ2) ∧ σ2 122 0 = y0 ∧ ((r1 = (0, v) ∧ σ2 71 0 = 0) ∨ (r1 = (7, 0) ∧ σ2 71 0 = 1)) ∧ ∃ P' J', RR σ2 t dd P' J' := by
  obtain ⟨⟨ra, rb, rp, rf, rj, gi, rt⟩, hb, hg⟩ := hR
  have hMB := MB_of rp rj
  obtain ⟨⟨rp1, rp2, rp3, rp4⟩, rpr, rpb, -⟩ := id rp
  have hco : ∀ p, 0 ≤ p → p < P → 0 ≤ σ 29 p ∧ σ 29 p < P := fun p p0 p1 => by rw [(gi p p0 p1).1]; exact ((HHc_of rj).2.1 p p0 p1).1
  have hX : XB (σ 4) (σ 5) (σ 3) P := fun p p0 p1 => ⟨(rpb p p0 p1).2.1, (rpb p p0 p1).2.2.1, (rpb p p0 p1).1⟩
  obtain ⟨σ0, h1, f1, g1⟩ := sp_X9_seat d (by omega) xs t dd rr σ p n w P rp1 ⟨rp3, rp4⟩ hX hg hco
  refine ⟨_, σ0, h1, fun y0 => ?_⟩
  replace f1 := Fr.u122 (y := y0) f1
  replace g1 := HG_122 (y := y0) g1
  obtain ⟨σ1, e1⟩ : ∃ z : Sg, z = up2 σ0 122 0 y0 := ⟨_, rfl⟩
  rw [← e1] at f1 g1
  rw [← e1]
  have hM := frM f1 rfl rfl
  obtain ⟨⟨m1, m2, m3, m4⟩, ⟨m5, m6, m7, m8⟩, m9⟩ := M_c hM
  have hMB1 : MB σ1 P J := by
    unfold MB at hMB ⊢
    rw [hM 71 (by decide), hM 102 (by decide), hM 103 (by decide)]; exact hMB
  obtain ⟨σ2, h2, f2, t0⟩ := sp_X10_seat d (by omega) xs t dd rr σ1 p n w P J hMB1 (by rw [hM 90 (by decide), hM 91 (by decide), hM 89 (by decide), rpr.2.1, rpr.2.2.1, rpr.2.2.2.1]; exact hX)
  rw [m7, m1, eq_cob rj] at h2
  have f : Fr [122, 68, 69, 70, 107, 111, 112] [(64, 9), (64, 10), (64, 11), (64, 12), (64, 13), (64, 14), (64, 15), (64, 16), (71, 0), (71, 62), (71, 63), (71, 64)] σ σ2 := Fr.tr f1 f2 rfl rfl
  refine ⟨_, σ2, h2, (f2.at 122 0 rfl).trans (by rw [e1]; exact if_pos ⟨rfl, rfl⟩), ?_, P, J, ?_⟩
  · by_cases C : (0 ≤ p ∧ p < P) ∧ (1 ≤ n ∧ n ≤ 2) ∧ 0 ≤ w ∧ w ≤ 2
    · rw [if_pos C] at t0
      rw [if_pos C, if_pos C]
      refine Or.inl ⟨?_, t0⟩
      rw [eq_st rp rj gi, (gi p C.1.1 C.1.2).1]
    · rw [if_neg C] at t0
      rw [if_neg C, if_neg C]
      exact Or.inr ⟨rfl, t0⟩
  refine ⟨⟨?_, ?_, ?_, ?_, ?_, ?_, ?_⟩, ?_, ?_⟩
  · unfold Ra at ra ⊢
    rw [f.at 71 24 rfl, f.at 0 8 rfl, f.at 71 71 rfl, f.at 0 9 rfl, f.at 71 72 rfl, f.at 0 10 rfl, f.at 71 25 rfl, f.at 36 2 rfl]; exact ra
  · unfold Rb at rb ⊢
    rw [f.at 71 2 rfl, f.at 52 0 rfl, f.at 71 65 rfl, f.at 64 2 rfl, f.fn 72 rfl, f.fn 53 rfl, f.fn 119 rfl, f.fn 120 rfl, f.fn 121 rfl, f.fn 65 rfl, f.fn 66 rfl, f.fn 67 rfl]; exact rb
  · unfold Rp PBs at rp ⊢
    rw [f.at 1 0 rfl, f.at 71 26 rfl, f.fn 88 rfl, f.fn 89 rfl, f.fn 90 rfl, f.fn 91 rfl, f.fn 92 rfl, f.fn 93 rfl, f.fn 94 rfl, f.fn 95 rfl, f.fn 96 rfl, f.fn 97 rfl, f.fn 2 rfl, f.fn 3 rfl, f.fn 4 rfl, f.fn 5 rfl, f.fn 6 rfl, f.fn 7 rfl, f.fn 8 rfl, f.fn 9 rfl, f.fn 10 rfl, f.fn 11 rfl]; exact rp
  · unfold Rf at rf ⊢
    rw [hsS_fn (f.fn 13 rfl), f.fn 98 rfl, f.fn 99 rfl, f.fn 101 rfl, f.fn 100 rfl, f.fn 116 rfl, f.fn 13 rfl, f.fn 14 rfl, f.fn 15 rfl, f.fn 16 rfl, f.fn 18 rfl]; exact rf
  · unfold Rj CW CB at rj ⊢
    rw [hsS_fn (f.fn 13 rfl), f.at 71 43 rfl, f.at 1 0 rfl, f.at 21 0 rfl, f.fn 102 rfl, f.fn 103 rfl, f.fn 104 rfl, f.fn 105 rfl, f.fn 106 rfl, f.fn 22 rfl, f.fn 23 rfl, f.fn 24 rfl, f.fn 25 rfl, f.fn 26 rfl, f.fn 27 rfl, f.fn 14 rfl, f.fn 17 rfl]; exact rj
  · exact GI_fs (f.fn 22 rfl) (f.fn 23 rfl) (f.fn 24 rfl) (f.fn 26 rfl) (f.fn 27 rfl) (f.fn 29 rfl) (f.fn 30 rfl) (f.fn 31 rfl) (f.fn 32 rfl) gi
  · exact Rt_fs (f.at 37 0 rfl) (f.at 44 0 rfl) (f.at 37 1 rfl) (f.at 44 1 rfl) (f.at 71 10 rfl) (f.fn 38 rfl) (f.fn 39 rfl) (f.fn 40 rfl) (f.fn 41 rfl) (f.fn 45 rfl) (f.fn 46 rfl) (f.fn 47 rfl) (f.fn 48 rfl) (f.fn 54 rfl) (f.fn 55 rfl) (f.fn 76 rfl) (f.fn 77 rfl) (f.fn 78 rfl) (f.fn 79 rfl) (f.fn 80 rfl) (f.fn 81 rfl) (f.fn 83 rfl) (f.fn 84 rfl) rt
  · exact HB_fs (f.at 57 4 rfl) (f.at 57 5 rfl) (f.fn 13 rfl) (f.fn 14 rfl) (f.fn 17 rfl) (f.fn 18 rfl) (f.fn 22 rfl) (f.fn 23 rfl) (f.fn 29 rfl) (f.fn 30 rfl) (f.fn 58 rfl) (f.fn 62 rfl) (f.fn 63 rfl) hb
  · exact HG_fs (f2.at 64 10 rfl) (f2.at 64 11 rfl) (f2.at 64 12 rfl) (f2.at 64 13 rfl) (f2.at 64 14 rfl) (f2.fn 3 rfl) (f2.fn 4 rfl) (f2.fn 5 rfl) (f2.fn 29 rfl) g1
set_option maxHeartbeats 1000000 in
theorem rx_meet (d : Nat) (hd : 60 ≤ d) (xs : List (Nat × Nat)) (t dd rr : Nat) (σ : Sg) (P J : Int) (a b w : Int) (hab : a < 2147483648 ∧ b < 2147483648) (hR : RR σ t dd P J) : ∃ (r1 : pV) (σ1 : Sg), Ev d 8 [(16, 0), (0, a), (0, b), (0, w)] (Wd xs t dd rr σ) r1 (Wd xs t dd rr σ1) ∧ ∀ y0 : Int, ∃ (v : Int) (σ2 : Sg), Ev d 78 [(87, 0), (0, a), (0, b), (0, w)] (Wd xs t dd rr (up2 σ1 122 0 y0)) (0, v) (Wd xs t dd rr σ2) ∧ σ2 122 0 = y0 ∧ ((r1 = (0, v) ∧ σ2 71 0 = 0) ∨ (r1 = (7, 0) ∧ σ2 71 0 = 1)) ∧ ∃ P' J', RR σ2 t dd P' J' := by
  obtain ⟨⟨ra, rb, rp, rf, rj, gi, rt⟩, hb, hg⟩ := hR
  obtain ⟨t1, t2, t3, t4, t5, hh, N, M, kd, nu, len, K, W, w1, w2, w3, w4, w5, w6⟩ := id rt
  obtain ⟨⟨rp1, rp2, rp3, rp4⟩, rpr, rpb, rps, -⟩ := id rp
  obtain ⟨⟨rf1, rf2, rf3, rf9⟩, rf4, rf5, rf6, rf7, rf8⟩ := id rf
  have hJS : JS σ t P N kd nu len K W := ⟨⟨rp3, rp4⟩, rpb, fun f f0 f1 => (rf6 f f0 (by omega)).2, ra.2.2.2, w1, w2, w4⟩
  have hJM : JM σ P hh N kd nu len K W := by
    refine ⟨rp2, ⟨rp3, rp4⟩, ?_, ?_, fun i i0 i1 => ?_, ?_, ?_, w1, w3.1, w4⟩
    · unfold PBm PBs at *
      obtain ⟨u1, u2, u3, u4, u5, u6, u7, u8, u9, u10⟩ := rpr
      rw [u2, u3, u4, u5, u6, u7, u8, u9, u10]; exact rpb
    · rw [rf3]; exact fun f f0 f1 => (rf6 f f0 (by omega)).2
    · have := (rf7 (i / 8) (i % 8) (by omega) (by omega) (by omega) (by omega)).1
      rw [show 8 * (i / 8) + i % 8 = i by omega] at this
      rw [this]
      have := byt_bd (r := σ 15 (i / 8)) (k := i % 8)
      omega
    · rw [rpr.1]; exact fun p p0 p1 => (rps p p0 p1).1
    · rw [ra.2.2.1]; exact ra.2.2.2
  obtain ⟨σ0, h1, f1⟩ := sp_X9_meet d (by omega) xs t dd rr σ a b w hab P N kd nu len K W hJS rf5
  refine ⟨_, σ0, h1, fun y0 => ?_⟩
  replace f1 := Fr.u122 (y := y0) f1
  obtain ⟨σ1, e1⟩ : ∃ z : Sg, z = up2 σ0 122 0 y0 := ⟨_, rfl⟩
  rw [← e1] at f1
  rw [← e1]
  have hM := frM f1 rfl rfl
  obtain ⟨⟨m1, m2, m3, m4⟩, ⟨m5, m6, m7, m8⟩, m9⟩ := M_c hM
  obtain ⟨m10, m11, m12⟩ := m9 N kd nu len K W
  have hJM1 : JM σ1 P hh N kd nu len K W := by
    unfold JM PBm MT at hJM ⊢
    rw [hM 71 (by decide), hM 89 (by decide), hM 90 (by decide), hM 91 (by decide), hM 92 (by decide), hM 93 (by decide), hM 94 (by decide), hM 95 (by decide), hM 96 (by decide), hM 97 (by decide), hM 101 (by decide), hM 100 (by decide), hM 88 (by decide), hM 77 (by decide), hM 78 (by decide), hM 79 (by decide), hM 80 (by decide), hM 83 (by decide), hM 84 (by decide)]
    exact hJM
  obtain ⟨σ2, h2, f2, t0⟩ := sp_X10_meet d (by omega) xs t dd rr σ1 a b w hab P hh N kd nu len K W hJM1
  rw [m6, m11, m12, hM 98 (by decide), rf1] at h2
  rw [hM 98 (by decide), rf1] at t0
  simp only [← has_e rp rf] at h2 t0
  have f : Fr [122, 19, 20, 42, 43, 49, 50, 51, 85, 86, 87] [(71, 0), (71, 41), (71, 42)] σ σ2 := Fr.tr f1 f2 rfl rfl
  refine ⟨_, σ2, h2, (f2.at 122 0 rfl).trans (by rw [e1]; exact if_pos ⟨rfl, rfl⟩), ?_, P, J, ?_⟩
  · by_cases C : (0 ≤ a ∧ a < 320 ∧ a % 8 < σ 13 (a / 8)) ∧ (0 ≤ b ∧ b < 320 ∧ b % 8 < σ 13 (b / 8)) ∧ a / 8 ≠ b / 8 ∧ 0 ≤ w ∧ w ≤ 3
    · rw [if_pos C] at t0
      rw [if_pos C, if_pos C]
      refine Or.inl ⟨?_, t0⟩
      rw [eq_fit rf ⟨C.1.1, C.1.2.1⟩ ⟨C.2.1.1, C.2.1.2.1⟩, eq_may ra rp rf ⟨C.1.1, C.1.2.1⟩ ⟨C.2.1.1, C.2.1.2.1⟩, eq_db rp rf ⟨C.1.1, C.1.2.1⟩ ⟨C.2.1.1, C.2.1.2.1⟩]
    · rw [if_neg C] at t0
      rw [if_neg C, if_neg C]
      exact Or.inr ⟨rfl, t0⟩
  refine ⟨⟨?_, ?_, ?_, ?_, ?_, ?_, ?_⟩, ?_, ?_⟩
  · unfold Ra at ra ⊢
    rw [f.at 71 24 rfl, f.at 0 8 rfl, f.at 71 71 rfl, f.at 0 9 rfl, f.at 71 72 rfl, f.at 0 10 rfl, f.at 71 25 rfl, f.at 36 2 rfl]; exact ra
  · unfold Rb at rb ⊢
    rw [f.at 71 2 rfl, f.at 52 0 rfl, f.at 71 65 rfl, f.at 64 2 rfl, f.fn 72 rfl, f.fn 53 rfl, f.fn 119 rfl, f.fn 120 rfl, f.fn 121 rfl, f.fn 65 rfl, f.fn 66 rfl, f.fn 67 rfl]; exact rb
  · unfold Rp PBs at rp ⊢
    rw [f.at 1 0 rfl, f.at 71 26 rfl, f.fn 88 rfl, f.fn 89 rfl, f.fn 90 rfl, f.fn 91 rfl, f.fn 92 rfl, f.fn 93 rfl, f.fn 94 rfl, f.fn 95 rfl, f.fn 96 rfl, f.fn 97 rfl, f.fn 2 rfl, f.fn 3 rfl, f.fn 4 rfl, f.fn 5 rfl, f.fn 6 rfl, f.fn 7 rfl, f.fn 8 rfl, f.fn 9 rfl, f.fn 10 rfl, f.fn 11 rfl]; exact rp
  · unfold Rf at rf ⊢
    rw [hsS_fn (f.fn 13 rfl), f.fn 98 rfl, f.fn 99 rfl, f.fn 101 rfl, f.fn 100 rfl, f.fn 116 rfl, f.fn 13 rfl, f.fn 14 rfl, f.fn 15 rfl, f.fn 16 rfl, f.fn 18 rfl]; exact rf
  · unfold Rj CW CB at rj ⊢
    rw [hsS_fn (f.fn 13 rfl), f.at 71 43 rfl, f.at 1 0 rfl, f.at 21 0 rfl, f.fn 102 rfl, f.fn 103 rfl, f.fn 104 rfl, f.fn 105 rfl, f.fn 106 rfl, f.fn 22 rfl, f.fn 23 rfl, f.fn 24 rfl, f.fn 25 rfl, f.fn 26 rfl, f.fn 27 rfl, f.fn 14 rfl, f.fn 17 rfl]; exact rj
  · exact GI_fs (f.fn 22 rfl) (f.fn 23 rfl) (f.fn 24 rfl) (f.fn 26 rfl) (f.fn 27 rfl) (f.fn 29 rfl) (f.fn 30 rfl) (f.fn 31 rfl) (f.fn 32 rfl) gi
  · exact Rt_fs (f.at 37 0 rfl) (f.at 44 0 rfl) (f.at 37 1 rfl) (f.at 44 1 rfl) (f.at 71 10 rfl) (f.fn 38 rfl) (f.fn 39 rfl) (f.fn 40 rfl) (f.fn 41 rfl) (f.fn 45 rfl) (f.fn 46 rfl) (f.fn 47 rfl) (f.fn 48 rfl) (f.fn 54 rfl) (f.fn 55 rfl) (f.fn 76 rfl) (f.fn 77 rfl) (f.fn 78 rfl) (f.fn 79 rfl) (f.fn 80 rfl) (f.fn 81 rfl) (f.fn 83 rfl) (f.fn 84 rfl) rt
  · exact HB_fs (f.at 57 4 rfl) (f.at 57 5 rfl) (f.fn 13 rfl) (f.fn 14 rfl) (f.fn 17 rfl) (f.fn 18 rfl) (f.fn 22 rfl) (f.fn 23 rfl) (f.fn 29 rfl) (f.fn 30 rfl) (f.fn 58 rfl) (f.fn 62 rfl) (f.fn 63 rfl) hb
  · exact HG_fs (f.at 64 10 rfl) (f.at 64 11 rfl) (f.at 64 12 rfl) (f.at 64 13 rfl) (f.at 64 14 rfl) (f.fn 3 rfl) (f.fn 4 rfl) (f.fn 5 rfl) (f.fn 29 rfl) hg
set_option maxHeartbeats 1000000 in
theorem rx_joined (d : Nat) (hd : 60 ≤ d) (xs : List (Nat × Nat)) (t dd rr : Nat) (σ : Sg) (P J : Int) (j w : Int) (hR : RR σ t dd P J) : ∃ (r1 : pV) (σ1 : Sg), Ev d 12 [(16, 0), (0, j), (0, w)] (Wd xs t dd rr σ) r1 (Wd xs t dd rr σ1) ∧ ∀ y0 : Int, ∃ (v : Int) (σ2 : Sg), Ev d 90 [(87, 0), (0, j), (0, w)] (Wd xs t dd rr (up2 σ1 122 0 y0)) (0, v) (Wd xs t dd rr σ2) ∧ σ2 122 0 = y0 ∧ ((r1 = (0, v) ∧ σ2 71 0 = 0) ∨ (r1 = (7, 0) ∧ σ2 71 0 = 1)) ∧ ∃ P' J', RR σ2 t dd P' J' := by
  obtain ⟨⟨ra, rb, rp, rf, rj, gi, rt⟩, hb, hg⟩ := hR
  obtain ⟨t1, t2, t3, t4, t5, hh, N, M, kd, nu, len, K, W, w1, w2, w3, w4, w5, w6⟩ := id rt
  obtain ⟨⟨rp1, rp2, rp3, rp4⟩, rpr, rpb, rps, -⟩ := id rp
  obtain ⟨⟨rf1, rf2, rf3, rf9⟩, rf4, rf5, rf6, rf7, rf8⟩ := id rf
  have hJS : JS σ t P N kd nu len K W := ⟨⟨rp3, rp4⟩, rpb, fun f f0 f1 => (rf6 f f0 (by omega)).2, ra.2.2.2, w1, w2, w4⟩
  have hJM : JM σ P hh N kd nu len K W := by
    refine ⟨rp2, ⟨rp3, rp4⟩, ?_, ?_, fun i i0 i1 => ?_, ?_, ?_, w1, w3.1, w4⟩
    · unfold PBm PBs at *
      obtain ⟨u1, u2, u3, u4, u5, u6, u7, u8, u9, u10⟩ := rpr
      rw [u2, u3, u4, u5, u6, u7, u8, u9, u10]; exact rpb
    · rw [rf3]; exact fun f f0 f1 => (rf6 f f0 (by omega)).2
    · have := (rf7 (i / 8) (i % 8) (by omega) (by omega) (by omega) (by omega)).1
      rw [show 8 * (i / 8) + i % 8 = i by omega] at this
      rw [this]
      have := byt_bd (r := σ 15 (i / 8)) (k := i % 8)
      omega
    · rw [rpr.1]; exact fun p p0 p1 => (rps p p0 p1).1
    · rw [ra.2.2.1]; exact ra.2.2.2
  obtain ⟨⟨rj1, u1, u2, u3, u4, u5⟩, ⟨hCB, c6, c7⟩, rj3, rj4⟩ := id rj
  obtain ⟨σ0, h1, f1⟩ := sp_X9_joined d (by omega) xs t dd rr σ j w J P N kd nu len K W hJS rf5 rj.2.1 (fun p p0 p1 => (gi p p0 p1).2.2.1)
  refine ⟨_, σ0, h1, fun y0 => ?_⟩
  replace f1 := Fr.u122 (y := y0) f1
  obtain ⟨σ1, e1⟩ : ∃ z : Sg, z = up2 σ0 122 0 y0 := ⟨_, rfl⟩
  rw [← e1] at f1
  rw [← e1]
  have hM := frM f1 rfl rfl
  obtain ⟨⟨m1, m2, m3, m4⟩, ⟨m5, m6, m7, m8⟩, m9⟩ := M_c hM
  obtain ⟨m10, m11, m12⟩ := m9 N kd nu len K W
  have hJM1 : JM σ1 P hh N kd nu len K W := by
    unfold JM PBm MT at hJM ⊢
    rw [hM 71 (by decide), hM 89 (by decide), hM 90 (by decide), hM 91 (by decide), hM 92 (by decide), hM 93 (by decide), hM 94 (by decide), hM 95 (by decide), hM 96 (by decide), hM 97 (by decide), hM 101 (by decide), hM 100 (by decide), hM 88 (by decide), hM 77 (by decide), hM 78 (by decide), hM 79 (by decide), hM 80 (by decide), hM 83 (by decide), hM 84 (by decide)]
    exact hJM
  have hMB := MB_of rp rj
  have hMB1 : MB σ1 P J := by
    unfold MB at hMB ⊢
    rw [hM 71 (by decide), hM 102 (by decide), hM 103 (by decide)]; exact hMB
  obtain ⟨σ2, h2, f2, t0⟩ := sp_X10_joined d (by omega) xs t dd rr σ1 j w J P hh N kd nu len K W hJM1 hMB1 (by rw [hM 104 (by decide), u3]; exact c6) (by rw [hM 99 (by decide), hM 102 (by decide), hM 103 (by decide), rf2, u1, u2]; exact fun j j0 j1 => (rj3 j j0 j1).2.1)
  rw [m5, m8, m11, m12, hM 102 (by decide), hM 103 (by decide), hM 104 (by decide), hM 105 (by decide), hM 106 (by decide), eq_hs rf1, eq_op rj, u1, u2, u3, u4, u5] at h2
  have f : Fr [122, 19, 20, 42, 43, 49, 50, 51, 85, 86, 87, 107, 108, 109, 110] [(71, 0), (71, 41), (71, 42)] σ σ2 := Fr.tr f1 f2 rfl rfl
  refine ⟨_, σ2, h2, (f2.at 122 0 rfl).trans (by rw [e1]; exact if_pos ⟨rfl, rfl⟩), ?_, P, J, ?_⟩
  · by_cases C : (0 ≤ j ∧ j < J) ∧ 0 ≤ w ∧ w ≤ 7
    · rw [if_pos C] at t0
      rw [if_pos C, if_pos C]
      refine Or.inl ⟨?_, t0⟩
      have hr := hCB.2.2.2.2 j C.1.1 C.1.2
      have hs : sumZ (fun k => b2i ((k ≠ σ 22 j ∧ k ≠ σ 23 j) ∧ hsS σ k = 1 ∧ (mayM σ N kd nu len K W k (σ 22 j) = 1 ∨ mayM σ N kd nu len K W k (σ 23 j) = 1))) (8 * P) = sumZ (fun k => b2i ((k ≠ σ 22 j ∧ k ≠ σ 23 j) ∧ hsS σ k = 1 ∧ (mayS σ N kd nu len K W k (σ 22 j) = 1 ∨ mayS σ N kd nu len K W k (σ 23 j) = 1))) 320 := by
        rw [sumZ_x (m := 8 * P) (n := 320) (by omega) (by omega) (fun k k0 k1 => b2i_f (fun z => hs_x rp rf k0 k1 z.2.1))]
        exact sumZ_congr (fun k k0 k1 => by rw [eq_may ra rp rf ⟨k0, by omega⟩ ⟨hr.1.1, by omega⟩, eq_may ra rp rf ⟨k0, by omega⟩ ⟨hr.2.1, by omega⟩])
      rw [hs, eq_db rp rf ⟨hr.1.1, by omega⟩ ⟨hr.2.1, by omega⟩]
    · rw [if_neg C] at t0
      rw [if_neg C, if_neg C]
      exact Or.inr ⟨rfl, t0⟩
  refine ⟨⟨?_, ?_, ?_, ?_, ?_, ?_, ?_⟩, ?_, ?_⟩
  · unfold Ra at ra ⊢
    rw [f.at 71 24 rfl, f.at 0 8 rfl, f.at 71 71 rfl, f.at 0 9 rfl, f.at 71 72 rfl, f.at 0 10 rfl, f.at 71 25 rfl, f.at 36 2 rfl]; exact ra
  · unfold Rb at rb ⊢
    rw [f.at 71 2 rfl, f.at 52 0 rfl, f.at 71 65 rfl, f.at 64 2 rfl, f.fn 72 rfl, f.fn 53 rfl, f.fn 119 rfl, f.fn 120 rfl, f.fn 121 rfl, f.fn 65 rfl, f.fn 66 rfl, f.fn 67 rfl]; exact rb
  · unfold Rp PBs at rp ⊢
    rw [f.at 1 0 rfl, f.at 71 26 rfl, f.fn 88 rfl, f.fn 89 rfl, f.fn 90 rfl, f.fn 91 rfl, f.fn 92 rfl, f.fn 93 rfl, f.fn 94 rfl, f.fn 95 rfl, f.fn 96 rfl, f.fn 97 rfl, f.fn 2 rfl, f.fn 3 rfl, f.fn 4 rfl, f.fn 5 rfl, f.fn 6 rfl, f.fn 7 rfl, f.fn 8 rfl, f.fn 9 rfl, f.fn 10 rfl, f.fn 11 rfl]; exact rp
  · unfold Rf at rf ⊢
    rw [hsS_fn (f.fn 13 rfl), f.fn 98 rfl, f.fn 99 rfl, f.fn 101 rfl, f.fn 100 rfl, f.fn 116 rfl, f.fn 13 rfl, f.fn 14 rfl, f.fn 15 rfl, f.fn 16 rfl, f.fn 18 rfl]; exact rf
  · unfold Rj CW CB at rj ⊢
    rw [hsS_fn (f.fn 13 rfl), f.at 71 43 rfl, f.at 1 0 rfl, f.at 21 0 rfl, f.fn 102 rfl, f.fn 103 rfl, f.fn 104 rfl, f.fn 105 rfl, f.fn 106 rfl, f.fn 22 rfl, f.fn 23 rfl, f.fn 24 rfl, f.fn 25 rfl, f.fn 26 rfl, f.fn 27 rfl, f.fn 14 rfl, f.fn 17 rfl]; exact rj
  · exact GI_fs (f.fn 22 rfl) (f.fn 23 rfl) (f.fn 24 rfl) (f.fn 26 rfl) (f.fn 27 rfl) (f.fn 29 rfl) (f.fn 30 rfl) (f.fn 31 rfl) (f.fn 32 rfl) gi
  · exact Rt_fs (f.at 37 0 rfl) (f.at 44 0 rfl) (f.at 37 1 rfl) (f.at 44 1 rfl) (f.at 71 10 rfl) (f.fn 38 rfl) (f.fn 39 rfl) (f.fn 40 rfl) (f.fn 41 rfl) (f.fn 45 rfl) (f.fn 46 rfl) (f.fn 47 rfl) (f.fn 48 rfl) (f.fn 54 rfl) (f.fn 55 rfl) (f.fn 76 rfl) (f.fn 77 rfl) (f.fn 78 rfl) (f.fn 79 rfl) (f.fn 80 rfl) (f.fn 81 rfl) (f.fn 83 rfl) (f.fn 84 rfl) rt
  · exact HB_fs (f.at 57 4 rfl) (f.at 57 5 rfl) (f.fn 13 rfl) (f.fn 14 rfl) (f.fn 17 rfl) (f.fn 18 rfl) (f.fn 22 rfl) (f.fn 23 rfl) (f.fn 29 rfl) (f.fn 30 rfl) (f.fn 58 rfl) (f.fn 62 rfl) (f.fn 63 rfl) hb
  · exact HG_fs (f.at 64 10 rfl) (f.at 64 11 rfl) (f.at 64 12 rfl) (f.at 64 13 rfl) (f.at 64 14 rfl) (f.fn 3 rfl) (f.fn 4 rfl) (f.fn 5 rfl) (f.fn 29 rfl) hg
set_option maxHeartbeats 1000000 in
theorem rx_look (d : Nat) (hd : 60 ≤ d) (xs : List (Nat × Nat)) (t dd rr : Nat) (σ : Sg) (P J : Int) (p w : Int) (hR : RR σ t dd P J) : ∃ (r1 : pV) (σ1 : Sg), Ev d 13 [(16, 0), (0, p), (0, w)] (Wd xs t dd rr σ) r1 (Wd xs t dd rr σ1) ∧ ∀ y0 : Int, ∃ (v : Int) (σ2 : Sg), Ev d 120 [(87, 0), (0, p), (0, w)] (Wd xs t dd rr (up2 σ1 122 0 y0)) (0, v) (Wd xs t dd rr σ2) ∧ σ2 122 0 = y0 ∧ ((r1 = (0, v) ∧ σ2 71 0 = 0) ∨ (r1 = (7, 0) ∧ σ2 71 0 = 1)) ∧ ∃ P' J', RR σ2 t dd P' J' := by
  obtain ⟨⟨ra, rb, rp, rf, rj, gi, rt⟩, hb, hg⟩ := hR
  obtain ⟨t1, t2, t3, t4, t5, hh, N, M, kd, nu, len, K, W, w1, w2, w3, w4, w5, w6⟩ := id rt
  obtain ⟨⟨rp1, rp2, rp3, rp4⟩, rpr, rpb, rps, -⟩ := id rp
  obtain ⟨⟨rf1, rf2, rf3, rf9⟩, rf4, rf5, rf6, rf7, rf8⟩ := id rf
  have hJS : JS σ t P N kd nu len K W := ⟨⟨rp3, rp4⟩, rpb, fun f f0 f1 => (rf6 f f0 (by omega)).2, ra.2.2.2, w1, w2, w4⟩
  have hJM : JM σ P hh N kd nu len K W := by
    refine ⟨rp2, ⟨rp3, rp4⟩, ?_, ?_, fun i i0 i1 => ?_, ?_, ?_, w1, w3.1, w4⟩
    · unfold PBm PBs at *
      obtain ⟨u1, u2, u3, u4, u5, u6, u7, u8, u9, u10⟩ := rpr
      rw [u2, u3, u4, u5, u6, u7, u8, u9, u10]; exact rpb
    · rw [rf3]; exact fun f f0 f1 => (rf6 f f0 (by omega)).2
    · have := (rf7 (i / 8) (i % 8) (by omega) (by omega) (by omega) (by omega)).1
      rw [show 8 * (i / 8) + i % 8 = i by omega] at this
      rw [this]
      have := byt_bd (r := σ 15 (i / 8)) (k := i % 8)
      omega
    · rw [rpr.1]; exact fun p p0 p1 => (rps p p0 p1).1
    · rw [ra.2.2.1]; exact ra.2.2.2
  obtain ⟨⟨rj1, u1, u2, u3, u4, u5⟩, ⟨hCB, c6, c7⟩, rj3, rj4⟩ := id rj
  obtain ⟨rb1, rb2, rb3, rb4, rb5, rb6, rb7⟩ := id rb
  have hco : ∀ p, 0 ≤ p → p < P → 0 ≤ σ 29 p ∧ σ 29 p < P := fun p p0 p1 => by rw [(gi p p0 p1).1]; exact ((HHc_of rj).2.1 p p0 p1).1
  have hX : XB (σ 4) (σ 5) (σ 3) P := fun p p0 p1 => ⟨(rpb p p0 p1).2.1, (rpb p p0 p1).2.2.1, (rpb p p0 p1).1⟩
  obtain ⟨σ0, h1, f1, g1⟩ := sp_X9_look d (by omega) xs t dd rr σ p w (σ 64 2) P N kd nu len K W hJS rf5 rp1 hX hg hco rfl rb3 rb7
  refine ⟨_, σ0, h1, fun y0 => ?_⟩
  replace f1 := Fr.u122 (y := y0) f1
  replace g1 := HG_122 (y := y0) g1
  obtain ⟨σ1, e1⟩ : ∃ z : Sg, z = up2 σ0 122 0 y0 := ⟨_, rfl⟩
  rw [← e1] at f1 g1
  rw [← e1]
  have hM := frM f1 rfl rfl
  obtain ⟨⟨m1, m2, m3, m4⟩, ⟨m5, m6, m7, m8⟩, m9⟩ := M_c hM
  obtain ⟨m10, m11, m12⟩ := m9 N kd nu len K W
  have hJM1 : JM σ1 P hh N kd nu len K W := by
    unfold JM PBm MT at hJM ⊢
    rw [hM 71 (by decide), hM 89 (by decide), hM 90 (by decide), hM 91 (by decide), hM 92 (by decide), hM 93 (by decide), hM 94 (by decide), hM 95 (by decide), hM 96 (by decide), hM 97 (by decide), hM 101 (by decide), hM 100 (by decide), hM 88 (by decide), hM 77 (by decide), hM 78 (by decide), hM 79 (by decide), hM 80 (by decide), hM 83 (by decide), hM 84 (by decide)]
    exact hJM
  have hMB := MB_of rp rj
  have hMB1 : MB σ1 P J := by
    unfold MB at hMB ⊢
    rw [hM 71 (by decide), hM 102 (by decide), hM 103 (by decide)]; exact hMB
  obtain ⟨σ2, h2, f2, t0⟩ := sp_X10_look d (by omega) xs t dd rr σ1 p w (σ 64 2) J P hh N kd nu len K W hJM1 hMB1 (by rw [hM 90 (by decide), hM 91 (by decide), hM 89 (by decide), rpr.2.1, rpr.2.2.1, rpr.2.2.2.1]; exact hX) (by rw [hM 104 (by decide), u3]; exact c6) (by rw [hM 71 (by decide)]; exact rb2) rb3 (by rw [hM 119 (by decide), hM 120 (by decide), hM 121 (by decide), rb4, rb5, rb6]; exact rb7)
  have f : Fr [122, 19, 20, 42, 43, 49, 50, 51, 68, 69, 70, 85, 86, 87, 107, 108, 109, 110, 111, 112] [(64, 9), (64, 10), (64, 11), (64, 12), (64, 13), (64, 14), (64, 15), (64, 16), (71, 0), (71, 62), (71, 63), (71, 64), (71, 69), (71, 70)] σ σ2 := Fr.tr f1 f2 rfl rfl
  have ewn : 0 ≤ p → p < P → wnM σ1 P J (σ 64 2) p = wnS σ P (σ 64 2) p := fun p0 p1 => by
    unfold wnM wnS
    rw [m7, m1, hM 119 (by decide), hM 120 (by decide), hM 121 (by decide), hM 89 (by decide), rb4, rb5, rb6, rpr.2.1, eq_cob rj, eq_st rp rj gi, (gi p p0 p1).1]
  have eal : 0 ≤ p → p < P → alM σ1 P J (σ 64 2) p = alS σ P (σ 64 2) p := fun p0 p1 => by
    unfold alM alS
    rw [ewn p0 p1, hM 90 (by decide), hM 91 (by decide), hM 89 (by decide), rpr.2.1, rpr.2.2.1, rpr.2.2.2.1]
  rw [m10, m1, m2, m3, hM 98 (by decide), hM 89 (by decide), rf1, rpr.2.1, eq_stn rp, eq_cob rj, eq_who rf2 rj, eq_trn rj] at h2
  refine ⟨_, σ2, h2, (f2.at 122 0 rfl).trans (by rw [e1]; exact if_pos ⟨rfl, rfl⟩), ?_, P, J, ?_⟩
  · by_cases C : (0 ≤ p ∧ p < P) ∧ 0 ≤ w ∧ w ≤ 8
    · rw [if_pos C] at t0
      rw [if_pos C, if_pos C]
      refine Or.inl ⟨?_, t0⟩
      obtain ⟨i1, i2, i3, -⟩ := gi p C.1.1 C.1.2
      rw [ewn C.1.1 C.1.2, eal C.1.1 C.1.2, i1, i2, i3]
    · rw [if_neg C] at t0
      rw [if_neg C, if_neg C]
      exact Or.inr ⟨rfl, t0⟩
  refine ⟨⟨?_, ?_, ?_, ?_, ?_, ?_, ?_⟩, ?_, ?_⟩
  · unfold Ra at ra ⊢
    rw [f.at 71 24 rfl, f.at 0 8 rfl, f.at 71 71 rfl, f.at 0 9 rfl, f.at 71 72 rfl, f.at 0 10 rfl, f.at 71 25 rfl, f.at 36 2 rfl]; exact ra
  · unfold Rb at rb ⊢
    rw [f.at 71 2 rfl, f.at 52 0 rfl, f.at 71 65 rfl, f.at 64 2 rfl, f.fn 72 rfl, f.fn 53 rfl, f.fn 119 rfl, f.fn 120 rfl, f.fn 121 rfl, f.fn 65 rfl, f.fn 66 rfl, f.fn 67 rfl]; exact rb
  · unfold Rp PBs at rp ⊢
    rw [f.at 1 0 rfl, f.at 71 26 rfl, f.fn 88 rfl, f.fn 89 rfl, f.fn 90 rfl, f.fn 91 rfl, f.fn 92 rfl, f.fn 93 rfl, f.fn 94 rfl, f.fn 95 rfl, f.fn 96 rfl, f.fn 97 rfl, f.fn 2 rfl, f.fn 3 rfl, f.fn 4 rfl, f.fn 5 rfl, f.fn 6 rfl, f.fn 7 rfl, f.fn 8 rfl, f.fn 9 rfl, f.fn 10 rfl, f.fn 11 rfl]; exact rp
  · unfold Rf at rf ⊢
    rw [hsS_fn (f.fn 13 rfl), f.fn 98 rfl, f.fn 99 rfl, f.fn 101 rfl, f.fn 100 rfl, f.fn 116 rfl, f.fn 13 rfl, f.fn 14 rfl, f.fn 15 rfl, f.fn 16 rfl, f.fn 18 rfl]; exact rf
  · unfold Rj CW CB at rj ⊢
    rw [hsS_fn (f.fn 13 rfl), f.at 71 43 rfl, f.at 1 0 rfl, f.at 21 0 rfl, f.fn 102 rfl, f.fn 103 rfl, f.fn 104 rfl, f.fn 105 rfl, f.fn 106 rfl, f.fn 22 rfl, f.fn 23 rfl, f.fn 24 rfl, f.fn 25 rfl, f.fn 26 rfl, f.fn 27 rfl, f.fn 14 rfl, f.fn 17 rfl]; exact rj
  · exact GI_fs (f.fn 22 rfl) (f.fn 23 rfl) (f.fn 24 rfl) (f.fn 26 rfl) (f.fn 27 rfl) (f.fn 29 rfl) (f.fn 30 rfl) (f.fn 31 rfl) (f.fn 32 rfl) gi
  · exact Rt_fs (f.at 37 0 rfl) (f.at 44 0 rfl) (f.at 37 1 rfl) (f.at 44 1 rfl) (f.at 71 10 rfl) (f.fn 38 rfl) (f.fn 39 rfl) (f.fn 40 rfl) (f.fn 41 rfl) (f.fn 45 rfl) (f.fn 46 rfl) (f.fn 47 rfl) (f.fn 48 rfl) (f.fn 54 rfl) (f.fn 55 rfl) (f.fn 76 rfl) (f.fn 77 rfl) (f.fn 78 rfl) (f.fn 79 rfl) (f.fn 80 rfl) (f.fn 81 rfl) (f.fn 83 rfl) (f.fn 84 rfl) rt
  · exact HB_fs (f.at 57 4 rfl) (f.at 57 5 rfl) (f.fn 13 rfl) (f.fn 14 rfl) (f.fn 17 rfl) (f.fn 18 rfl) (f.fn 22 rfl) (f.fn 23 rfl) (f.fn 29 rfl) (f.fn 30 rfl) (f.fn 58 rfl) (f.fn 62 rfl) (f.fn 63 rfl) hb
  · exact HG_fs (f2.at 64 10 rfl) (f2.at 64 11 rfl) (f2.at 64 12 rfl) (f2.at 64 13 rfl) (f2.at 64 14 rfl) (f2.fn 3 rfl) (f2.fn 4 rfl) (f2.fn 5 rfl) (f2.fn 29 rfl) g1
set_option maxHeartbeats 1000000 in
theorem rx_cobble (d : Nat) (hd : 60 ≤ d) (xs : List (Nat × Nat)) (t dd rr : Nat) (σ : Sg) (P J : Int) (p w : Int) (hR : RR σ t dd P J) : ∃ (r1 : pV) (σ1 : Sg), Ev d 17 [(16, 0), (0, p), (0, w)] (Wd xs t dd rr σ) r1 (Wd xs t dd rr σ1) ∧ ∀ y0 : Int, ∃ (v : Int) (σ2 : Sg), Ev d 108 [(87, 0), (0, p), (0, w)] (Wd xs t dd rr (up2 σ1 122 0 y0)) (0, v) (Wd xs t dd rr σ2) ∧ σ2 122 0 = y0 ∧ ((r1 = (0, v) ∧ σ2 71 0 = 0) ∨ (r1 = (7, 0) ∧ σ2 71 0 = 1)) ∧ ∃ P' J', RR σ2 t dd P' J' := by
  obtain ⟨⟨ra, rb, rp, rf, rj, gi, rt⟩, hb, hg⟩ := hR
  have hBH := BH_of rf rj gi
  have hMH := MHr_of rp rf rj
  obtain ⟨⟨rj1, u1, u2, u3, u4, u5⟩, ⟨hCB, c6, c7⟩, rj3, rj4⟩ := id rj
  obtain ⟨⟨rp1, rp2, rp3, rp4⟩, rpr, rpb, rps, -⟩ := id rp
  have hfl : ∀ p, 0 ≤ p → p < P → 0 ≤ σ 11 p ∧ σ 11 p ≤ 9 := fun p p0 p1 => (rpb p p0 p1).2.2.2.2.2.2.2.2
  obtain ⟨σ0, h1, f1, b1⟩ := sp_X9_cobble d (by omega) xs t dd rr σ p w P J hBH hb hfl (fun p p0 p1 => (gi p p0 p1).2.2.1) c6
  refine ⟨_, σ0, h1, fun y0 => ?_⟩
  replace f1 := Fr.u122 (y := y0) f1
  replace b1 := HB_122 (y := y0) b1
  obtain ⟨σ1, e1⟩ : ∃ z : Sg, z = up2 σ0 122 0 y0 := ⟨_, rfl⟩
  rw [← e1] at f1 b1
  rw [← e1]
  have hM := frM f1 rfl rfl
  obtain ⟨⟨m1, m2, m3, m4⟩, ⟨m5, m6, m7, m8⟩, m9⟩ := M_c hM
  obtain ⟨q1, q2, q3⟩ := qM_c (P := P) (J := J) hM
  obtain ⟨σ2, h2, f2, t0⟩ := sp_X10_cobble d (by omega) xs t dd rr σ1 p w P J (MH_c hM hMH) (by rw [hM 97 (by decide), rpr.2.2.2.2.2.2.2.2.2]; exact hfl) (by rw [hM 104 (by decide), u3]; exact c6)
  have f : Fr [122, 58, 59, 60, 61, 62, 63, 107, 108, 109, 110, 111, 112, 113, 114, 115, 117, 118] [(57, 4), (57, 5), (71, 55), (71, 0)] σ σ2 := Fr.tr f1 f2 rfl rfl
  have ewh : ∀ c, whM σ1 P J c = whS σ P c := fun c => by
    unfold whM whS
    rw [m1, m2, eq_cob rj, eq_who rf.1.2.1 rj]
    exact sumZ_congr (fun q q0 q1 => by rw [(gi q q0 q1).1, (gi q q0 q1).2.1])
  have efa : ∀ c, faM σ1 P J c = faS σ P c := fun c => by
    unfold faM faS
    rw [m1, eq_cob rj, hM 97 (by decide), rpr.2.2.2.2.2.2.2.2.2]
    exact sumZ_congr (fun q q0 q1 => by rw [(gi q q0 q1).1])
  have efw : fwM σ1 P J = fwS σ P := by
    funext c
    unfold fwM fwS
    rw [m2, eq_who rf.1.2.1 rj, hM 97 (by decide), rpr.2.2.2.2.2.2.2.2.2]
    exact sumZ_congr (fun q q0 q1 => by rw [(gi q q0 q1).2.1])
  refine ⟨_, σ2, h2, (f2.at 122 0 rfl).trans (by rw [e1]; exact if_pos ⟨rfl, rfl⟩), ?_, P, J, ?_⟩
  · by_cases C : (0 ≤ p ∧ p < P) ∧ 0 ≤ w ∧ w ≤ 7
    · rw [if_pos C] at t0
      rw [if_pos C, if_pos C]
      refine Or.inl ⟨?_, t0⟩
      have hgp := (gi p C.1.1 C.1.2).1
      rw [m1, eq_cob rj, ← hgp]
      generalize σ 29 p = c at *
      obtain ⟨e1, e2, e3⟩ := eq_q rf rj gi c
      have emn : mny (cobS σ P J) P c = mny (σ 29) P c := mny_c (fun q q0 q1 => (gi q q0 q1).1.symm)
      have eho : tM σ1 P J c - whM σ1 P J c = sumZ (gg2 P c (hsS σ) (σ 14) (σ 29) (σ 30) (mtS σ J)) (8 * P) := by
        rw [q3, e3, ewh]
        have hg := gt2_1 (P := P) (c := c) (hs := hsS σ) (so := σ 14) (co := σ 29) (who := σ 30) (mt := mtS σ J) rp3 (8 * P).toNat
        rw [Int.toNat_of_nonneg (by omega)] at hg
        show (gt2 P c (hsS σ) (σ 14) (σ 29) (σ 30) (mtS σ J) (8 * P)).1 - _ = _
        rw [hg]
        show sumZ (gg1 c (σ 29) (σ 30)) P + _ - sumZ (fun p => b2i (σ 29 p = c ∧ σ 30 p = p)) P = _
        have : sumZ (gg1 c (σ 29) (σ 30)) P = sumZ (fun p => b2i (σ 29 p = c ∧ σ 30 p = p)) P := rfl
        omega
      have eop : sumZ (fun j => b2i (σ1 106 j = -1 ∧ cobS σ P J (σ1 102 j / 8) = c ∧ opM σ1 P J j = 1)) J = sumZ (fun j => b2i (opS σ P J j = 1 ∧ σ 29 (σ 22 j / 8) = c)) J := sumZ_congr (fun j j0 j1 => by
        have hr := hCB.2.2.2.2 j j0 j1
        rw [m8, eq_op rj, hM 106 (by decide), hM 102 (by decide), u1, u5, (gi (σ 22 j / 8) (by omega) (by omega)).1]
        by_cases z : opS σ P J j = 1 ∧ cobS σ P J (σ 22 j / 8) = c
        · have z1 : σ 26 j = -1 := by
            have := z.1
            unfold opS b2i at this
            split at this
            · rename_i y; exact y.1
            · omega
          rw [b2i_t ⟨z1, z.2, z.1⟩, b2i_t z]
        · rw [b2i_f z, b2i_f (fun y => z ⟨y.2.2, y.2.1⟩)])
      rw [emn, eho, eop, efa, ewh, q1, e1]
      congr 1
      unfold coV
      by_cases y : qS σ P J c < 0
      · simp only [if_pos y]
      · have ech : chM σ1 P J c = chS σ P J c := by
          unfold chM chS
          rw [ewh, efa, efw, q2, q3, e2, e3, if_pos (by omega)]
        rw [ech]
    · rw [if_neg C] at t0
      rw [if_neg C, if_neg C]
      exact Or.inr ⟨rfl, t0⟩
  refine ⟨⟨?_, ?_, ?_, ?_, ?_, ?_, ?_⟩, ?_, ?_⟩
  · unfold Ra at ra ⊢
    rw [f.at 71 24 rfl, f.at 0 8 rfl, f.at 71 71 rfl, f.at 0 9 rfl, f.at 71 72 rfl, f.at 0 10 rfl, f.at 71 25 rfl, f.at 36 2 rfl]; exact ra
  · unfold Rb at rb ⊢
    rw [f.at 71 2 rfl, f.at 52 0 rfl, f.at 71 65 rfl, f.at 64 2 rfl, f.fn 72 rfl, f.fn 53 rfl, f.fn 119 rfl, f.fn 120 rfl, f.fn 121 rfl, f.fn 65 rfl, f.fn 66 rfl, f.fn 67 rfl]; exact rb
  · unfold Rp PBs at rp ⊢
    rw [f.at 1 0 rfl, f.at 71 26 rfl, f.fn 88 rfl, f.fn 89 rfl, f.fn 90 rfl, f.fn 91 rfl, f.fn 92 rfl, f.fn 93 rfl, f.fn 94 rfl, f.fn 95 rfl, f.fn 96 rfl, f.fn 97 rfl, f.fn 2 rfl, f.fn 3 rfl, f.fn 4 rfl, f.fn 5 rfl, f.fn 6 rfl, f.fn 7 rfl, f.fn 8 rfl, f.fn 9 rfl, f.fn 10 rfl, f.fn 11 rfl]; exact rp
  · unfold Rf at rf ⊢
    rw [hsS_fn (f.fn 13 rfl), f.fn 98 rfl, f.fn 99 rfl, f.fn 101 rfl, f.fn 100 rfl, f.fn 116 rfl, f.fn 13 rfl, f.fn 14 rfl, f.fn 15 rfl, f.fn 16 rfl, f.fn 18 rfl]; exact rf
  · unfold Rj CW CB at rj ⊢
    rw [hsS_fn (f.fn 13 rfl), f.at 71 43 rfl, f.at 1 0 rfl, f.at 21 0 rfl, f.fn 102 rfl, f.fn 103 rfl, f.fn 104 rfl, f.fn 105 rfl, f.fn 106 rfl, f.fn 22 rfl, f.fn 23 rfl, f.fn 24 rfl, f.fn 25 rfl, f.fn 26 rfl, f.fn 27 rfl, f.fn 14 rfl, f.fn 17 rfl]; exact rj
  · exact GI_fs (f.fn 22 rfl) (f.fn 23 rfl) (f.fn 24 rfl) (f.fn 26 rfl) (f.fn 27 rfl) (f.fn 29 rfl) (f.fn 30 rfl) (f.fn 31 rfl) (f.fn 32 rfl) gi
  · exact Rt_fs (f.at 37 0 rfl) (f.at 44 0 rfl) (f.at 37 1 rfl) (f.at 44 1 rfl) (f.at 71 10 rfl) (f.fn 38 rfl) (f.fn 39 rfl) (f.fn 40 rfl) (f.fn 41 rfl) (f.fn 45 rfl) (f.fn 46 rfl) (f.fn 47 rfl) (f.fn 48 rfl) (f.fn 54 rfl) (f.fn 55 rfl) (f.fn 76 rfl) (f.fn 77 rfl) (f.fn 78 rfl) (f.fn 79 rfl) (f.fn 80 rfl) (f.fn 81 rfl) (f.fn 83 rfl) (f.fn 84 rfl) rt
  · exact HB_fs (f2.at 57 4 rfl) (f2.at 57 5 rfl) (f2.fn 13 rfl) (f2.fn 14 rfl) (f2.fn 17 rfl) (f2.fn 18 rfl) (f2.fn 22 rfl) (f2.fn 23 rfl) (f2.fn 29 rfl) (f2.fn 30 rfl) (f2.fn 58 rfl) (f2.fn 62 rfl) (f2.fn 63 rfl) b1
  · exact HG_fs (f.at 64 10 rfl) (f.at 64 11 rfl) (f.at 64 12 rfl) (f.at 64 13 rfl) (f.at 64 14 rfl) (f.fn 3 rfl) (f.fn 4 rfl) (f.fn 5 rfl) (f.fn 29 rfl) hg
set_option maxHeartbeats 1000000 in
theorem rx_of (d : Nat) (hd : 60 ≤ d) (xs : List (Nat × Nat)) (t dd rr : Nat) (σ : Sg) (P J : Int) (x w : Int) (hx : x < 2147483648) (hR : RR σ t dd P J) : ∃ (r1 : pV) (σ1 : Sg), Ev d 14 [(16, 0), (0, x), (0, w)] (Wd xs t dd rr σ) r1 (Wd xs t dd rr σ1) ∧ ∀ y0 : Int, ∃ (v : Int) (σ2 : Sg), Ev d 111 [(87, 0), (0, x), (0, w)] (Wd xs t dd rr (up2 σ1 122 0 y0)) (0, v) (Wd xs t dd rr σ2) ∧ σ2 122 0 = y0 ∧ ((r1 = (0, v) ∧ σ2 71 0 = 0) ∨ (r1 = (7, 0) ∧ σ2 71 0 = 1)) ∧ ∃ P' J', RR σ2 t dd P' J' := by
  obtain ⟨⟨ra, rb, rp, rf, rj, gi, rt⟩, hb, hg⟩ := hR
  obtain ⟨⟨rp1, rp2, rp3, rp4⟩, rpr, rpb, rps, -⟩ := id rp
  obtain ⟨⟨rf1, rf2, rf3, rf9⟩, rf4, rf5, rf6, rf7, rf8⟩ := id rf
  have hBH := BH_of rf rj gi
  have hMH := MHr_of rp rf rj
  have hfp : 0 ≤ x → x < 320 → x % 8 < σ 13 (x / 8) → x < 8 * P := fun a b c => by have := ((has_e rp rf x).mp ⟨a, b, c⟩).2.1; omega
  have h1 := sp_X9_of d (by omega) xs t dd rr σ x w P J hx hBH hfp ra.2.2.2
  refine ⟨_, σ, h1, fun y0 => ?_⟩
  have f1 : Fr [122] [] σ (up2 σ 122 0 y0) := Fr.u122 Fr.rf
  obtain ⟨σ1, e1⟩ : ∃ z : Sg, z = up2 σ 122 0 y0 := ⟨_, rfl⟩
  rw [← e1] at f1
  rw [← e1]
  have hM := frM f1 rfl rfl
  obtain ⟨⟨m1, m2, m3, m4⟩, ⟨m5, m6, m7, m8⟩, m9⟩ := M_c hM
  obtain ⟨σ2, h2, f2, t0⟩ := sp_X10_of d (by omega) xs t dd rr σ1 x w P J hx (MH_c hM hMH) (by rw [hM 71 (by decide), ra.2.2.1]; exact ra.2.2.2) (fun k k0 k1 => by rw [hM 100 (by decide)]; exact rf9 _)
  rw [m1, m2, m4, hM 98 (by decide), hM 99 (by decide), hM 100 (by decide), hM 71 (by decide), rf1, eq_cob rj, eq_who rf2 rj, rf2, ra.2.2.1] at h2
  rw [hM 98 (by decide), rf1] at t0
  have f : Fr [122, 107, 111, 112] [(71, 0)] σ σ2 := Fr.tr f1 f2 rfl rfl
  simp only [← has_e rp rf] at h2 t0
  refine ⟨_, σ2, h2, (f2.at 122 0 rfl).trans (by rw [e1]; exact if_pos ⟨rfl, rfl⟩), ?_, P, J, ?_⟩
  · by_cases C : (0 ≤ x ∧ x < 320 ∧ x % 8 < σ 13 (x / 8)) ∧ 0 ≤ w ∧ w ≤ 4
    · rw [if_pos C] at t0
      rw [if_pos C, if_pos C]
      refine Or.inl ⟨?_, t0⟩
      have hx8 := hfp C.1.1 C.1.2.1 C.1.2.2
      have hs := hs_1.mpr C.1.2.2
      have e0 := eq_mt rj C.1.1 hx8 hs
      have e2 : sumZ (fun k => σ 100 (8 * x + k)) 8 = sumZ (fun k => byt (σ 15 x) k) 8 := sumZ_congr (fun k k0 k1 => (rf7 x k C.1.1 C.1.2.1 k0 k1).1)
      have e3 : bl P (σ 14) (cobS σ P J) (whoS σ P J) (mtM σ J) x = blS σ P J x := by
        unfold blS bl
        have hm := (HHc_of rj).2.2 x C.1.1 hx8 hs
        have hco := ((HHc_of rj).2.1 (x / 8) (by omega) (by omega)).1
        rw [e0, (gi (x / 8) (by omega) (by omega)).1, mny_c (co := cobS σ P J) (co' := σ 29) (fun p p0 p1 => (gi p p0 p1).1.symm)]
        by_cases z : 0 ≤ mtS σ J x
        · rcases hm with y | y
          · omega
          · rw [(gi (mtS σ J x / 8) (by omega) (by omega)).2.1]
        · rw [if_neg z, if_neg z]
      rw [e0, e2, e3]
    · rw [if_neg C] at t0
      rw [if_neg C, if_neg C]
      exact Or.inr ⟨rfl, t0⟩
  refine ⟨⟨?_, ?_, ?_, ?_, ?_, ?_, ?_⟩, ?_, ?_⟩
  · unfold Ra at ra ⊢
    rw [f.at 71 24 rfl, f.at 0 8 rfl, f.at 71 71 rfl, f.at 0 9 rfl, f.at 71 72 rfl, f.at 0 10 rfl, f.at 71 25 rfl, f.at 36 2 rfl]; exact ra
  · unfold Rb at rb ⊢
    rw [f.at 71 2 rfl, f.at 52 0 rfl, f.at 71 65 rfl, f.at 64 2 rfl, f.fn 72 rfl, f.fn 53 rfl, f.fn 119 rfl, f.fn 120 rfl, f.fn 121 rfl, f.fn 65 rfl, f.fn 66 rfl, f.fn 67 rfl]; exact rb
  · unfold Rp PBs at rp ⊢
    rw [f.at 1 0 rfl, f.at 71 26 rfl, f.fn 88 rfl, f.fn 89 rfl, f.fn 90 rfl, f.fn 91 rfl, f.fn 92 rfl, f.fn 93 rfl, f.fn 94 rfl, f.fn 95 rfl, f.fn 96 rfl, f.fn 97 rfl, f.fn 2 rfl, f.fn 3 rfl, f.fn 4 rfl, f.fn 5 rfl, f.fn 6 rfl, f.fn 7 rfl, f.fn 8 rfl, f.fn 9 rfl, f.fn 10 rfl, f.fn 11 rfl]; exact rp
  · unfold Rf at rf ⊢
    rw [hsS_fn (f.fn 13 rfl), f.fn 98 rfl, f.fn 99 rfl, f.fn 101 rfl, f.fn 100 rfl, f.fn 116 rfl, f.fn 13 rfl, f.fn 14 rfl, f.fn 15 rfl, f.fn 16 rfl, f.fn 18 rfl]; exact rf
  · unfold Rj CW CB at rj ⊢
    rw [hsS_fn (f.fn 13 rfl), f.at 71 43 rfl, f.at 1 0 rfl, f.at 21 0 rfl, f.fn 102 rfl, f.fn 103 rfl, f.fn 104 rfl, f.fn 105 rfl, f.fn 106 rfl, f.fn 22 rfl, f.fn 23 rfl, f.fn 24 rfl, f.fn 25 rfl, f.fn 26 rfl, f.fn 27 rfl, f.fn 14 rfl, f.fn 17 rfl]; exact rj
  · exact GI_fs (f.fn 22 rfl) (f.fn 23 rfl) (f.fn 24 rfl) (f.fn 26 rfl) (f.fn 27 rfl) (f.fn 29 rfl) (f.fn 30 rfl) (f.fn 31 rfl) (f.fn 32 rfl) gi
  · exact Rt_fs (f.at 37 0 rfl) (f.at 44 0 rfl) (f.at 37 1 rfl) (f.at 44 1 rfl) (f.at 71 10 rfl) (f.fn 38 rfl) (f.fn 39 rfl) (f.fn 40 rfl) (f.fn 41 rfl) (f.fn 45 rfl) (f.fn 46 rfl) (f.fn 47 rfl) (f.fn 48 rfl) (f.fn 54 rfl) (f.fn 55 rfl) (f.fn 76 rfl) (f.fn 77 rfl) (f.fn 78 rfl) (f.fn 79 rfl) (f.fn 80 rfl) (f.fn 81 rfl) (f.fn 83 rfl) (f.fn 84 rfl) rt
  · exact HB_fs (f.at 57 4 rfl) (f.at 57 5 rfl) (f.fn 13 rfl) (f.fn 14 rfl) (f.fn 17 rfl) (f.fn 18 rfl) (f.fn 22 rfl) (f.fn 23 rfl) (f.fn 29 rfl) (f.fn 30 rfl) (f.fn 58 rfl) (f.fn 62 rfl) (f.fn 63 rfl) hb
  · exact HG_fs (f.at 64 10 rfl) (f.at 64 11 rfl) (f.at 64 12 rfl) (f.at 64 13 rfl) (f.at 64 14 rfl) (f.fn 3 rfl) (f.fn 4 rfl) (f.fn 5 rfl) (f.fn 29 rfl) hg

set_option maxHeartbeats 4000000 in
theorem rc_join (d : Nat) (hd : 60 ≤ d) (xs : List (Nat × Nat)) (t dd rr : Nat) (σ : Sg) (P J : Int) (a b : Int) (hab : a < 2147483648 ∧ b < 2147483648) (hR : RR σ t dd P J) : ∃ (r : Int) (σ1 σ2 : Sg), Ev d 10 [(16, 0), (0, a), (0, b)] (Wd xs t dd rr σ) (0, r) (Wd xs t dd rr σ1) ∧ Ev d 82 [(87, 0), (0, a), (0, b)] (Wd xs t dd rr σ1) (0, r) (Wd xs t dd rr σ2) ∧ ∃ P' J', RR σ2 t dd P' J' := by
  obtain ⟨⟨ra, rb, rp, rf, rj, gi, rt⟩, hb, hg⟩ := hR
  obtain ⟨t1, t2, t3, t4, t5, hh, N, M, kd, nu, len, K, W, w1, w2, w3, w4, w5, w6⟩ := id rt
  obtain ⟨⟨rp1, rp2, rp3, rp4⟩, rpr, rpb, rps, -⟩ := id rp
  obtain ⟨⟨rf1, rf2, rf3, rf9⟩, rf4, rf5, rf6, rf7, rf8⟩ := id rf
  have hJS : JS σ t P N kd nu len K W := ⟨⟨rp3, rp4⟩, rpb, fun f f0 f1 => (rf6 f f0 (by omega)).2, ra.2.2.2, w1, w2, w4⟩
  have hJM : JM σ P hh N kd nu len K W := by
    refine ⟨rp2, ⟨rp3, rp4⟩, ?_, ?_, fun i i0 i1 => ?_, ?_, ?_, w1, w3.1, w4⟩
    · unfold PBm PBs at *
      obtain ⟨u1, u2, u3, u4, u5, u6, u7, u8, u9, u10⟩ := rpr
      rw [u2, u3, u4, u5, u6, u7, u8, u9, u10]; exact rpb
    · rw [rf3]; exact fun f f0 f1 => (rf6 f f0 (by omega)).2
    · have := (rf7 (i / 8) (i % 8) (by omega) (by omega) (by omega) (by omega)).1
      rw [show 8 * (i / 8) + i % 8 = i by omega] at this
      rw [this]
      have := byt_bd (r := σ 15 (i / 8)) (k := i % 8)
      omega
    · rw [rpr.1]; exact fun p p0 p1 => (rps p p0 p1).1
    · rw [ra.2.2.1]; exact ra.2.2.2
  obtain ⟨⟨rj1, u1, u2, u3, u4, u5⟩, ⟨⟨c1, c2, c3, c4, c5⟩, c6, c7⟩, rj3, rj4⟩ := id rj
  obtain ⟨σ1, h1, n1, y1⟩ := sp_X9_join d (by omega) xs t dd rr σ a b J hab P N kd nu len K W hJS rf5 rj.2.1 ra.1.2
  have hM : ∀ r, 71 ≤ r ∧ r ≠ 122 → σ1 r = σ r := by
    by_cases C : ((0 ≤ a ∧ a < 320 ∧ a % 8 < σ 13 (a / 8)) ∧ (0 ≤ b ∧ b < 320 ∧ b % 8 < σ 13 (b / 8))) ∧ J < 80 ∧ (σ 17 a = -1 ∧ σ 17 b = -1) ∧ mayS σ N kd nu len K W a b = 1
    · exact frM (Fr.tr (r3 := [22, 23, 24, 25, 26, 27, 17, 29, 30, 31, 32, 34, 19, 20, 42, 43, 49, 50, 51]) (s3 := [(21, 0), (57, 4), (64, 10)]) ((((((((((Fr.rf).up rfl).up rfl).up rfl).up rfl).up rfl).up rfl).up rfl).up rfl).up rfl : Fr [22, 23, 24, 25, 26, 27, 17] [(21, 0)] σ _) (y1 C).1 rfl rfl) rfl rfl
    · exact frM (n1 C) rfl rfl
  obtain ⟨⟨m1, m2, m3, m4⟩, ⟨m5, m6, m7, m8⟩, m9⟩ := M_c hM
  obtain ⟨m10, m11, m12⟩ := m9 N kd nu len K W
  have hJM1 : JM σ1 P hh N kd nu len K W := by
    unfold JM PBm MT at hJM ⊢
    rw [hM 71 (by decide), hM 89 (by decide), hM 90 (by decide), hM 91 (by decide), hM 92 (by decide), hM 93 (by decide), hM 94 (by decide), hM 95 (by decide), hM 96 (by decide), hM 97 (by decide), hM 101 (by decide), hM 100 (by decide), hM 88 (by decide), hM 77 (by decide), hM 78 (by decide), hM 79 (by decide), hM 80 (by decide), hM 83 (by decide), hM 84 (by decide)]
    exact hJM
  obtain ⟨σ2, h2, n2, y2, t0⟩ := sp_X10_join d (by omega) xs t dd rr σ1 a b J hab P hh N kd nu len K W hJM1 (by rw [hM 71 (by decide)]; exact rj1) c4
  rw [m4, m11, hM 98 (by decide), rf1] at h2 n2 y2
  simp only [← has_e rp rf] at h2 n2 y2
  have hiff : (((0 ≤ a ∧ a < 320 ∧ a % 8 < σ 13 (a / 8)) ∧ (0 ≤ b ∧ b < 320 ∧ b % 8 < σ 13 (b / 8))) ∧ J < 80 ∧ (mtM σ J a < 0 ∧ mtM σ J b < 0) ∧ mayM σ N kd nu len K W a b = 1) ↔ (((0 ≤ a ∧ a < 320 ∧ a % 8 < σ 13 (a / 8)) ∧ (0 ≤ b ∧ b < 320 ∧ b % 8 < σ 13 (b / 8))) ∧ J < 80 ∧ (σ 17 a = -1 ∧ σ 17 b = -1) ∧ mayS σ N kd nu len K W a b = 1) := by
    have km : ∀ x, (0 ≤ x ∧ x < 320 ∧ x % 8 < σ 13 (x / 8)) → (mtM σ J x < 0 ↔ σ 17 x = -1) := fun x hx => by
      have hx8 : x < 8 * P := by have := ((has_e rp rf x).mp hx).2.1; omega
      have hs := hs_1.mpr hx.2.2
      rw [eq_mt rj hx.1 hx8 hs]
      rcases rj4 x hx.1 hx8 hs with z | z
      · unfold mtS
        rw [if_neg (by omega)]
        exact ⟨fun _ => z, fun _ => by omega⟩
      · unfold mtS
        rw [if_pos z.1]
        have h5 := c5 (σ 17 x) z.1.1 z.1.2
        constructor
        · intro y
          split at y <;> omega
        · intro y; omega
    constructor
    · intro z
      exact ⟨z.1, z.2.1, ⟨(km a z.1.1).mp z.2.2.1.1, (km b z.1.2).mp z.2.2.1.2⟩, by rw [← eq_may ra rp rf ⟨z.1.1.1, z.1.1.2.1⟩ ⟨z.1.2.1, z.1.2.2.1⟩]; exact z.2.2.2⟩
    · intro z
      exact ⟨z.1, z.2.1, ⟨(km a z.1.1).mpr z.2.2.1.1, (km b z.1.2).mpr z.2.2.1.2⟩, by rw [eq_may ra rp rf ⟨z.1.1.1, z.1.1.2.1⟩ ⟨z.1.2.1, z.1.2.2.1⟩]; exact z.2.2.2⟩
  by_cases C : ((0 ≤ a ∧ a < 320 ∧ a % 8 < σ 13 (a / 8)) ∧ (0 ≤ b ∧ b < 320 ∧ b % 8 < σ 13 (b / 8))) ∧ J < 80 ∧ (σ 17 a = -1 ∧ σ 17 b = -1) ∧ mayS σ N kd nu len K W a b = 1
  · obtain ⟨f1, gi1, k57, k64⟩ := y1 C
    have f2 := y2 (hiff.mpr C)
    have eF : fitM σ1 a b = fitS σ a b := by rw [m6, eq_fit rf ⟨C.1.1.1, C.1.1.2.1⟩ ⟨C.1.2.1, C.1.2.2.1⟩]
    have eT : σ1 71 24 = σ 0 8 := by rw [hM 71 (by decide)]; exact ra.1.1
    rw [eF, eT] at f2
    rw [if_pos (hiff.mpr C)] at h2
    rw [if_pos C] at h1
    refine ⟨J, σ1, σ2, h1, h2, P, J + 1, ?_⟩
    have F1 : Fr [22, 23, 24, 25, 26, 27, 17, 29, 30, 31, 32, 34, 19, 20, 42, 43, 49, 50, 51] [(21, 0), (57, 4), (64, 10)] σ σ1 := Fr.tr ((((((((((Fr.rf).up rfl).up rfl).up rfl).up rfl).up rfl).up rfl).up rfl).up rfl).up rfl : Fr [22, 23, 24, 25, 26, 27, 17] [(21, 0)] σ _) f1 rfl rfl
    have F2 : Fr [102, 103, 104, 105, 106, 85, 86, 87] [(71, 0), (71, 41), (71, 42), (71, 43)] σ1 σ2 := Fr.tr (((((((Fr.rf).up rfl).up rfl).up rfl).up rfl).up rfl).up rfl : Fr [102, 103, 104, 105, 106] [(71, 43)] σ1 _) f2 rfl rfl
    have f : Fr [22, 23, 24, 25, 26, 27, 17, 29, 30, 31, 32, 34, 19, 20, 42, 43, 49, 50, 51, 102, 103, 104, 105, 106, 85, 86, 87] [(21, 0), (57, 4), (64, 10), (71, 0), (71, 41), (71, 42), (71, 43)] σ σ2 := Fr.tr F1 F2 rfl rfl
    have q22 : σ2 22 = fup (σ 22) J a := by rw [F2.fn 22 rfl, f1.fn 22 rfl]; funext i; simp [up2, fup]
    have q23 : σ2 23 = fup (σ 23) J b := by rw [F2.fn 23 rfl, f1.fn 23 rfl]; funext i; simp [up2, fup]
    have q24 : σ2 24 = fup (σ 24) J (fitS σ a b % 8) := by rw [F2.fn 24 rfl, f1.fn 24 rfl]; funext i; simp [up2, fup]
    have q25 : σ2 25 = fup (σ 25) J (σ 0 8) := by rw [F2.fn 25 rfl, f1.fn 25 rfl]; funext i; simp [up2, fup]
    have q26 : σ2 26 = fup (σ 26) J (-1) := by rw [F2.fn 26 rfl, f1.fn 26 rfl]; funext i; simp [up2, fup]
    have q102 : σ2 102 = fup (σ 22) J a := by
      rw [f2.fn 102 rfl, ← u1, ← hM 102 (by decide)]
      funext i
      simp [up2, fup]
    have q103 : σ2 103 = fup (σ 23) J b := by
      rw [f2.fn 103 rfl, ← u2, ← hM 103 (by decide)]
      funext i
      simp [up2, fup]
    have q104 : σ2 104 = fup (σ 24) J (fitS σ a b % 8) := by
      rw [f2.fn 104 rfl, ← u3, ← hM 104 (by decide)]
      funext i
      simp [up2, fup]
    have q105 : σ2 105 = fup (σ 25) J (σ 0 8) := by
      rw [f2.fn 105 rfl, ← u4, ← hM 105 (by decide)]
      funext i
      simp [up2, fup]
    have q106 : σ2 106 = fup (σ 26) J (-1) := by
      rw [f2.fn 106 rfl, ← u5, ← hM 106 (by decide)]
      funext i
      simp [up2, fup]
    have q27 : σ2 27 = fup (σ 27) J (b2i (σ 14 a = 3)) := by rw [F2.fn 27 rfl, f1.fn 27 rfl]; funext i; simp [up2, fup]
    have q21 : σ2 21 0 = J + 1 := by rw [F2.at 21 0 rfl, f1.at 21 0 rfl]; simp [up2]
    have q43 : σ2 71 43 = J + 1 := by rw [f2.at 71 43 rfl]; simp [up2]
    have q17 : ∀ i, σ2 17 i = if i = b then J else if i = a then J else σ 17 i := fun i => by
      rw [F2.row 17 rfl, f1.row 17 rfl]
      by_cases w : i = b
      · rw [if_pos w, w]; simp [up2]
      · rw [if_neg w]
        by_cases y : i = a
        · rw [if_pos y, y]; simp [up2]
        · rw [if_neg y]; simp [up2, w, y]
    have hs2 : hsS σ2 = hsS σ := hsS_fn (f.fn 13 rfl)
    have hsa := hs_1.mpr C.1.1.2.2
    have hsb := hs_1.mpr C.1.2.2.2
    have ha8 : a < 8 * P := by have := ((has_e rp rf a).mp C.1.1).2.1; omega
    have hb8 : b < 8 * P := by have := ((has_e rp rf b).mp C.1.2).2.1; omega
    have hmay := C.2.2.2
    unfold mayS b2i at hmay
    have hmy : a / 8 ≠ b / 8 ∧ (σ 14 a = 0 ∧ σ 14 b = 1 ∨ σ 14 a = 1 ∧ σ 14 b = 0 ∨ σ 14 a = 3 ∧ σ 14 b = 3) := by
      split at hmay
      · rename_i z; exact ⟨z.1, z.2.1⟩
      · omega
    have h8 := ra.1.2
    refine ⟨⟨?_, ?_, ?_, ?_, ?_, ?_, ?_⟩, ?_, ?_⟩
    · unfold Ra at ra ⊢
      rw [f.at 71 24 rfl, f.at 0 8 rfl, f.at 71 71 rfl, f.at 0 9 rfl, f.at 71 72 rfl, f.at 0 10 rfl, f.at 71 25 rfl, f.at 36 2 rfl]; exact ra
    · unfold Rb at rb ⊢
      rw [f.at 71 2 rfl, f.at 52 0 rfl, f.at 71 65 rfl, f.at 64 2 rfl, f.fn 72 rfl, f.fn 53 rfl, f.fn 119 rfl, f.fn 120 rfl, f.fn 121 rfl, f.fn 65 rfl, f.fn 66 rfl, f.fn 67 rfl]; exact rb
    · unfold Rp PBs at rp ⊢
      rw [f.at 1 0 rfl, f.at 71 26 rfl, f.fn 88 rfl, f.fn 89 rfl, f.fn 90 rfl, f.fn 91 rfl, f.fn 92 rfl, f.fn 93 rfl, f.fn 94 rfl, f.fn 95 rfl, f.fn 96 rfl, f.fn 97 rfl, f.fn 2 rfl, f.fn 3 rfl, f.fn 4 rfl, f.fn 5 rfl, f.fn 6 rfl, f.fn 7 rfl, f.fn 8 rfl, f.fn 9 rfl, f.fn 10 rfl, f.fn 11 rfl]; exact rp
    · unfold Rf at rf ⊢
      rw [hsS_fn (f.fn 13 rfl), f.fn 98 rfl, f.fn 99 rfl, f.fn 101 rfl, f.fn 100 rfl, f.fn 116 rfl, f.fn 13 rfl, f.fn 14 rfl, f.fn 15 rfl, f.fn 16 rfl, f.fn 18 rfl]; exact rf
    · unfold Rj CW CB
      rw [hs2, q43, q102, q103, q104, q105, q106, q22, q23, q24, q25, q26, q27, f.fn 14 rfl, f.at 1 0 rfl, q21]
      refine ⟨⟨rfl, rfl, rfl, rfl, rfl, rfl⟩, ⟨⟨c1, rfl, c3, by omega, fun j j0 j1 => ?_⟩, fun j j0 j1 => ?_, fun j j0 j1 => ?_⟩, fun j j0 j1 => ?_, fun g g0 g1 hg1 => ?_⟩
      · by_cases w : j = J
        · rw [w, fup_s, fup_s]; omega
        · rw [fup_o w, fup_o w]; exact c5 j j0 (by omega)
      · by_cases w : j = J
        · rw [w, fup_s]; omega
        · rw [fup_o w]; exact c6 j j0 (by omega)
      · by_cases w : j = J
        · rw [w, fup_s, fup_s]; omega
        · rw [fup_o w, fup_o w]; exact c7 j j0 (by omega)
      · by_cases w : j = J
        · rw [w, fup_s, fup_s, fup_s, fup_s, fup_s]
          refine ⟨⟨hsa, hsb, hmy.1⟩, hmy.2, ?_, by omega, fun _ => ⟨?_, ?_⟩⟩
          · unfold b2i
            split
            · rename_i z; exact ⟨fun _ => z, fun _ => by omega⟩
            · rename_i z; exact ⟨fun y => absurd rfl y, fun y => absurd y z⟩
          · rw [q17]
            split
            · rfl
            · rw [if_pos rfl]
          · rw [q17, if_pos rfl]
        · rw [fup_o w, fup_o w, fup_o w, fup_o w, fup_o w]
          obtain ⟨r1, r2, r3, r4, r5⟩ := rj3 j j0 (by omega)
          refine ⟨r1, r2, r3, r4, fun y => ?_⟩
          have h5 := r5 y
          have k1 := C.2.2.1
          rw [q17, q17, if_neg (fun z => by rw [z] at h5; omega), if_neg (fun z => by rw [z] at h5; omega), if_neg (fun z => by rw [z] at h5; omega), if_neg (fun z => by rw [z] at h5; omega)]
          exact h5
      · rw [q17]
        by_cases w : g = b
        · rw [if_pos w, fup_s, fup_s, fup_s]
          exact Or.inr ⟨by omega, rfl, Or.inr w.symm⟩
        · rw [if_neg w]
          by_cases y : g = a
          · rw [if_pos y, fup_s, fup_s, fup_s]
            exact Or.inr ⟨by omega, rfl, Or.inl y.symm⟩
          · rw [if_neg y]
            rcases rj4 g g0 g1 hg1 with z | z
            · exact Or.inl z
            · rw [fup_o (by omega), fup_o (by omega), fup_o (by omega)]
              exact Or.inr ⟨by omega, z.2⟩
    · exact GI_fs (F2.fn 22 rfl) (F2.fn 23 rfl) (F2.fn 24 rfl) (F2.fn 26 rfl) (F2.fn 27 rfl) (F2.fn 29 rfl) (F2.fn 30 rfl) (F2.fn 31 rfl) (F2.fn 32 rfl) gi1
    · exact Rt_fs (f.at 37 0 rfl) (f.at 44 0 rfl) (f.at 37 1 rfl) (f.at 44 1 rfl) (f.at 71 10 rfl) (f.fn 38 rfl) (f.fn 39 rfl) (f.fn 40 rfl) (f.fn 41 rfl) (f.fn 45 rfl) (f.fn 46 rfl) (f.fn 47 rfl) (f.fn 48 rfl) (f.fn 54 rfl) (f.fn 55 rfl) (f.fn 76 rfl) (f.fn 77 rfl) (f.fn 78 rfl) (f.fn 79 rfl) (f.fn 80 rfl) (f.fn 81 rfl) (f.fn 83 rfl) (f.fn 84 rfl) rt
    · exact Or.inl (by rw [F2.at 57 4 rfl]; exact k57)
    · exact Or.inl (by rw [F2.at 64 10 rfl]; exact k64)
  · have f1 := n1 C
    have C2 := fun z => C (hiff.mp z)
    have f2 := n2 C2
    rw [if_neg C2] at h2
    rw [if_neg C] at h1
    refine ⟨-1, σ1, σ2, h1, h2, P, J, ?_⟩
    have f : Fr [19, 20, 42, 43, 49, 50, 51, 85, 86, 87] [(71, 0), (71, 41), (71, 42)] σ σ2 := Fr.tr f1 f2 rfl rfl
    refine ⟨⟨?_, ?_, ?_, ?_, ?_, ?_, ?_⟩, ?_, ?_⟩
    · unfold Ra at ra ⊢
      rw [f.at 71 24 rfl, f.at 0 8 rfl, f.at 71 71 rfl, f.at 0 9 rfl, f.at 71 72 rfl, f.at 0 10 rfl, f.at 71 25 rfl, f.at 36 2 rfl]; exact ra
    · unfold Rb at rb ⊢
      rw [f.at 71 2 rfl, f.at 52 0 rfl, f.at 71 65 rfl, f.at 64 2 rfl, f.fn 72 rfl, f.fn 53 rfl, f.fn 119 rfl, f.fn 120 rfl, f.fn 121 rfl, f.fn 65 rfl, f.fn 66 rfl, f.fn 67 rfl]; exact rb
    · unfold Rp PBs at rp ⊢
      rw [f.at 1 0 rfl, f.at 71 26 rfl, f.fn 88 rfl, f.fn 89 rfl, f.fn 90 rfl, f.fn 91 rfl, f.fn 92 rfl, f.fn 93 rfl, f.fn 94 rfl, f.fn 95 rfl, f.fn 96 rfl, f.fn 97 rfl, f.fn 2 rfl, f.fn 3 rfl, f.fn 4 rfl, f.fn 5 rfl, f.fn 6 rfl, f.fn 7 rfl, f.fn 8 rfl, f.fn 9 rfl, f.fn 10 rfl, f.fn 11 rfl]; exact rp
    · unfold Rf at rf ⊢
      rw [hsS_fn (f.fn 13 rfl), f.fn 98 rfl, f.fn 99 rfl, f.fn 101 rfl, f.fn 100 rfl, f.fn 116 rfl, f.fn 13 rfl, f.fn 14 rfl, f.fn 15 rfl, f.fn 16 rfl, f.fn 18 rfl]; exact rf
    · unfold Rj CW CB at rj ⊢
      rw [hsS_fn (f.fn 13 rfl), f.at 71 43 rfl, f.at 1 0 rfl, f.at 21 0 rfl, f.fn 102 rfl, f.fn 103 rfl, f.fn 104 rfl, f.fn 105 rfl, f.fn 106 rfl, f.fn 22 rfl, f.fn 23 rfl, f.fn 24 rfl, f.fn 25 rfl, f.fn 26 rfl, f.fn 27 rfl, f.fn 14 rfl, f.fn 17 rfl]; exact rj
    · exact GI_fs (f.fn 22 rfl) (f.fn 23 rfl) (f.fn 24 rfl) (f.fn 26 rfl) (f.fn 27 rfl) (f.fn 29 rfl) (f.fn 30 rfl) (f.fn 31 rfl) (f.fn 32 rfl) gi
    · exact Rt_fs (f.at 37 0 rfl) (f.at 44 0 rfl) (f.at 37 1 rfl) (f.at 44 1 rfl) (f.at 71 10 rfl) (f.fn 38 rfl) (f.fn 39 rfl) (f.fn 40 rfl) (f.fn 41 rfl) (f.fn 45 rfl) (f.fn 46 rfl) (f.fn 47 rfl) (f.fn 48 rfl) (f.fn 54 rfl) (f.fn 55 rfl) (f.fn 76 rfl) (f.fn 77 rfl) (f.fn 78 rfl) (f.fn 79 rfl) (f.fn 80 rfl) (f.fn 81 rfl) (f.fn 83 rfl) (f.fn 84 rfl) rt
    · exact HB_fs (f.at 57 4 rfl) (f.at 57 5 rfl) (f.fn 13 rfl) (f.fn 14 rfl) (f.fn 17 rfl) (f.fn 18 rfl) (f.fn 22 rfl) (f.fn 23 rfl) (f.fn 29 rfl) (f.fn 30 rfl) (f.fn 58 rfl) (f.fn 62 rfl) (f.fn 63 rfl) hb
    · exact HG_fs (f.at 64 10 rfl) (f.at 64 11 rfl) (f.at 64 12 rfl) (f.at 64 13 rfl) (f.at 64 14 rfl) (f.fn 3 rfl) (f.fn 4 rfl) (f.fn 5 rfl) (f.fn 29 rfl) hg

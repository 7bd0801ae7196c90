theorem hs_1 {σ : Sg} {f : Int} : hsS σ f = 1 ↔ f % 8 < σ 13 (f / 8) := by
  unfold hsS b2i
  split
  · exact ⟨fun _ => by assumption, fun _ => rfl⟩
  · exact ⟨fun z => by omega, fun z => by omega⟩
set_option maxHeartbeats 1000000 in
theorem rc_cuts (d : Nat) (hd : 60 ≤ d) (xs : List (Nat × Nat)) (t dd rr : Nat) (σ : Sg) (P J : Int) (a b w : Int) (ha : -2147483648 ≤ a ∧ a < 2147483648) (hbr : -2147483648 ≤ b ∧ b < 2147483648) (hR : RR σ t dd P J) : ∃ (r : Int) (σ1 σ2 : Sg), Ev d 16 [(16, 0), (0, a), (0, b), (0, w)] (Wd xs t dd rr σ) (0, r) (Wd xs t dd rr σ1) ∧ Ev d 102 [(87, 0), (0, a), (0, b), (0, w)] (Wd xs t dd rr σ1) (0, r) (Wd xs t dd rr σ2) ∧ ∃ P' J', RR σ2 t dd P' J' := by
  obtain ⟨⟨ra, rb, rp, rf, rj, gi, rt⟩, hb, hg⟩ := hR
  obtain ⟨⟨rf1, rf2, rf3, rf9⟩, rf4, rf5, rf6, rf7, rf8⟩ := id rf
  obtain ⟨⟨rp1, rp2, rp3, rp4⟩, -⟩ := id rp
  obtain ⟨σ1, h1, e1⟩ := sp_X9_cuts d (by omega) xs t dd rr σ a b w ha hbr
  have f1 : Fr [18] [(57, 4)] σ σ1 := by
    rw [e1]
    split
    · exact (((Fr.rf).up rfl).up rfl).up rfl
    · exact Fr.rf
  obtain ⟨σ2, h2, e2⟩ := sp_X10_cuts d (by omega) xs t dd rr σ1 a b w P (by rw [f1.at 71 26 rfl]; exact rp2) ⟨rp3, rp4⟩ ha hbr
  rw [f1.fn 98 rfl, f1.fn 99 rfl, rf1, rf2] at h2 e2
  have hex : ∀ x, (0 ≤ x ∧ x < 320 ∧ x % 8 < σ 13 (x / 8)) ↔ (0 ≤ x ∧ x / 8 < P ∧ x % 8 < σ 13 (x / 8)) := fun x => by
    constructor
    · intro z
      refine ⟨z.1, ?_, z.2.2⟩
      by_cases y : x / 8 < P
      · exact y
      · have := rf5 (x / 8) (by omega) (by omega); omega
    · intro z; exact ⟨z.1, by omega, z.2.2⟩
  have hCC : (((0 ≤ a ∧ a < 320 ∧ a % 8 < σ 13 (a / 8)) ∧ (0 ≤ b ∧ b < 320 ∧ b % 8 < σ 13 (b / 8)) ∧ (0 ≤ w ∧ w ≤ 9)) ∧ a ≠ b ∧ a / 8 = b / 8 ∧ σ 14 a = 0 ∧ σ 14 b = 0) ↔ (((0 ≤ a ∧ a / 8 < P ∧ a % 8 < σ 13 (a / 8)) ∧ (0 ≤ b ∧ b / 8 < P ∧ b % 8 < σ 13 (b / 8)) ∧ (0 ≤ w ∧ w ≤ 9)) ∧ a ≠ b ∧ a / 8 = b / 8 ∧ σ 14 a = 0 ∧ σ 14 b = 0) := by rw [hex a, hex b]
  simp only [← hCC] at h2 e2
  refine ⟨_, σ1, σ2, h1, h2, P, J, ?_⟩
  have f2 : Fr [116] [(71, 0)] σ1 σ2 := by
    rw [e2]
    split
    · exact (((Fr.rf).up rfl).up rfl).up rfl
    · exact (Fr.rf).up rfl
  have f : Fr [18, 116] [(57, 4), (71, 0)] σ σ2 := Fr.tr f1 f2 rfl rfl
  have hs2 : hsS σ2 = hsS σ := hsS_fn (f.fn 13 rfl)
  refine ⟨⟨?_, ?_, ?_, ?_, ?_, ?_, ?_⟩, ?_, ?_⟩
  · unfold Ra at ra ⊢
    rw [f.at 71 24 rfl, f.at 0 8 rfl, f.at 71 71 rfl, f.at 0 9 rfl, f.at 71 72 rfl, f.at 0 10 rfl, f.at 71 25 rfl, f.at 36 2 rfl]; exact ra
  · unfold Rb at rb ⊢
    rw [f.at 71 2 rfl, f.at 52 0 rfl, f.at 71 65 rfl, f.at 64 2 rfl, f.fn 72 rfl, f.fn 53 rfl, f.fn 119 rfl, f.fn 120 rfl, f.fn 121 rfl, f.fn 65 rfl, f.fn 66 rfl, f.fn 67 rfl]; exact rb
  · unfold Rp PBs at rp ⊢
    rw [f.at 1 0 rfl, f.at 71 26 rfl, f.fn 88 rfl, f.fn 89 rfl, f.fn 90 rfl, f.fn 91 rfl, f.fn 92 rfl, f.fn 93 rfl, f.fn 94 rfl, f.fn 95 rfl, f.fn 96 rfl, f.fn 97 rfl, f.fn 2 rfl, f.fn 3 rfl, f.fn 4 rfl, f.fn 5 rfl, f.fn 6 rfl, f.fn 7 rfl, f.fn 8 rfl, f.fn 9 rfl, f.fn 10 rfl, f.fn 11 rfl]; exact rp
  · by_cases C : ((0 ≤ a ∧ a < 320 ∧ a % 8 < σ 13 (a / 8)) ∧ (0 ≤ b ∧ b < 320 ∧ b % 8 < σ 13 (b / 8)) ∧ (0 ≤ w ∧ w ≤ 9)) ∧ a ≠ b ∧ a / 8 = b / 8 ∧ σ 14 a = 0 ∧ σ 14 b = 0
    · rw [if_pos C] at e1 e2
      have q18 : ∀ x, σ2 18 x = if x = b then nibSet (σ 18 b) (a % 8) 0 else if x = a then nibSet (σ 18 a) (b % 8) w else σ 18 x := fun x => by
        rw [e2, e1]
        by_cases z : x = b
        · rw [if_pos z, z]; simp [up2, show b ≠ a by omega]
        · rw [if_neg z]
          by_cases y : x = a
          · rw [if_pos y, y]; simp [up2, show a ≠ b by omega]
          · rw [if_neg y]; simp [up2, z, y]
      have q116 : ∀ x, σ2 116 x = if x = 8 * b + a % 8 then 0 else if x = 8 * a + b % 8 then w else σ 116 x := fun x => by
        rw [e2, e1]
        by_cases z : x = 8 * b + a % 8
        · rw [if_pos z, z]; simp [up2]
        · rw [if_neg z]
          by_cases y : x = 8 * a + b % 8
          · rw [if_pos y, y]; simp [up2, show 8 * a + b % 8 ≠ 8 * b + a % 8 by omega]
          · rw [if_neg y]; simp [up2, z, y]
      have key : ∀ f k, 0 ≤ f → f < 320 → 0 ≤ k → k < 8 → nib (σ2 18 f) k = if f = b ∧ k = a % 8 then 0 else if f = a ∧ k = b % 8 then w else nib (σ 18 f) k := fun f k f0 f1 k0 k1 => by
        rw [q18]
        by_cases z : f = b
        · rw [if_pos z, nib_set (by omega) ⟨k0, k1⟩ (by omega)]
          by_cases y : k = a % 8
          · rw [if_pos y, if_pos ⟨z, y⟩]
          · rw [if_neg y, if_neg (fun u => y u.2), if_neg (by omega), z]
        · rw [if_neg z, if_neg (show ¬ (f = b ∧ k = a % 8) from fun u => z u.1)]
          by_cases y : f = a
          · rw [if_pos y, nib_set (by omega) ⟨k0, k1⟩ (by omega)]
            by_cases u : k = b % 8
            · rw [if_pos u, if_pos ⟨y, u⟩]
            · rw [if_neg u, if_neg (fun v => u v.2), y]
          · rw [if_neg y, if_neg (fun v => y v.1)]
      refine ⟨by rw [f.fn 98 rfl, f.fn 99 rfl, f.fn 101 rfl, f.fn 13 rfl, f.fn 14 rfl, f.fn 16 rfl, f.fn 100 rfl]; exact ⟨rf1, rf2, rf3, rf9⟩, by rw [f.fn 13 rfl]; exact rf4, by rw [f.fn 13 rfl]; exact rf5, by rw [f.fn 14 rfl, f.fn 16 rfl]; exact rf6, fun g k g0 g1 k0 k1 => ?_, fun g k g0 g1 k0 k1 => ?_⟩
      · have h7 := rf7 g k g0 g1 k0 k1
        rw [f.fn 100 rfl, f.fn 15 rfl, key g k g0 g1 k0 k1, q116]
        refine ⟨h7.1, ?_⟩
        by_cases z : g = b ∧ k = a % 8
        · rw [if_pos z, if_pos (by omega)]
        · rw [if_neg z, if_neg (by omega)]
          by_cases y : g = a ∧ k = b % 8
          · rw [if_pos y, if_pos (by omega)]
          · rw [if_neg y, if_neg (by omega)]; exact h7.2
      · rw [hs2, key g k g0 g1 k0 k1]
        have hsa : hsS σ a = 1 := hs_1.mpr C.1.1.2.2
        have hsb : hsS σ b = 1 := hs_1.mpr C.1.2.1.2.2
        by_cases z : g = b ∧ k = a % 8
        · rw [if_pos z]; intro y; omega
        · rw [if_neg z]
          by_cases y : g = a ∧ k = b % 8
          · rw [if_pos y]
            intro _
            rw [y.1, y.2, show a / 8 * 8 + b % 8 = b by omega]
            exact ⟨hsa, hsb⟩
          · rw [if_neg y]; exact rf8 g k g0 g1 k0 k1
    · rw [if_neg C] at e1 e2
      have g' : Fr [] [(71, 0)] σ σ2 := by rw [e2, e1]; exact (Fr.rf).up rfl
      unfold Rf at rf ⊢
      rw [hsS_fn (g'.fn 13 rfl), g'.fn 98 rfl, g'.fn 99 rfl, g'.fn 101 rfl, g'.fn 100 rfl, g'.fn 116 rfl, g'.fn 13 rfl, g'.fn 14 rfl, g'.fn 15 rfl, g'.fn 16 rfl, g'.fn 18 rfl]; exact rf
  · unfold Rj CW CB at rj ⊢
    rw [hsS_fn (f.fn 13 rfl), f.at 71 43 rfl, f.at 1 0 rfl, f.at 21 0 rfl, f.fn 102 rfl, f.fn 103 rfl, f.fn 104 rfl, f.fn 105 rfl, f.fn 106 rfl, f.fn 22 rfl, f.fn 23 rfl, f.fn 24 rfl, f.fn 25 rfl, f.fn 26 rfl, f.fn 27 rfl, f.fn 14 rfl, f.fn 17 rfl]; exact rj
  · exact GI_fs (f.fn 22 rfl) (f.fn 23 rfl) (f.fn 24 rfl) (f.fn 26 rfl) (f.fn 27 rfl) (f.fn 29 rfl) (f.fn 30 rfl) (f.fn 31 rfl) (f.fn 32 rfl) gi
  · exact Rt_fs (f.at 37 0 rfl) (f.at 44 0 rfl) (f.at 37 1 rfl) (f.at 44 1 rfl) (f.at 71 10 rfl) (f.fn 38 rfl) (f.fn 39 rfl) (f.fn 40 rfl) (f.fn 41 rfl) (f.fn 45 rfl) (f.fn 46 rfl) (f.fn 47 rfl) (f.fn 48 rfl) (f.fn 54 rfl) (f.fn 55 rfl) (f.fn 76 rfl) (f.fn 77 rfl) (f.fn 78 rfl) (f.fn 79 rfl) (f.fn 80 rfl) (f.fn 81 rfl) (f.fn 83 rfl) (f.fn 84 rfl) rt
  · by_cases C : ((0 ≤ a ∧ a < 320 ∧ a % 8 < σ 13 (a / 8)) ∧ (0 ≤ b ∧ b < 320 ∧ b % 8 < σ 13 (b / 8)) ∧ (0 ≤ w ∧ w ≤ 9)) ∧ a ≠ b ∧ a / 8 = b / 8 ∧ σ 14 a = 0 ∧ σ 14 b = 0
    · rw [if_pos C] at e1 e2
      refine Or.inl ?_
      rw [f2.at 57 4 rfl, e1]; simp [up2]
    · rw [if_neg C] at e1 e2
      have g' : Fr [] [(71, 0)] σ σ2 := by rw [e2, e1]; exact (Fr.rf).up rfl
      exact HB_fs (g'.at 57 4 rfl) (g'.at 57 5 rfl) (g'.fn 13 rfl) (g'.fn 14 rfl) (g'.fn 17 rfl) (g'.fn 18 rfl) (g'.fn 22 rfl) (g'.fn 23 rfl) (g'.fn 29 rfl) (g'.fn 30 rfl) (g'.fn 58 rfl) (g'.fn 62 rfl) (g'.fn 63 rfl) hb
  · exact HG_fs (f.at 64 10 rfl) (f.at 64 11 rfl) (f.at 64 12 rfl) (f.at 64 13 rfl) (f.at 64 14 rfl) (f.fn 3 rfl) (f.fn 4 rfl) (f.fn 5 rfl) (f.fn 29 rfl) hg
set_option maxHeartbeats 2000000 in
theorem rc_piece (d : Nat) (hd : 60 ≤ d) (xs : List (Nat × Nat)) (t dd rr : Nat) (σ : Sg) (P J : Int) (a z x y l : Int) (hR : RR σ t dd P J) : ∃ (r : Int) (σ1 σ2 : Sg), Ev d 2 [(16, 0), (0, a), (0, z), (0, x), (0, y), (0, l)] (Wd xs t dd rr σ) (0, r) (Wd xs t dd rr σ1) ∧ Ev d 66 [(87, 0), (0, a), (0, z), (0, x), (0, y), (0, l)] (Wd xs t dd rr σ1) (0, r) (Wd xs t dd rr σ2) ∧ ∃ P' J', RR σ2 t dd P' J' := by
  obtain ⟨⟨ra, rb, rp, rf, rj, gi, rt⟩, hb, hg⟩ := hR
  obtain ⟨⟨rp1, rp2, rp3, rp4⟩, rpr, rpb, rps, rpz⟩ := id rp
  obtain ⟨σ1, h1, n1, y1⟩ := sp_X9_piece d (by omega) xs t dd rr σ a z x y l P J rj.2.1
  by_cases C : ((-1 ≤ a ∧ a ≤ 7) ∧ (1 ≤ z ∧ z ≤ 200) ∧ (0 ≤ x ∧ x ≤ 999) ∧ (0 ≤ y ∧ y ≤ 999) ∧ (0 ≤ l ∧ l ≤ 4)) ∧ P < 40
  · obtain ⟨f1, gi1, k57, k64⟩ := y1 C
    have F1 : Fr [2, 3, 4, 5, 6, 29, 30, 31, 32, 34] [(1, 0), (57, 4), (64, 10)] σ σ1 := Fr.tr (((((((Fr.rf).up rfl).up rfl).up rfl).up rfl).up rfl).up rfl : Fr [2, 3, 4, 5, 6] [(1, 0)] σ _) f1 rfl rfl
    have k26 : σ1 71 26 = P := by rw [F1.at 71 26 rfl]; exact rp2
    obtain ⟨σ2, h2, e2⟩ := sp_X10_piece d (by omega) xs t dd rr σ1 a z x y l (by rw [k26]; omega)
    rw [k26] at h2 e2
    rw [if_pos C] at h1 h2 e2
    refine ⟨P, σ1, σ2, h1, h2, P + 1, J, ?_⟩
    have f2 : Fr [88, 89, 90, 91, 92] [(71, 0), (71, 26)] σ1 σ2 := by rw [e2]; exact (((((((Fr.rf).up rfl).up rfl).up rfl).up rfl).up rfl).up rfl).up rfl
    have f : Fr [2, 3, 4, 5, 6, 29, 30, 31, 32, 34, 88, 89, 90, 91, 92] [(1, 0), (57, 4), (64, 10), (71, 0), (71, 26)] σ σ2 := Fr.tr F1 f2 rfl rfl
    have q2 : σ2 2 = fup (σ 2) P a := by rw [f2.fn 2 rfl, f1.fn 2 rfl]; funext i; simp [up2, fup]
    have q3 : σ2 3 = fup (σ 3) P z := by rw [f2.fn 3 rfl, f1.fn 3 rfl]; funext i; simp [up2, fup]
    have q4 : σ2 4 = fup (σ 4) P x := by rw [f2.fn 4 rfl, f1.fn 4 rfl]; funext i; simp [up2, fup]
    have q5 : σ2 5 = fup (σ 5) P y := by rw [f2.fn 5 rfl, f1.fn 5 rfl]; funext i; simp [up2, fup]
    have q6 : σ2 6 = fup (σ 6) P l := by rw [f2.fn 6 rfl, f1.fn 6 rfl]; funext i; simp [up2, fup]
    have q88 : σ2 88 = fup (σ 88) P a := by rw [e2, ← F1.fn 88 rfl]; funext i; simp [up2, fup]
    have q89 : σ2 89 = fup (σ 89) P z := by rw [e2, ← F1.fn 89 rfl]; funext i; simp [up2, fup]
    have q90 : σ2 90 = fup (σ 90) P x := by rw [e2, ← F1.fn 90 rfl]; funext i; simp [up2, fup]
    have q91 : σ2 91 = fup (σ 91) P y := by rw [e2, ← F1.fn 91 rfl]; funext i; simp [up2, fup]
    have q92 : σ2 92 = fup (σ 92) P l := by rw [e2, ← F1.fn 92 rfl]; funext i; simp [up2, fup]
    have q1 : σ2 1 0 = P + 1 := by rw [f2.at 1 0 rfl, f1.at 1 0 rfl]; simp [up2]
    have q71 : σ2 71 26 = P + 1 := by rw [e2]; simp [up2]
    obtain ⟨rf1, rf4, rf5, rf6, rf7, rf8⟩ := id rf
    have h13 : σ 13 P = 0 := rf5 P (Int.le_refl _) (by omega)
    have hs2 : hsS σ2 = hsS σ := hsS_fn (f.fn 13 rfl)
    refine ⟨⟨?_, ?_, ?_, ?_, ?_, ?_, ?_⟩, ?_, ?_⟩
    · unfold Ra at ra ⊢
      rw [f.at 71 24 rfl, f.at 0 8 rfl, f.at 71 71 rfl, f.at 0 9 rfl, f.at 71 72 rfl, f.at 0 10 rfl, f.at 71 25 rfl, f.at 36 2 rfl]; exact ra
    · unfold Rb at rb ⊢
      rw [f.at 71 2 rfl, f.at 52 0 rfl, f.at 71 65 rfl, f.at 64 2 rfl, f.fn 72 rfl, f.fn 53 rfl, f.fn 119 rfl, f.fn 120 rfl, f.fn 121 rfl, f.fn 65 rfl, f.fn 66 rfl, f.fn 67 rfl]; exact rb
    · obtain ⟨u1, u2, u3, u4, u5, u6, u7, u8, u9, u10⟩ := rpr
      refine ⟨⟨q1, q71, by omega, by omega⟩, ?_, ?_, ?_, ?_⟩
      · rw [q88, q89, q90, q91, q92, q2, q3, q4, q5, q6, f.fn 93 rfl, f.fn 94 rfl, f.fn 95 rfl, f.fn 96 rfl, f.fn 97 rfl, f.fn 7 rfl, f.fn 8 rfl, f.fn 9 rfl, f.fn 10 rfl, f.fn 11 rfl, u1, u2, u3, u4, u5]
        exact ⟨rfl, rfl, rfl, rfl, rfl, u6, u7, u8, u9, u10⟩
      · unfold PBs at rpb ⊢
        rw [q3, q4, q5, q6, f.fn 7 rfl, f.fn 8 rfl, f.fn 9 rfl, f.fn 10 rfl, f.fn 11 rfl]
        intro p p0 p1
        by_cases w : p = P
        · have hz := rpz P (Int.le_refl _) (by omega)
          rw [w, fup_s, fup_s, fup_s, fup_s]
          omega
        · rw [fup_o w, fup_o w, fup_o w, fup_o w]; exact rpb p p0 (by omega)
      · rw [q2]
        intro p p0 p1
        by_cases w : p = P
        · rw [w, fup_s]; omega
        · rw [fup_o w]; exact rps p p0 (by omega)
      · rw [f.fn 7 rfl, f.fn 8 rfl, f.fn 9 rfl, f.fn 10 rfl, f.fn 11 rfl]
        exact fun p p0 p1 => rpz p (by omega) p1
    · unfold Rf
      rw [hs2, f.fn 98 rfl, f.fn 99 rfl, f.fn 101 rfl, f.fn 100 rfl, f.fn 116 rfl, f.fn 13 rfl, f.fn 14 rfl, f.fn 15 rfl, f.fn 16 rfl, f.fn 18 rfl]
      refine ⟨rf1, fun p p0 p1 => ?_, fun p p0 p1 => rf5 p (by omega) p1, rf6, rf7, rf8⟩
      by_cases w : p = P
      · rw [w, h13]; omega
      · exact rf4 p p0 (by omega)
    · obtain ⟨rj1, ⟨⟨c1, c2, c3, c4, c5⟩, c6, c7⟩, rj3, rj4⟩ := id rj
      unfold Rj CW CB
      rw [hs2, f.at 71 43 rfl, f.fn 102 rfl, f.fn 103 rfl, f.fn 104 rfl, f.fn 105 rfl, f.fn 106 rfl, f.fn 22 rfl, f.fn 23 rfl, f.fn 24 rfl, f.fn 25 rfl, f.fn 26 rfl, f.fn 27 rfl, f.fn 14 rfl, f.fn 17 rfl, f.at 21 0 rfl]
      refine ⟨rj1, ⟨⟨q1, c2, by omega, c4, fun j j0 j1 => by have := c5 j j0 j1; omega⟩, c6, c7⟩, rj3, fun g g0 g1 hg1 => ?_⟩
      by_cases w : g < 8 * P
      · exact rj4 g g0 w hg1
      · have := hs_1.mp hg1
        rw [show g / 8 = P by omega, h13] at this
        omega
    · exact GI_fs (f2.fn 22 rfl) (f2.fn 23 rfl) (f2.fn 24 rfl) (f2.fn 26 rfl) (f2.fn 27 rfl) (f2.fn 29 rfl) (f2.fn 30 rfl) (f2.fn 31 rfl) (f2.fn 32 rfl) gi1
    · exact Rt_fs (f.at 37 0 rfl) (f.at 44 0 rfl) (f.at 37 1 rfl) (f.at 44 1 rfl) (f.at 71 10 rfl) (f.fn 38 rfl) (f.fn 39 rfl) (f.fn 40 rfl) (f.fn 41 rfl) (f.fn 45 rfl) (f.fn 46 rfl) (f.fn 47 rfl) (f.fn 48 rfl) (f.fn 54 rfl) (f.fn 55 rfl) (f.fn 76 rfl) (f.fn 77 rfl) (f.fn 78 rfl) (f.fn 79 rfl) (f.fn 80 rfl) (f.fn 81 rfl) (f.fn 83 rfl) (f.fn 84 rfl) rt
    · exact Or.inl (by rw [f2.at 57 4 rfl]; exact k57)
    · exact Or.inl (by rw [f2.at 64 10 rfl]; exact k64)
  · have e1 := n1 C
    rw [e1] at h1
    obtain ⟨σ2, h2, e2⟩ := sp_X10_piece d (by omega) xs t dd rr σ a z x y l (by rw [rp2]; omega)
    rw [rp2] at h2 e2
    rw [if_neg C] at h1 h2 e2
    refine ⟨-1, σ, σ2, h1, h2, P, J, ?_⟩
    have f : Fr [] [(71, 0)] σ σ2 := by rw [e2]; exact (Fr.rf).up rfl
    refine ⟨⟨?_, ?_, ?_, ?_, ?_, ?_, ?_⟩, ?_, ?_⟩
    · unfold Ra at ra ⊢
      rw [f.at 71 24 rfl, f.at 0 8 rfl, f.at 71 71 rfl, f.at 0 9 rfl, f.at 71 72 rfl, f.at 0 10 rfl, f.at 71 25 rfl, f.at 36 2 rfl]; exact ra
    · unfold Rb at rb ⊢
      rw [f.at 71 2 rfl, f.at 52 0 rfl, f.at 71 65 rfl, f.at 64 2 rfl, f.fn 72 rfl, f.fn 53 rfl, f.fn 119 rfl, f.fn 120 rfl, f.fn 121 rfl, f.fn 65 rfl, f.fn 66 rfl, f.fn 67 rfl]; exact rb
    · unfold Rp PBs at rp ⊢
      rw [f.at 1 0 rfl, f.at 71 26 rfl, f.fn 88 rfl, f.fn 89 rfl, f.fn 90 rfl, f.fn 91 rfl, f.fn 92 rfl, f.fn 93 rfl, f.fn 94 rfl, f.fn 95 rfl, f.fn 96 rfl, f.fn 97 rfl, f.fn 2 rfl, f.fn 3 rfl, f.fn 4 rfl, f.fn 5 rfl, f.fn 6 rfl, f.fn 7 rfl, f.fn 8 rfl, f.fn 9 rfl, f.fn 10 rfl, f.fn 11 rfl]; exact rp
    · unfold Rf at rf ⊢
      rw [hsS_fn (f.fn 13 rfl), f.fn 98 rfl, f.fn 99 rfl, f.fn 101 rfl, f.fn 100 rfl, f.fn 116 rfl, f.fn 13 rfl, f.fn 14 rfl, f.fn 15 rfl, f.fn 16 rfl, f.fn 18 rfl]; exact rf
    · unfold Rj CW CB at rj ⊢
      rw [hsS_fn (f.fn 13 rfl), f.at 71 43 rfl, f.at 1 0 rfl, f.at 21 0 rfl, f.fn 102 rfl, f.fn 103 rfl, f.fn 104 rfl, f.fn 105 rfl, f.fn 106 rfl, f.fn 22 rfl, f.fn 23 rfl, f.fn 24 rfl, f.fn 25 rfl, f.fn 26 rfl, f.fn 27 rfl, f.fn 14 rfl, f.fn 17 rfl]; exact rj
    · exact GI_fs (f.fn 22 rfl) (f.fn 23 rfl) (f.fn 24 rfl) (f.fn 26 rfl) (f.fn 27 rfl) (f.fn 29 rfl) (f.fn 30 rfl) (f.fn 31 rfl) (f.fn 32 rfl) gi
    · exact Rt_fs (f.at 37 0 rfl) (f.at 44 0 rfl) (f.at 37 1 rfl) (f.at 44 1 rfl) (f.at 71 10 rfl) (f.fn 38 rfl) (f.fn 39 rfl) (f.fn 40 rfl) (f.fn 41 rfl) (f.fn 45 rfl) (f.fn 46 rfl) (f.fn 47 rfl) (f.fn 48 rfl) (f.fn 54 rfl) (f.fn 55 rfl) (f.fn 76 rfl) (f.fn 77 rfl) (f.fn 78 rfl) (f.fn 79 rfl) (f.fn 80 rfl) (f.fn 81 rfl) (f.fn 83 rfl) (f.fn 84 rfl) rt
    · exact HB_fs (f.at 57 4 rfl) (f.at 57 5 rfl) (f.fn 13 rfl) (f.fn 14 rfl) (f.fn 17 rfl) (f.fn 18 rfl) (f.fn 22 rfl) (f.fn 23 rfl) (f.fn 29 rfl) (f.fn 30 rfl) (f.fn 58 rfl) (f.fn 62 rfl) (f.fn 63 rfl) hb
    · exact HG_fs (f.at 64 10 rfl) (f.at 64 11 rfl) (f.at 64 12 rfl) (f.at 64 13 rfl) (f.at 64 14 rfl) (f.fn 3 rfl) (f.fn 4 rfl) (f.fn 5 rfl) (f.fn 29 rfl) hg

set_option maxHeartbeats 1000000 in
theorem rc_asOf (d : Nat) (hd : 60 ≤ d) (xs : List (Nat × Nat)) (t dd rr : Nat) (σ : Sg) (P J : Int) (p n : Int) (hR : RR σ t dd P J) : ∃ (r : Int) (σ1 σ2 : Sg), Ev d 15 [(16, 0), (0, p), (0, n)] (Wd xs t dd rr σ) (0, r) (Wd xs t dd rr σ1) ∧ Ev d 86 [(87, 0), (0, p), (0, n)] (Wd xs t dd rr σ1) (0, r) (Wd xs t dd rr σ2) ∧ ∃ P' J', RR σ2 t dd P' J' := by
  obtain ⟨⟨ra, rb, rp, rf, rj, gi, rt⟩, hb, hg⟩ := hR
  have hMB := MB_of rp rj
  obtain ⟨⟨rj1, u1, u2, u3, u4, u5⟩, ⟨hCB, -⟩, -, -⟩ := id rj
  obtain ⟨σ1, h1, f1⟩ := sp_X9_asOf d (by omega) xs t dd rr σ p n P J hCB
  have hMB1 : MB σ1 P J := by
    unfold MB at hMB ⊢
    rw [f1.at 71 26 rfl, f1.at 71 43 rfl, f1.fn 102 rfl, f1.fn 103 rfl]; exact hMB
  obtain ⟨σ2, h2, f2⟩ := sp_X10_asOf d (by omega) xs t dd rr σ1 p n P J hMB1
  have f : Fr [33, 107] [(71, 0)] σ σ2 := Fr.tr f1 f2 rfl rfl
  have e24 : σ1 71 24 = σ 0 8 := by rw [f1.at 71 24 rfl]; exact ra.1.1
  have er : (if (0 ≤ p ∧ p < P) ∧ (0 ≤ n ∧ n ≤ σ1 71 24) then lab P J (onD σ1 n 0) (σ1 102) (σ1 103) p else -1) = (if (0 ≤ p ∧ p < P) ∧ (0 ≤ n ∧ n ≤ σ 0 8) then lab P J (onC σ n 0) (σ 22) (σ 23) p else -1) := by
    rw [e24, f1.fn 102 rfl, f1.fn 103 rfl, u1, u2]
    by_cases C : (0 ≤ p ∧ p < P) ∧ (0 ≤ n ∧ n ≤ σ 0 8)
    · rw [if_pos C, if_pos C]
      have : lab P J (onD σ1 n 0) (σ 22) (σ 23) = lab P J (onC σ n 0) (σ 22) (σ 23) := lab_on hCB.2.2.2.1.1 (fun j j0 j1 => by
        unfold onD onC
        rw [f1.fn 105 rfl, f1.fn 106 rfl, u4, u5]
        congr 1
        apply propext
        constructor
        · intro z; exact ⟨by omega, Or.inr rfl⟩
        · intro z; exact ⟨by omega, Or.inl rfl⟩)
      rw [this]
    · rw [if_neg C, if_neg C]
  rw [er] at h2
  refine ⟨_, σ1, σ2, h1, h2, P, J, ?_⟩
  refine ⟨⟨?_, ?_, ?_, ?_, ?_, ?_, ?_⟩, ?_, ?_⟩
  · unfold Ra at ra ⊢
    rw [f.at 71 24 rfl, f.at 0 8 rfl, f.at 71 71 rfl, f.at 0 9 rfl, f.at 71 72 rfl, f.at 0 10 rfl, f.at 71 25 rfl, f.at 36 2 rfl]; exact ra
  · unfold Rb at rb ⊢
    rw [f.at 71 2 rfl, f.at 52 0 rfl, f.at 71 65 rfl, f.at 64 2 rfl, f.fn 72 rfl, f.fn 53 rfl, f.fn 119 rfl, f.fn 120 rfl, f.fn 121 rfl, f.fn 65 rfl, f.fn 66 rfl, f.fn 67 rfl]; exact rb
  · unfold Rp PBs at rp ⊢
    rw [f.at 1 0 rfl, f.at 71 26 rfl, f.fn 88 rfl, f.fn 89 rfl, f.fn 90 rfl, f.fn 91 rfl, f.fn 92 rfl, f.fn 93 rfl, f.fn 94 rfl, f.fn 95 rfl, f.fn 96 rfl, f.fn 97 rfl, f.fn 2 rfl, f.fn 3 rfl, f.fn 4 rfl, f.fn 5 rfl, f.fn 6 rfl, f.fn 7 rfl, f.fn 8 rfl, f.fn 9 rfl, f.fn 10 rfl, f.fn 11 rfl]; exact rp
  · unfold Rf at rf ⊢
    rw [hsS_fn (f.fn 13 rfl), f.fn 98 rfl, f.fn 99 rfl, f.fn 101 rfl, f.fn 100 rfl, f.fn 116 rfl, f.fn 13 rfl, f.fn 14 rfl, f.fn 15 rfl, f.fn 16 rfl, f.fn 18 rfl]; exact rf
  · unfold Rj CW CB at rj ⊢
    rw [hsS_fn (f.fn 13 rfl), f.at 71 43 rfl, f.at 1 0 rfl, f.at 21 0 rfl, f.fn 102 rfl, f.fn 103 rfl, f.fn 104 rfl, f.fn 105 rfl, f.fn 106 rfl, f.fn 22 rfl, f.fn 23 rfl, f.fn 24 rfl, f.fn 25 rfl, f.fn 26 rfl, f.fn 27 rfl, f.fn 14 rfl, f.fn 17 rfl]; exact rj
  · exact GI_fs (f.fn 22 rfl) (f.fn 23 rfl) (f.fn 24 rfl) (f.fn 26 rfl) (f.fn 27 rfl) (f.fn 29 rfl) (f.fn 30 rfl) (f.fn 31 rfl) (f.fn 32 rfl) gi
  · exact Rt_fs (f.at 37 0 rfl) (f.at 44 0 rfl) (f.at 37 1 rfl) (f.at 44 1 rfl) (f.at 71 10 rfl) (f.fn 38 rfl) (f.fn 39 rfl) (f.fn 40 rfl) (f.fn 41 rfl) (f.fn 45 rfl) (f.fn 46 rfl) (f.fn 47 rfl) (f.fn 48 rfl) (f.fn 54 rfl) (f.fn 55 rfl) (f.fn 76 rfl) (f.fn 77 rfl) (f.fn 78 rfl) (f.fn 79 rfl) (f.fn 80 rfl) (f.fn 81 rfl) (f.fn 83 rfl) (f.fn 84 rfl) rt
  · exact HB_fs (f.at 57 4 rfl) (f.at 57 5 rfl) (f.fn 13 rfl) (f.fn 14 rfl) (f.fn 17 rfl) (f.fn 18 rfl) (f.fn 22 rfl) (f.fn 23 rfl) (f.fn 29 rfl) (f.fn 30 rfl) (f.fn 58 rfl) (f.fn 62 rfl) (f.fn 63 rfl) hb
  · exact HG_fs (f.at 64 10 rfl) (f.at 64 11 rfl) (f.at 64 12 rfl) (f.at 64 13 rfl) (f.at 64 14 rfl) (f.fn 3 rfl) (f.fn 4 rfl) (f.fn 5 rfl) (f.fn 29 rfl) hg
set_option maxHeartbeats 1000000 in
theorem rc_hour (d : Nat) (hd : 60 ≤ d) (xs : List (Nat × Nat)) (t dd rr : Nat) (σ : Sg) (P J : Int) (l : Int) (hR : RR σ t dd P J) : ∃ (r : Int) (σ1 σ2 : Sg), Ev d 21 [(16, 0), (0, l)] (Wd xs t dd rr σ) (0, r) (Wd xs t dd rr σ1) ∧ Ev d 121 [(87, 0), (0, l)] (Wd xs t dd rr σ1) (0, r) (Wd xs t dd rr σ2) ∧ ∃ P' J', RR σ2 t dd P' J' := by
  obtain ⟨⟨ra, rb, rp, rf, rj, gi, rt⟩, hb, hg⟩ := hR
  have hMB := MB_of rp rj
  obtain ⟨⟨rj1, u1, u2, u3, u4, u5⟩, ⟨hCB, -⟩, -, -⟩ := id rj
  obtain ⟨-, rpr, rpb, -⟩ := id rp
  obtain ⟨σ1, h1, f1⟩ := sp_X9_hour d (by omega) xs t dd rr σ l P J hCB (fun p p0 p1 => (rpb p p0 p1).2.2.2.1)
  have hMB1 : MB σ1 P J := by
    unfold MB at hMB ⊢
    rw [f1.at 71 26 rfl, f1.at 71 43 rfl, f1.fn 102 rfl, f1.fn 103 rfl]; exact hMB
  obtain ⟨σ2, h2, f2⟩ := sp_X10_hour d (by omega) xs t dd rr σ1 l P J hMB1 (by rw [f1.fn 92 rfl, rpr.2.2.2.2.1]; exact fun p p0 p1 => (rpb p p0 p1).2.2.2.1)
  have f : Fr [35] [(71, 0)] σ σ2 := Fr.tr f1 f2 rfl rfl
  have er : lab 5 J (onM σ1) (lyM σ1 102) (lyM σ1 103) = lab 5 J (onS σ) (lyS σ 22) (lyS σ 23) := by
    unfold onM onS lyM lyS
    rw [f1.fn 106 rfl, f1.fn 102 rfl, f1.fn 103 rfl, f1.fn 92 rfl, u1, u2, u5, rpr.2.2.2.2.1]
  rw [er] at h2
  refine ⟨_, σ1, σ2, h1, h2, P, J, ?_⟩
  refine ⟨⟨?_, ?_, ?_, ?_, ?_, ?_, ?_⟩, ?_, ?_⟩
  · unfold Ra at ra ⊢
    rw [f.at 71 24 rfl, f.at 0 8 rfl, f.at 71 71 rfl, f.at 0 9 rfl, f.at 71 72 rfl, f.at 0 10 rfl, f.at 71 25 rfl, f.at 36 2 rfl]; exact ra
  · unfold Rb at rb ⊢
    rw [f.at 71 2 rfl, f.at 52 0 rfl, f.at 71 65 rfl, f.at 64 2 rfl, f.fn 72 rfl, f.fn 53 rfl, f.fn 119 rfl, f.fn 120 rfl, f.fn 121 rfl, f.fn 65 rfl, f.fn 66 rfl, f.fn 67 rfl]; exact rb
  · unfold Rp PBs at rp ⊢
    rw [f.at 1 0 rfl, f.at 71 26 rfl, f.fn 88 rfl, f.fn 89 rfl, f.fn 90 rfl, f.fn 91 rfl, f.fn 92 rfl, f.fn 93 rfl, f.fn 94 rfl, f.fn 95 rfl, f.fn 96 rfl, f.fn 97 rfl, f.fn 2 rfl, f.fn 3 rfl, f.fn 4 rfl, f.fn 5 rfl, f.fn 6 rfl, f.fn 7 rfl, f.fn 8 rfl, f.fn 9 rfl, f.fn 10 rfl, f.fn 11 rfl]; exact rp
  · unfold Rf at rf ⊢
    rw [hsS_fn (f.fn 13 rfl), f.fn 98 rfl, f.fn 99 rfl, f.fn 101 rfl, f.fn 100 rfl, f.fn 116 rfl, f.fn 13 rfl, f.fn 14 rfl, f.fn 15 rfl, f.fn 16 rfl, f.fn 18 rfl]; exact rf
  · unfold Rj CW CB at rj ⊢
    rw [hsS_fn (f.fn 13 rfl), f.at 71 43 rfl, f.at 1 0 rfl, f.at 21 0 rfl, f.fn 102 rfl, f.fn 103 rfl, f.fn 104 rfl, f.fn 105 rfl, f.fn 106 rfl, f.fn 22 rfl, f.fn 23 rfl, f.fn 24 rfl, f.fn 25 rfl, f.fn 26 rfl, f.fn 27 rfl, f.fn 14 rfl, f.fn 17 rfl]; exact rj
  · exact GI_fs (f.fn 22 rfl) (f.fn 23 rfl) (f.fn 24 rfl) (f.fn 26 rfl) (f.fn 27 rfl) (f.fn 29 rfl) (f.fn 30 rfl) (f.fn 31 rfl) (f.fn 32 rfl) gi
  · exact Rt_fs (f.at 37 0 rfl) (f.at 44 0 rfl) (f.at 37 1 rfl) (f.at 44 1 rfl) (f.at 71 10 rfl) (f.fn 38 rfl) (f.fn 39 rfl) (f.fn 40 rfl) (f.fn 41 rfl) (f.fn 45 rfl) (f.fn 46 rfl) (f.fn 47 rfl) (f.fn 48 rfl) (f.fn 54 rfl) (f.fn 55 rfl) (f.fn 76 rfl) (f.fn 77 rfl) (f.fn 78 rfl) (f.fn 79 rfl) (f.fn 80 rfl) (f.fn 81 rfl) (f.fn 83 rfl) (f.fn 84 rfl) rt
  · exact HB_fs (f.at 57 4 rfl) (f.at 57 5 rfl) (f.fn 13 rfl) (f.fn 14 rfl) (f.fn 17 rfl) (f.fn 18 rfl) (f.fn 22 rfl) (f.fn 23 rfl) (f.fn 29 rfl) (f.fn 30 rfl) (f.fn 58 rfl) (f.fn 62 rfl) (f.fn 63 rfl) hb
  · exact HG_fs (f.at 64 10 rfl) (f.at 64 11 rfl) (f.at 64 12 rfl) (f.at 64 13 rfl) (f.at 64 14 rfl) (f.fn 3 rfl) (f.fn 4 rfl) (f.fn 5 rfl) (f.fn 29 rfl) hg
set_option maxHeartbeats 1000000 in
theorem rc_hands (d : Nat) (hd : 60 ≤ d) (xs : List (Nat × Nat)) (t dd rr : Nat) (σ : Sg) (P J : Int) (a b : Int) (hR : RR σ t dd P J) : ∃ (r : Int) (σ1 σ2 : Sg), Ev d 22 [(16, 0), (0, a), (0, b)] (Wd xs t dd rr σ) (0, r) (Wd xs t dd rr σ1) ∧ Ev d 107 [(87, 0), (0, a), (0, b)] (Wd xs t dd rr σ1) (0, r) (Wd xs t dd rr σ2) ∧ ∃ P' J', RR σ2 t dd P' J' := by
  obtain ⟨⟨ra, rb, rp, rf, rj, gi, rt⟩, hb, hg⟩ := hR
  have hMB := MB_of rp rj
  have ec := eq_cob rj
  have ew := eq_who rf.1.2.1 rj
  obtain ⟨⟨rp1, rp2, rp3, rp4⟩, rpr, rpb, -⟩ := id rp
  have h1 := sp_X9_hands d (by omega) xs t dd rr σ a b P rp1 ⟨rp3, rp4⟩ (fun p p0 p1 => (rpb p p0 p1).2.2.2.2.2.2.2.2)
  obtain ⟨σ2, h2, f⟩ := sp_X10_hands d (by omega) xs t dd rr σ a b P J hMB (by rw [rpr.2.2.2.2.2.2.2.2.2]; exact fun p p0 p1 => (rpb p p0 p1).2.2.2.2.2.2.2.2)
  rw [ec, ew, rpr.2.2.2.2.2.2.2.2.2] at h2
  have g29 : ∀ p, 0 ≤ p → p < P → σ 29 p = cobS σ P J p := fun p p0 p1 => (gi p p0 p1).1
  have g30 : ∀ p, 0 ≤ p → p < P → σ 30 p = whoS σ P J p := fun p p0 p1 => (gi p p0 p1).2.1
  have s1 : ∀ x, 0 ≤ x → x < P → sumZ (fun p => if σ 29 p = σ 29 x then σ 11 p else 0) P = sumZ (fun p => if cobS σ P J p = cobS σ P J x then σ 11 p else 0) P := fun x x0 x1 => sumZ_congr (fun p p0 p1 => by rw [g29 p p0 p1, g29 x x0 x1])
  have s2 : ∀ x, 0 ≤ x → x < P → sumZ (fun p => b2i (σ 29 p = σ 29 x ∧ σ 30 p = p)) P = sumZ (fun p => b2i (cobS σ P J p = cobS σ P J x ∧ whoS σ P J p = p)) P := fun x x0 x1 => sumZ_congr (fun p p0 p1 => by rw [g29 p p0 p1, g29 x x0 x1, g30 p p0 p1])
  have er : (if ((0 ≤ a ∧ a < P) ∧ (0 ≤ b ∧ b < P)) ∧ cobS σ P J a ≠ cobS σ P J b then two (sumZ (fun p => if cobS σ P J p = cobS σ P J a then σ 11 p else 0) P) (sumZ (fun p => b2i (cobS σ P J p = cobS σ P J a ∧ whoS σ P J p = p)) P) (sumZ (fun p => if cobS σ P J p = cobS σ P J b then σ 11 p else 0) P) (sumZ (fun p => b2i (cobS σ P J p = cobS σ P J b ∧ whoS σ P J p = p)) P) else -1) = (if ((0 ≤ a ∧ a < P) ∧ (0 ≤ b ∧ b < P)) ∧ σ 29 a ≠ σ 29 b then two (sumZ (fun p => if σ 29 p = σ 29 a then σ 11 p else 0) P) (sumZ (fun p => b2i (σ 29 p = σ 29 a ∧ σ 30 p = p)) P) (sumZ (fun p => if σ 29 p = σ 29 b then σ 11 p else 0) P) (sumZ (fun p => b2i (σ 29 p = σ 29 b ∧ σ 30 p = p)) P) else -1) := by
    by_cases C : (0 ≤ a ∧ a < P) ∧ (0 ≤ b ∧ b < P)
    · rw [s1 a C.1.1 C.1.2, s1 b C.2.1 C.2.2, s2 a C.1.1 C.1.2, s2 b C.2.1 C.2.2, g29 a C.1.1 C.1.2, g29 b C.2.1 C.2.2]
    · rw [if_neg (fun z => C z.1), if_neg (fun z => C z.1)]
  rw [er] at h2
  refine ⟨_, σ, σ2, h1, h2, P, J, ?_⟩
  refine ⟨⟨?_, ?_, ?_, ?_, ?_, ?_, ?_⟩, ?_, ?_⟩
  · unfold Ra at ra ⊢
    rw [f.at 71 24 rfl, f.at 0 8 rfl, f.at 71 71 rfl, f.at 0 9 rfl, f.at 71 72 rfl, f.at 0 10 rfl, f.at 71 25 rfl, f.at 36 2 rfl]; exact ra
  · unfold Rb at rb ⊢
    rw [f.at 71 2 rfl, f.at 52 0 rfl, f.at 71 65 rfl, f.at 64 2 rfl, f.fn 72 rfl, f.fn 53 rfl, f.fn 119 rfl, f.fn 120 rfl, f.fn 121 rfl, f.fn 65 rfl, f.fn 66 rfl, f.fn 67 rfl]; exact rb
  · unfold Rp PBs at rp ⊢
    rw [f.at 1 0 rfl, f.at 71 26 rfl, f.fn 88 rfl, f.fn 89 rfl, f.fn 90 rfl, f.fn 91 rfl, f.fn 92 rfl, f.fn 93 rfl, f.fn 94 rfl, f.fn 95 rfl, f.fn 96 rfl, f.fn 97 rfl, f.fn 2 rfl, f.fn 3 rfl, f.fn 4 rfl, f.fn 5 rfl, f.fn 6 rfl, f.fn 7 rfl, f.fn 8 rfl, f.fn 9 rfl, f.fn 10 rfl, f.fn 11 rfl]; exact rp
  · unfold Rf at rf ⊢
    rw [hsS_fn (f.fn 13 rfl), f.fn 98 rfl, f.fn 99 rfl, f.fn 101 rfl, f.fn 100 rfl, f.fn 116 rfl, f.fn 13 rfl, f.fn 14 rfl, f.fn 15 rfl, f.fn 16 rfl, f.fn 18 rfl]; exact rf
  · unfold Rj CW CB at rj ⊢
    rw [hsS_fn (f.fn 13 rfl), f.at 71 43 rfl, f.at 1 0 rfl, f.at 21 0 rfl, f.fn 102 rfl, f.fn 103 rfl, f.fn 104 rfl, f.fn 105 rfl, f.fn 106 rfl, f.fn 22 rfl, f.fn 23 rfl, f.fn 24 rfl, f.fn 25 rfl, f.fn 26 rfl, f.fn 27 rfl, f.fn 14 rfl, f.fn 17 rfl]; exact rj
  · exact GI_fs (f.fn 22 rfl) (f.fn 23 rfl) (f.fn 24 rfl) (f.fn 26 rfl) (f.fn 27 rfl) (f.fn 29 rfl) (f.fn 30 rfl) (f.fn 31 rfl) (f.fn 32 rfl) gi
  · exact Rt_fs (f.at 37 0 rfl) (f.at 44 0 rfl) (f.at 37 1 rfl) (f.at 44 1 rfl) (f.at 71 10 rfl) (f.fn 38 rfl) (f.fn 39 rfl) (f.fn 40 rfl) (f.fn 41 rfl) (f.fn 45 rfl) (f.fn 46 rfl) (f.fn 47 rfl) (f.fn 48 rfl) (f.fn 54 rfl) (f.fn 55 rfl) (f.fn 76 rfl) (f.fn 77 rfl) (f.fn 78 rfl) (f.fn 79 rfl) (f.fn 80 rfl) (f.fn 81 rfl) (f.fn 83 rfl) (f.fn 84 rfl) rt
  · exact HB_fs (f.at 57 4 rfl) (f.at 57 5 rfl) (f.fn 13 rfl) (f.fn 14 rfl) (f.fn 17 rfl) (f.fn 18 rfl) (f.fn 22 rfl) (f.fn 23 rfl) (f.fn 29 rfl) (f.fn 30 rfl) (f.fn 58 rfl) (f.fn 62 rfl) (f.fn 63 rfl) hb
  · exact HG_fs (f.at 64 10 rfl) (f.at 64 11 rfl) (f.at 64 12 rfl) (f.at 64 13 rfl) (f.at 64 14 rfl) (f.fn 3 rfl) (f.fn 4 rfl) (f.fn 5 rfl) (f.fn 29 rfl) hg

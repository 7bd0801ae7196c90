theorem CG_of {σ : Sg} {P J : Int} (hf : Rf σ P) (hj : Rj σ P J) (gi : GI σ P J) : CG P (hsS σ) (σ 14) (σ 29) (σ 30) (mtS σ J) (hsM σ) (σ 99) (cobM σ P J) (whoM σ P J) (mtM σ J) := by
  refine ⟨fun p p0 p1 => ?_, fun f f0 f1 => ?_⟩
  · rw [eq_cob hj, eq_who hf.1.2.1 hj]; exact ⟨(gi p p0 p1).1, (gi p p0 p1).2.1⟩
  · rw [eq_hs hf.1.1, hf.1.2.1]; exact ⟨rfl, rfl, fun hs => (eq_mt hj f0 f1 hs).symm⟩
theorem eq_q {σ : Sg} {P J : Int} (hf : Rf σ P) (hj : Rj σ P J) (gi : GI σ P J) (c : Int) : qM σ P J c = qS σ P J c ∧ ordM σ P J c = ordS σ P J c ∧ tM σ P J c = (gtS σ P J c (8 * P)).1 := by
  have hBH := BH_of hf hj gi
  have hCG := CG_of hf hj gi
  have hP := hBH.1.2.2.1
  have hq := qF_c (c := c) (cw := fun f g => nib (σ 18 f) g) (cw' := fun f g => σ 116 (8 * f + g)) hBH.2.1 hCG (fun f f0 f1 g g0 g1 => ⟨((hf.2.2.2.2.1 f g f0 (by omega) g0 g1).2).symm, hBH.2.2.2.2 f g f0 f1 g0 g1⟩)
  have e1 := gt2_c (c := c) hBH.2.1 hCG
  refine ⟨hq.1.symm, hq.2.symm, ?_⟩
  show (gt2 P c (hsM σ) (σ 99) (cobM σ P J) (whoM σ P J) (mtM σ J) (8 * P)).1 = (gt2 P c (hsS σ) (σ 14) (σ 29) (σ 30) (mtS σ J) (8 * P)).1
  rw [e1]
theorem MH_c {σ s : Sg} {P J : Int} (hM : ∀ r, 71 ≤ r ∧ r ≠ 122 → s r = σ r) (h : MH0 σ P J) : MH0 s P J := by
  obtain ⟨⟨m1, m2, m3, m4⟩, ⟨m5, -⟩, -⟩ := M_c hM
  unfold MH0 MB at h ⊢
  rw [m1, m2, m4, m5, hM 71 (by decide), hM 102 (by decide), hM 103 (by decide), hM 116 (by decide)]
  exact h
theorem qM_c {σ s : Sg} {P J : Int} (hM : ∀ r, 71 ≤ r ∧ r ≠ 122 → s r = σ r) : qM s P J = qM σ P J ∧ ordM s P J = ordM σ P J ∧ tM s P J = tM σ P J := by
  obtain ⟨⟨m1, m2, m3, m4⟩, ⟨m5, -⟩, -⟩ := M_c hM
  refine ⟨?_, ?_, ?_⟩
  · funext c; unfold qM; rw [m1, m2, m4, m5, hM 99 (by decide), hM 116 (by decide)]
  · funext c; unfold ordM; rw [m1, m2, m4, m5, hM 99 (by decide), hM 116 (by decide)]
  · funext c; unfold tM; rw [m1, m2, m4, m5, hM 99 (by decide)]
set_option maxHeartbeats 1000000 in
theorem rc_blow (d : Nat) (hd : 60 ≤ d) (xs : List (Nat × Nat)) (t dd rr : Nat) (σ : Sg) (P J : Int) (p i : Int) (hR : RR σ t dd P J) : ∃ (r : Int) (σ1 σ2 : Sg), Ev d 18 [(16, 0), (0, p), (0, i)] (Wd xs t dd rr σ) (0, r) (Wd xs t dd rr σ1) ∧ Ev d 110 [(87, 0), (0, p), (0, i)] (Wd xs t dd rr σ1) (0, r) (Wd xs t dd rr σ2) ∧ ∃ P' J', RR σ2 t dd P' J' := by
  obtain ⟨⟨ra, rb, rp, rf, rj, gi, rt⟩, hb, hg⟩ := hR
  have hBH := BH_of rf rj gi
  have hMH := MHr_of rp rf rj
  obtain ⟨σ1, h1, f1, b1⟩ := sp_X9_blow d (by omega) xs t dd rr σ p i P J hBH hb
  have hM := frM f1 rfl rfl
  obtain ⟨⟨m1, m2, m3, m4⟩, ⟨m5, m6, m7, m8⟩, m9⟩ := M_c hM
  obtain ⟨q1, q2, q3⟩ := qM_c (P := P) (J := J) hM
  obtain ⟨σ2, h2, f2, t0⟩ := sp_X10_blow d (by omega) xs t dd rr σ1 p i P J (MH_c hM hMH)
  rw [q1, q2, q3, m1, eq_cob rj] at h2
  have f : Fr [58, 59, 60, 61, 62, 63, 107, 111, 112, 113, 114, 115, 117, 118] [(57, 4), (57, 5), (71, 55), (71, 0)] σ σ2 := Fr.tr f1 f2 rfl rfl
  have er : (if (0 ≤ p ∧ p < P) ∧ 0 ≤ qM σ P J (cobS σ P J p) ∧ 0 ≤ i ∧ i < tM σ P J (cobS σ P J p) then ordM σ P J (cobS σ P J p) i else -1) = (if (0 ≤ p ∧ p < P) ∧ 0 ≤ qS σ P J (σ 29 p) ∧ 0 ≤ i ∧ i < (gtS σ P J (σ 29 p) (8 * P)).1 then ordS σ P J (σ 29 p) i else -1) := by
    by_cases C : 0 ≤ p ∧ p < P
    · obtain ⟨e1, e2, e3⟩ := eq_q rf rj gi (cobS σ P J p)
      rw [(gi p C.1 C.2).1, e1, e2, e3]
    · rw [if_neg (fun z => C z.1), if_neg (fun z => C z.1)]
  rw [er] at h2
  refine ⟨_, σ1, σ2, h1, h2, P, J, ?_⟩
  refine ⟨⟨?_, ?_, ?_, ?_, ?_, ?_, ?_⟩, ?_, ?_⟩
  · unfold Ra at ra ⊢
    rw [f.at 71 24 rfl, f.at 0 8 rfl, f.at 71 71 rfl, f.at 0 9 rfl, f.at 71 72 rfl, f.at 0 10 rfl, f.at 71 25 rfl, f.at 36 2 rfl]; exact ra
  · unfold Rb at rb ⊢
    rw [f.at 71 2 rfl, f.at 52 0 rfl, f.at 71 65 rfl, f.at 64 2 rfl, f.fn 72 rfl, f.fn 53 rfl, f.fn 119 rfl, f.fn 120 rfl, f.fn 121 rfl, f.fn 65 rfl, f.fn 66 rfl, f.fn 67 rfl]; exact rb
  · unfold Rp PBs at rp ⊢
    rw [f.at 1 0 rfl, f.at 71 26 rfl, f.fn 88 rfl, f.fn 89 rfl, f.fn 90 rfl, f.fn 91 rfl, f.fn 92 rfl, f.fn 93 rfl, f.fn 94 rfl, f.fn 95 rfl, f.fn 96 rfl, f.fn 97 rfl, f.fn 2 rfl, f.fn 3 rfl, f.fn 4 rfl, f.fn 5 rfl, f.fn 6 rfl, f.fn 7 rfl, f.fn 8 rfl, f.fn 9 rfl, f.fn 10 rfl, f.fn 11 rfl]; exact rp
  · unfold Rf at rf ⊢
    rw [hsS_fn (f.fn 13 rfl), f.fn 98 rfl, f.fn 99 rfl, f.fn 101 rfl, f.fn 100 rfl, f.fn 116 rfl, f.fn 13 rfl, f.fn 14 rfl, f.fn 15 rfl, f.fn 16 rfl, f.fn 18 rfl]; exact rf
  · unfold Rj CW CB at rj ⊢
    rw [hsS_fn (f.fn 13 rfl), f.at 71 43 rfl, f.at 1 0 rfl, f.at 21 0 rfl, f.fn 102 rfl, f.fn 103 rfl, f.fn 104 rfl, f.fn 105 rfl, f.fn 106 rfl, f.fn 22 rfl, f.fn 23 rfl, f.fn 24 rfl, f.fn 25 rfl, f.fn 26 rfl, f.fn 27 rfl, f.fn 14 rfl, f.fn 17 rfl]; exact rj
  · exact GI_fs (f.fn 22 rfl) (f.fn 23 rfl) (f.fn 24 rfl) (f.fn 26 rfl) (f.fn 27 rfl) (f.fn 29 rfl) (f.fn 30 rfl) (f.fn 31 rfl) (f.fn 32 rfl) gi
  · exact Rt_fs (f.at 37 0 rfl) (f.at 44 0 rfl) (f.at 37 1 rfl) (f.at 44 1 rfl) (f.at 71 10 rfl) (f.fn 38 rfl) (f.fn 39 rfl) (f.fn 40 rfl) (f.fn 41 rfl) (f.fn 45 rfl) (f.fn 46 rfl) (f.fn 47 rfl) (f.fn 48 rfl) (f.fn 54 rfl) (f.fn 55 rfl) (f.fn 76 rfl) (f.fn 77 rfl) (f.fn 78 rfl) (f.fn 79 rfl) (f.fn 80 rfl) (f.fn 81 rfl) (f.fn 83 rfl) (f.fn 84 rfl) rt
  · exact HB_fs (f2.at 57 4 rfl) (f2.at 57 5 rfl) (f2.fn 13 rfl) (f2.fn 14 rfl) (f2.fn 17 rfl) (f2.fn 18 rfl) (f2.fn 22 rfl) (f2.fn 23 rfl) (f2.fn 29 rfl) (f2.fn 30 rfl) (f2.fn 58 rfl) (f2.fn 62 rfl) (f2.fn 63 rfl) b1
  · exact HG_fs (f.at 64 10 rfl) (f.at 64 11 rfl) (f.at 64 12 rfl) (f.at 64 13 rfl) (f.at 64 14 rfl) (f.fn 3 rfl) (f.fn 4 rfl) (f.fn 5 rfl) (f.fn 29 rfl) hg
set_option maxHeartbeats 1000000 in
theorem rc_cobble (d : Nat) (hd : 60 ≤ d) (xs : List (Nat × Nat)) (t dd rr : Nat) (σ : Sg) (P J : Int) (p w : Int) (hR : RR σ t dd P J) : ∃ (r1 : pV) (v : Int) (σ1 σ2 : Sg), Ev d 17 [(16, 0), (0, p), (0, w)] (Wd xs t dd rr σ) r1 (Wd xs t dd rr σ1) ∧ Ev d 108 [(87, 0), (0, p), (0, w)] (Wd xs t dd rr σ1) (0, v) (Wd xs t dd rr σ2) ∧ ((r1 = (0, v) ∧ σ2 71 0 = 0) ∨ (r1 = (7, 0) ∧ σ2 71 0 = 1)) ∧ ∃ P' J', RR σ2 t dd P' J' := by
  obtain ⟨⟨ra, rb, rp, rf, rj, gi, rt⟩, hb, hg⟩ := hR
  have hBH := BH_of rf rj gi
  have hMH := MHr_of rp rf rj
  obtain ⟨⟨rj1, u1, u2, u3, u4, u5⟩, ⟨hCB, c6, c7⟩, rj3, rj4⟩ := id rj
  obtain ⟨⟨rp1, rp2, rp3, rp4⟩, rpr, rpb, rps, -⟩ := id rp
  have hfl : ∀ p, 0 ≤ p → p < P → 0 ≤ σ 11 p ∧ σ 11 p ≤ 9 := fun p p0 p1 => (rpb p p0 p1).2.2.2.2.2.2.2.2
  obtain ⟨σ1, h1, f1, b1⟩ := sp_X9_cobble d (by omega) xs t dd rr σ p w P J hBH hb hfl (fun p p0 p1 => (gi p p0 p1).2.2.1) c6
  have hM := frM f1 rfl rfl
  obtain ⟨⟨m1, m2, m3, m4⟩, ⟨m5, m6, m7, m8⟩, m9⟩ := M_c hM
  obtain ⟨q1, q2, q3⟩ := qM_c (P := P) (J := J) hM
  obtain ⟨σ2, h2, f2, t0⟩ := sp_X10_cobble d (by omega) xs t dd rr σ1 p w P J (MH_c hM hMH) (by rw [hM 97 (by decide), rpr.2.2.2.2.2.2.2.2.2]; exact hfl) (by rw [hM 104 (by decide), u3]; exact c6)
  have f : Fr [58, 59, 60, 61, 62, 63, 107, 108, 109, 110, 111, 112, 113, 114, 115, 117, 118] [(57, 4), (57, 5), (71, 55), (71, 0)] σ σ2 := Fr.tr f1 f2 rfl rfl
  have ewh : ∀ c, whM σ1 P J c = whS σ P c := fun c => by
    unfold whM whS
    rw [m1, m2, eq_cob rj, eq_who rf.1.2.1 rj]
    exact sumZ_congr (fun q q0 q1 => by rw [(gi q q0 q1).1, (gi q q0 q1).2.1])
  have efa : ∀ c, faM σ1 P J c = faS σ P c := fun c => by
    unfold faM faS
    rw [m1, eq_cob rj, hM 97 (by decide), rpr.2.2.2.2.2.2.2.2.2]
    exact sumZ_congr (fun q q0 q1 => by rw [(gi q q0 q1).1])
  have efw : fwM σ1 P J = fwS σ P := by
    funext c
    unfold fwM fwS
    rw [m2, eq_who rf.1.2.1 rj, hM 97 (by decide), rpr.2.2.2.2.2.2.2.2.2]
    exact sumZ_congr (fun q q0 q1 => by rw [(gi q q0 q1).2.1])
  refine ⟨_, _, σ1, σ2, h1, h2, ?_, P, J, ?_⟩
  · by_cases C : (0 ≤ p ∧ p < P) ∧ 0 ≤ w ∧ w ≤ 7
    · rw [if_pos C] at t0
      rw [if_pos C, if_pos C]
      refine Or.inl ⟨?_, t0⟩
      have hgp := (gi p C.1.1 C.1.2).1
      rw [m1, eq_cob rj, ← hgp]
      generalize σ 29 p = c at *
      obtain ⟨e1, e2, e3⟩ := eq_q rf rj gi c
      have emn : mny (cobS σ P J) P c = mny (σ 29) P c := mny_c (fun q q0 q1 => (gi q q0 q1).1.symm)
      have eho : tM σ1 P J c - whM σ1 P J c = sumZ (gg2 P c (hsS σ) (σ 14) (σ 29) (σ 30) (mtS σ J)) (8 * P) := by
        rw [q3, e3, ewh]
        have hg := gt2_1 (P := P) (c := c) (hs := hsS σ) (so := σ 14) (co := σ 29) (who := σ 30) (mt := mtS σ J) rp3 (8 * P).toNat
        rw [Int.toNat_of_nonneg (by omega)] at hg
        show (gt2 P c (hsS σ) (σ 14) (σ 29) (σ 30) (mtS σ J) (8 * P)).1 - _ = _
        rw [hg]
        show sumZ (gg1 c (σ 29) (σ 30)) P + _ - sumZ (fun p => b2i (σ 29 p = c ∧ σ 30 p = p)) P = _
        have : sumZ (gg1 c (σ 29) (σ 30)) P = sumZ (fun p => b2i (σ 29 p = c ∧ σ 30 p = p)) P := rfl
        omega
      have eop : sumZ (fun j => b2i (σ1 106 j = -1 ∧ cobS σ P J (σ1 102 j / 8) = c ∧ opM σ1 P J j = 1)) J = sumZ (fun j => b2i (opS σ P J j = 1 ∧ σ 29 (σ 22 j / 8) = c)) J := sumZ_congr (fun j j0 j1 => by
        have hr := hCB.2.2.2.2 j j0 j1
        rw [m8, eq_op rj, hM 106 (by decide), hM 102 (by decide), u1, u5, (gi (σ 22 j / 8) (by omega) (by omega)).1]
        by_cases z : opS σ P J j = 1 ∧ cobS σ P J (σ 22 j / 8) = c
        · have z1 : σ 26 j = -1 := by
            have := z.1
            unfold opS b2i at this
            split at this
            · rename_i y; exact y.1
            · omega
          rw [b2i_t ⟨z1, z.2, z.1⟩, b2i_t z]
        · rw [b2i_f z, b2i_f (fun y => z ⟨y.2.2, y.2.1⟩)])
      rw [emn, eho, eop, efa, ewh, q1, e1]
      congr 1
      unfold coV
      by_cases y : qS σ P J c < 0
      · simp only [if_pos y]
      · have ech : chM σ1 P J c = chS σ P J c := by
          unfold chM chS
          rw [ewh, efa, efw, q2, q3, e2, e3, if_pos (by omega)]
        rw [ech]
    · rw [if_neg C] at t0
      rw [if_neg C, if_neg C]
      exact Or.inr ⟨rfl, t0⟩
  refine ⟨⟨?_, ?_, ?_, ?_, ?_, ?_, ?_⟩, ?_, ?_⟩
  · unfold Ra at ra ⊢
    rw [f.at 71 24 rfl, f.at 0 8 rfl, f.at 71 71 rfl, f.at 0 9 rfl, f.at 71 72 rfl, f.at 0 10 rfl, f.at 71 25 rfl, f.at 36 2 rfl]; exact ra
  · unfold Rb at rb ⊢
    rw [f.at 71 2 rfl, f.at 52 0 rfl, f.at 71 65 rfl, f.at 64 2 rfl, f.fn 72 rfl, f.fn 53 rfl, f.fn 119 rfl, f.fn 120 rfl, f.fn 121 rfl, f.fn 65 rfl, f.fn 66 rfl, f.fn 67 rfl]; exact rb
  · unfold Rp PBs at rp ⊢
    rw [f.at 1 0 rfl, f.at 71 26 rfl, f.fn 88 rfl, f.fn 89 rfl, f.fn 90 rfl, f.fn 91 rfl, f.fn 92 rfl, f.fn 93 rfl, f.fn 94 rfl, f.fn 95 rfl, f.fn 96 rfl, f.fn 97 rfl, f.fn 2 rfl, f.fn 3 rfl, f.fn 4 rfl, f.fn 5 rfl, f.fn 6 rfl, f.fn 7 rfl, f.fn 8 rfl, f.fn 9 rfl, f.fn 10 rfl, f.fn 11 rfl]; exact rp
  · unfold Rf at rf ⊢
    rw [hsS_fn (f.fn 13 rfl), f.fn 98 rfl, f.fn 99 rfl, f.fn 101 rfl, f.fn 100 rfl, f.fn 116 rfl, f.fn 13 rfl, f.fn 14 rfl, f.fn 15 rfl, f.fn 16 rfl, f.fn 18 rfl]; exact rf
  · unfold Rj CW CB at rj ⊢
    rw [hsS_fn (f.fn 13 rfl), f.at 71 43 rfl, f.at 1 0 rfl, f.at 21 0 rfl, f.fn 102 rfl, f.fn 103 rfl, f.fn 104 rfl, f.fn 105 rfl, f.fn 106 rfl, f.fn 22 rfl, f.fn 23 rfl, f.fn 24 rfl, f.fn 25 rfl, f.fn 26 rfl, f.fn 27 rfl, f.fn 14 rfl, f.fn 17 rfl]; exact rj
  · exact GI_fs (f.fn 22 rfl) (f.fn 23 rfl) (f.fn 24 rfl) (f.fn 26 rfl) (f.fn 27 rfl) (f.fn 29 rfl) (f.fn 30 rfl) (f.fn 31 rfl) (f.fn 32 rfl) gi
  · exact Rt_fs (f.at 37 0 rfl) (f.at 44 0 rfl) (f.at 37 1 rfl) (f.at 44 1 rfl) (f.at 71 10 rfl) (f.fn 38 rfl) (f.fn 39 rfl) (f.fn 40 rfl) (f.fn 41 rfl) (f.fn 45 rfl) (f.fn 46 rfl) (f.fn 47 rfl) (f.fn 48 rfl) (f.fn 54 rfl) (f.fn 55 rfl) (f.fn 76 rfl) (f.fn 77 rfl) (f.fn 78 rfl) (f.fn 79 rfl) (f.fn 80 rfl) (f.fn 81 rfl) (f.fn 83 rfl) (f.fn 84 rfl) rt
  · exact HB_fs (f2.at 57 4 rfl) (f2.at 57 5 rfl) (f2.fn 13 rfl) (f2.fn 14 rfl) (f2.fn 17 rfl) (f2.fn 18 rfl) (f2.fn 22 rfl) (f2.fn 23 rfl) (f2.fn 29 rfl) (f2.fn 30 rfl) (f2.fn 58 rfl) (f2.fn 62 rfl) (f2.fn 63 rfl) b1
  · exact HG_fs (f.at 64 10 rfl) (f.at 64 11 rfl) (f.at 64 12 rfl) (f.at 64 13 rfl) (f.at 64 14 rfl) (f.fn 3 rfl) (f.fn 4 rfl) (f.fn 5 rfl) (f.fn 29 rfl) hg
set_option maxHeartbeats 1000000 in
theorem rc_count_37 (d : Nat) (hd : 60 ≤ d) (xs : List (Nat × Nat)) (t dd rr : Nat) (σ : Sg) (P J : Int) (w : Int) (ht : t = 53) (hR : RR σ t dd P J) : ∃ (r : Int) (σ1 σ2 : Sg), Ev d 24 [(16, 0), (0, w)] (Wd xs t dd rr σ) (0, r) (Wd xs t dd rr σ1) ∧ Ev d 127 [(87, 0), (0, w)] (Wd xs t dd rr σ1) (0, r) (Wd xs t dd rr σ2) ∧ ∃ P' J', RR σ2 t dd P' J' := by
  obtain ⟨⟨ra, rb, rp, rf, rj, gi, rt⟩, hb, hg⟩ := hR
  obtain ⟨⟨rj1, u1, u2, u3, u4, u5⟩, ⟨hCB, c6, c7⟩, rj3, rj4⟩ := id rj
  obtain ⟨t1, t2, t3, t4, t5, hh, N, M, kd, nu, len, K, W, w1, w2, w3, w4, w5, w6⟩ := id rt
  obtain ⟨⟨rp1, rp2, rp3, rp4⟩, rpr, rpb, rps, -⟩ := id rp
  obtain ⟨ra1, ra2, ra3⟩ := id ra
  have h1 := sp_X9_count_37 d (by omega) xs t dd rr σ w P J hCB (fun p p0 p1 => (gi p p0 p1).2.2.1) c6 ra2.2.2 ht
  obtain ⟨σ2, h2, f, t0⟩ := sp_X10_count d (by omega) xs t dd rr σ w P J (MB_of rp rj) (by rw [u3]; exact c6) (by rw [ra2.1, ra2.2.1]; exact ra2.2.2) (by rw [w3.1.1]; exact w3.1.2.1)
  have k10 := w3.1.1
  have k77 := w3.1.2.2.1
  rw [ra2.1, ra2.2.1, ra1.1, rb.1.1, u5, eq_cob rj, eq_op rj, k10, k77, w6] at h2
  have kB : σ 37 0 = N := by
    rcases w2 with ⟨z, y⟩ | ⟨z, y⟩
    · first | exact y.1 | omega
    · first | exact y.1 | omega
  have kM : σ 37 1 = M := by subst ht; exact w5
  have s1 : sumZ (fun p => b2i (cobS σ P J p = p ∧ 1 < sumZ (fun q => b2i (cobS σ P J q = p)) P)) P = sumZ (fun p => b2i (σ 29 p = p ∧ 1 < σ 32 p)) P := sumZ_congr (fun p p0 p1 => by rw [(gi p p0 p1).1, (gi p p0 p1).2.2.2])
  have s2 : sumZ (fun j => b2i (0 < σ 116 j)) 2560 = sumZ (fun f => sumZ (fun k => b2i (0 < nib (σ 18 f) k)) 8) 320 := by
    have := sumZ_nest (g := fun j => b2i (0 < σ 116 j)) 320
    rw [show (8 * ((320 : Nat) : Int)) = 2560 by omega] at this
    rw [this]
    exact sumZ_congr (fun g g0 g1 => sumZ_congr (fun k k0 k1 => by rw [(rf.2.2.2.2.1 g k g0 g1 k0 k1).2]))
  rw [s1, s2, ← kB, ← kM] at h2
  refine ⟨_, σ, σ2, h1, h2, P, J, ?_⟩
  refine ⟨⟨?_, ?_, ?_, ?_, ?_, ?_, ?_⟩, ?_, ?_⟩
  · unfold Ra at ra ⊢
    rw [f.at 71 24 rfl, f.at 0 8 rfl, f.at 71 71 rfl, f.at 0 9 rfl, f.at 71 72 rfl, f.at 0 10 rfl, f.at 71 25 rfl, f.at 36 2 rfl]; exact ra
  · unfold Rb at rb ⊢
    rw [f.at 71 2 rfl, f.at 52 0 rfl, f.at 71 65 rfl, f.at 64 2 rfl, f.fn 72 rfl, f.fn 53 rfl, f.fn 119 rfl, f.fn 120 rfl, f.fn 121 rfl, f.fn 65 rfl, f.fn 66 rfl, f.fn 67 rfl]; exact rb
  · unfold Rp PBs at rp ⊢
    rw [f.at 1 0 rfl, f.at 71 26 rfl, f.fn 88 rfl, f.fn 89 rfl, f.fn 90 rfl, f.fn 91 rfl, f.fn 92 rfl, f.fn 93 rfl, f.fn 94 rfl, f.fn 95 rfl, f.fn 96 rfl, f.fn 97 rfl, f.fn 2 rfl, f.fn 3 rfl, f.fn 4 rfl, f.fn 5 rfl, f.fn 6 rfl, f.fn 7 rfl, f.fn 8 rfl, f.fn 9 rfl, f.fn 10 rfl, f.fn 11 rfl]; exact rp
  · unfold Rf at rf ⊢
    rw [hsS_fn (f.fn 13 rfl), f.fn 98 rfl, f.fn 99 rfl, f.fn 101 rfl, f.fn 100 rfl, f.fn 116 rfl, f.fn 13 rfl, f.fn 14 rfl, f.fn 15 rfl, f.fn 16 rfl, f.fn 18 rfl]; exact rf
  · unfold Rj CW CB at rj ⊢
    rw [hsS_fn (f.fn 13 rfl), f.at 71 43 rfl, f.at 1 0 rfl, f.at 21 0 rfl, f.fn 102 rfl, f.fn 103 rfl, f.fn 104 rfl, f.fn 105 rfl, f.fn 106 rfl, f.fn 22 rfl, f.fn 23 rfl, f.fn 24 rfl, f.fn 25 rfl, f.fn 26 rfl, f.fn 27 rfl, f.fn 14 rfl, f.fn 17 rfl]; exact rj
  · exact GI_fs (f.fn 22 rfl) (f.fn 23 rfl) (f.fn 24 rfl) (f.fn 26 rfl) (f.fn 27 rfl) (f.fn 29 rfl) (f.fn 30 rfl) (f.fn 31 rfl) (f.fn 32 rfl) gi
  · exact Rt_fs (f.at 37 0 rfl) (f.at 44 0 rfl) (f.at 37 1 rfl) (f.at 44 1 rfl) (f.at 71 10 rfl) (f.fn 38 rfl) (f.fn 39 rfl) (f.fn 40 rfl) (f.fn 41 rfl) (f.fn 45 rfl) (f.fn 46 rfl) (f.fn 47 rfl) (f.fn 48 rfl) (f.fn 54 rfl) (f.fn 55 rfl) (f.fn 76 rfl) (f.fn 77 rfl) (f.fn 78 rfl) (f.fn 79 rfl) (f.fn 80 rfl) (f.fn 81 rfl) (f.fn 83 rfl) (f.fn 84 rfl) rt
  · exact HB_fs (f.at 57 4 rfl) (f.at 57 5 rfl) (f.fn 13 rfl) (f.fn 14 rfl) (f.fn 17 rfl) (f.fn 18 rfl) (f.fn 22 rfl) (f.fn 23 rfl) (f.fn 29 rfl) (f.fn 30 rfl) (f.fn 58 rfl) (f.fn 62 rfl) (f.fn 63 rfl) hb
  · exact HG_fs (f.at 64 10 rfl) (f.at 64 11 rfl) (f.at 64 12 rfl) (f.at 64 13 rfl) (f.at 64 14 rfl) (f.fn 3 rfl) (f.fn 4 rfl) (f.fn 5 rfl) (f.fn 29 rfl) hg
set_option maxHeartbeats 1000000 in
theorem rc_count_44 (d : Nat) (hd : 60 ≤ d) (xs : List (Nat × Nat)) (t dd rr : Nat) (σ : Sg) (P J : Int) (w : Int) (ht : t = 60) (hR : RR σ t dd P J) : ∃ (r : Int) (σ1 σ2 : Sg), Ev d 24 [(16, 0), (0, w)] (Wd xs t dd rr σ) (0, r) (Wd xs t dd rr σ1) ∧ Ev d 127 [(87, 0), (0, w)] (Wd xs t dd rr σ1) (0, r) (Wd xs t dd rr σ2) ∧ ∃ P' J', RR σ2 t dd P' J' := by
  obtain ⟨⟨ra, rb, rp, rf, rj, gi, rt⟩, hb, hg⟩ := hR
  obtain ⟨⟨rj1, u1, u2, u3, u4, u5⟩, ⟨hCB, c6, c7⟩, rj3, rj4⟩ := id rj
  obtain ⟨t1, t2, t3, t4, t5, hh, N, M, kd, nu, len, K, W, w1, w2, w3, w4, w5, w6⟩ := id rt
  obtain ⟨⟨rp1, rp2, rp3, rp4⟩, rpr, rpb, rps, -⟩ := id rp
  obtain ⟨ra1, ra2, ra3⟩ := id ra
  have h1 := sp_X9_count_44 d (by omega) xs t dd rr σ w P J hCB (fun p p0 p1 => (gi p p0 p1).2.2.1) c6 ra2.2.2 ht
  obtain ⟨σ2, h2, f, t0⟩ := sp_X10_count d (by omega) xs t dd rr σ w P J (MB_of rp rj) (by rw [u3]; exact c6) (by rw [ra2.1, ra2.2.1]; exact ra2.2.2) (by rw [w3.1.1]; exact w3.1.2.1)
  have k10 := w3.1.1
  have k77 := w3.1.2.2.1
  rw [ra2.1, ra2.2.1, ra1.1, rb.1.1, u5, eq_cob rj, eq_op rj, k10, k77, w6] at h2
  have kB : σ 44 0 = N := by
    rcases w2 with ⟨z, y⟩ | ⟨z, y⟩
    · first | exact y.1 | omega
    · first | exact y.1 | omega
  have kM : σ 44 1 = M := by subst ht; exact w5
  have s1 : sumZ (fun p => b2i (cobS σ P J p = p ∧ 1 < sumZ (fun q => b2i (cobS σ P J q = p)) P)) P = sumZ (fun p => b2i (σ 29 p = p ∧ 1 < σ 32 p)) P := sumZ_congr (fun p p0 p1 => by rw [(gi p p0 p1).1, (gi p p0 p1).2.2.2])
  have s2 : sumZ (fun j => b2i (0 < σ 116 j)) 2560 = sumZ (fun f => sumZ (fun k => b2i (0 < nib (σ 18 f) k)) 8) 320 := by
    have := sumZ_nest (g := fun j => b2i (0 < σ 116 j)) 320
    rw [show (8 * ((320 : Nat) : Int)) = 2560 by omega] at this
    rw [this]
    exact sumZ_congr (fun g g0 g1 => sumZ_congr (fun k k0 k1 => by rw [(rf.2.2.2.2.1 g k g0 g1 k0 k1).2]))
  rw [s1, s2, ← kB, ← kM] at h2
  refine ⟨_, σ, σ2, h1, h2, P, J, ?_⟩
  refine ⟨⟨?_, ?_, ?_, ?_, ?_, ?_, ?_⟩, ?_, ?_⟩
  · unfold Ra at ra ⊢
    rw [f.at 71 24 rfl, f.at 0 8 rfl, f.at 71 71 rfl, f.at 0 9 rfl, f.at 71 72 rfl, f.at 0 10 rfl, f.at 71 25 rfl, f.at 36 2 rfl]; exact ra
  · unfold Rb at rb ⊢
    rw [f.at 71 2 rfl, f.at 52 0 rfl, f.at 71 65 rfl, f.at 64 2 rfl, f.fn 72 rfl, f.fn 53 rfl, f.fn 119 rfl, f.fn 120 rfl, f.fn 121 rfl, f.fn 65 rfl, f.fn 66 rfl, f.fn 67 rfl]; exact rb
  · unfold Rp PBs at rp ⊢
    rw [f.at 1 0 rfl, f.at 71 26 rfl, f.fn 88 rfl, f.fn 89 rfl, f.fn 90 rfl, f.fn 91 rfl, f.fn 92 rfl, f.fn 93 rfl, f.fn 94 rfl, f.fn 95 rfl, f.fn 96 rfl, f.fn 97 rfl, f.fn 2 rfl, f.fn 3 rfl, f.fn 4 rfl, f.fn 5 rfl, f.fn 6 rfl, f.fn 7 rfl, f.fn 8 rfl, f.fn 9 rfl, f.fn 10 rfl, f.fn 11 rfl]; exact rp
  · unfold Rf at rf ⊢
    rw [hsS_fn (f.fn 13 rfl), f.fn 98 rfl, f.fn 99 rfl, f.fn 101 rfl, f.fn 100 rfl, f.fn 116 rfl, f.fn 13 rfl, f.fn 14 rfl, f.fn 15 rfl, f.fn 16 rfl, f.fn 18 rfl]; exact rf
  · unfold Rj CW CB at rj ⊢
    rw [hsS_fn (f.fn 13 rfl), f.at 71 43 rfl, f.at 1 0 rfl, f.at 21 0 rfl, f.fn 102 rfl, f.fn 103 rfl, f.fn 104 rfl, f.fn 105 rfl, f.fn 106 rfl, f.fn 22 rfl, f.fn 23 rfl, f.fn 24 rfl, f.fn 25 rfl, f.fn 26 rfl, f.fn 27 rfl, f.fn 14 rfl, f.fn 17 rfl]; exact rj
  · exact GI_fs (f.fn 22 rfl) (f.fn 23 rfl) (f.fn 24 rfl) (f.fn 26 rfl) (f.fn 27 rfl) (f.fn 29 rfl) (f.fn 30 rfl) (f.fn 31 rfl) (f.fn 32 rfl) gi
  · exact Rt_fs (f.at 37 0 rfl) (f.at 44 0 rfl) (f.at 37 1 rfl) (f.at 44 1 rfl) (f.at 71 10 rfl) (f.fn 38 rfl) (f.fn 39 rfl) (f.fn 40 rfl) (f.fn 41 rfl) (f.fn 45 rfl) (f.fn 46 rfl) (f.fn 47 rfl) (f.fn 48 rfl) (f.fn 54 rfl) (f.fn 55 rfl) (f.fn 76 rfl) (f.fn 77 rfl) (f.fn 78 rfl) (f.fn 79 rfl) (f.fn 80 rfl) (f.fn 81 rfl) (f.fn 83 rfl) (f.fn 84 rfl) rt
  · exact HB_fs (f.at 57 4 rfl) (f.at 57 5 rfl) (f.fn 13 rfl) (f.fn 14 rfl) (f.fn 17 rfl) (f.fn 18 rfl) (f.fn 22 rfl) (f.fn 23 rfl) (f.fn 29 rfl) (f.fn 30 rfl) (f.fn 58 rfl) (f.fn 62 rfl) (f.fn 63 rfl) hb
  · exact HG_fs (f.at 64 10 rfl) (f.at 64 11 rfl) (f.at 64 12 rfl) (f.at 64 13 rfl) (f.at 64 14 rfl) (f.fn 3 rfl) (f.fn 4 rfl) (f.fn 5 rfl) (f.fn 29 rfl) hg

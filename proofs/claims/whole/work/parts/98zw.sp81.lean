theorem U_S {tk tw pl : Int → Int} {m : Int} {S : PSt} (hm : tk m = 0) (hpl : ∀ i, 0 ≤ i → i ≤ m → 0 ≤ pl i) (h : (tsg tk pl 59 (ch0 tk (prt tk tw pl 5) S)).2.1 = 0) : S.2.1 = 0 :=
  PK_f (ch0_k (prt_k hm hpl 5) hm).2.2.2 (tsg_f h)
theorem tk_m {s : Sg} {m : Int} (hT : TR s m) : tkM s m = 0 := by unfold tkM; rw [if_pos hT.2.1]
theorem pl_m {s : Sg} {m : Int} (hT : TR s m) : ∀ i, 0 ≤ i → i ≤ m → 0 ≤ s 74 i := fun i i0 i1 => (hT.2.2.1 i i0 i1).2.1.1
theorem tnn_M {tk tw pl : Int → Int} {M : Int} {s : PSt} (hp : 0 ≤ pl s.1) (h8 : M ≤ 8) (hf : s.2.1 = 0) (h : (tnn tk tw pl M s).2.1 = 0) : M < 8 := by
  unfold tnn at h
  rw [if_neg (by omega)] at h
  split at h
  · have h : 1 + 16 * pl s.1 = 0 := h
    omega
  · split at h
    · have h : 3 + 16 * pl s.1 = 0 := h
      omega
    · split at h
      · have h : 5 + 16 * pl s.1 = 0 := h
        omega
      · omega
theorem Ln_of {s σ5 s10 s' : Sg} {tl cX w m k : Int} {S : PSt} (hT : TR s m) (hE5 : ET s σ5) (hF5 : Fr [78, 79] [] s σ5) (h78 : ∀ x, σ5 78 x = if x = (24 * s 71 11 + s 77 (s 71 11)) then k else s 78 x) (h79 : ∀ x, σ5 79 x = if x = (24 * s 71 11 + s 77 (s 71 11)) then w else s 79 x) (hk : tkM s (s 71 7) = 128 + k) (hS : S = hdS (tkM s) (twM s) (s 74) (s 81 (s 71 11)) (tkM s (s 71 7) - 128) ((s 71 7 + 1, 0, 0, fun _ => 0, fun _ => 0) : PSt)) (hL : LNE s10 (up2 σ5 80 (24 * s 71 11 + s 77 (s 71 11)) (1100 * σ5 71 11 + cX)) m (s 71 18) (tsg (tkM σ5) (σ5 74) 59 (ch0 (tkM σ5) (prt (tkM σ5) (twM σ5) (σ5 74) 5) S))) (hok : S.2.1 = 0 → cX = s 71 18 ∧ (tkM s (s 71 7) = 130 ∨ tkM s (s 71 7) = 131 → w = twM s (s 71 7 + 1)) ∧ (tkM s (s 71 7) = 129 → w = 0) ∧ (tkM s (s 71 7) = 128 → tl = s 75 (s 71 7 + 1) ∧ s 81 (s 71 11) < 8)) (hs : s' = (if (tsg (tkM σ5) (σ5 74) 59 (ch0 (tkM σ5) (prt (tkM σ5) (twM σ5) (σ5 74) 5) S)).2.1 = 0 then up2 (if k = 0 then up2 (up2 (up2 s10 79 (24 * s 71 11 + s 77 (s 71 11)) (s 81 (s 71 11))) 82 (8 * σ5 71 11 + s 81 (s 71 11)) tl) 81 (σ5 71 11) (s 81 (s 71 11) + 1) else s10) 77 (σ5 71 11) (s 77 (s 71 11) + 1) else up2 s10 77 (σ5 71 11) (s 77 (s 71 11) + 0))) : LnP s s' m := by
  have t1 := tkM_t hE5
  have t2 := twM_t hE5
  obtain ⟨h1, h2, h3, h4, h5, h6, h7⟩ := hE5
  rw [t1, t2, h2, h7] at hL hs
  have hok2 : (tsg (tkM s) (s 74) 59 (ch0 (tkM s) (prt (tkM s) (twM s) (s 74) 5) S)).2.1 = 0 → _ := fun q => hok (U_S (tk_m hT) (pl_m hT) q)
  rw [hS] at hL hs hok2
  have h78 : ∀ x, σ5 78 x = if x = (24 * s 71 11 + s 77 (s 71 11)) then tkM s (s 71 7) - 128 else s 78 x := fun x => by rw [h78 x, hk]; congr 1; omega
  refine ⟨σ5, s10, tl, cX, w, hF5, h78, h79, hL, hok2, ?_⟩
  rw [hs]
  by_cases q : k = 0
  · rw [if_pos q, if_pos (show tkM s (s 71 7) = 128 by omega)]
  · rw [if_neg q, if_neg (show ¬ tkM s (s 71 7) = 128 by omega)]
set_option maxRecDepth 20000 in
set_option maxHeartbeats 2000000 in
theorem ln_0 (d : Nat) (xs : List (Nat × Nat)) (t dd rr : Nat) (s s3 : Sg) (E : pE) (m : Int) (hT : TR s m) (hR3 : RP s3 (up2 (up2 s 78 (24 * s 71 11 + s 77 (s 71 11)) 0) 79 (24 * s 71 11 + s 77 (s 71 11)) 0) m (s 71 18) ((s 71 7 + 1, 0, 0, fun _ => 0, fun _ => 0) : PSt)) (q7 : s3 71 7 = s 71 7 + 1) (q18 : s3 71 18 = s 71 18) (h7 : 0 ≤ s 71 7) (h18 : 0 ≤ s 71 18 ∧ s 71 18 ≤ s 71 7) (hN0 : 0 ≤ s 77 (s 71 11) ∧ s 77 (s 71 11) < 24) (hk : tkM s (s 71 7) = 128 + 0) (hd2 : 38 ≤ d) (hE : ∀ r1 σ', r1 = (8, 0) → LnP s σ' m → E r1 (Wd xs t dd rr σ')) : pCm (Ev d) k_X10_line E 86 [(87, 0), (0, 0), (0, (24 * s 71 11 + s 77 (s 71 11))), (9, 0), (9, 0)] [] (Wd xs t dd rr s3) := by
  have hE3 : ET s (up2 (up2 s 78 (24 * s 71 11 + s 77 (s 71 11)) 0) 79 (24 * s 71 11 + s 77 (s 71 11)) 0) := (ET_up (Or.inr (Or.inl rfl))).tr (ET_up (Or.inr (Or.inr (Or.inl rfl))))
  have hT3 := TR_t hE3 hT
  have t1 := tkM_t hE3
  have t2 := twM_t hE3
  have hm := hT.1
  have hnx := hT.2.2.2.2.1
  have hM0 := hT.2.2.2.2.2
  refine R_push rfl ?_
  refine R_lstore rfl rfl ?_
  refine R_iload rfl rfl ?_
  refine R_if rfl (fun h89 => absurd h89 (by decide)) (fun _ => ?_)
  refine R_aload rfl rfl rfl ?_
  obtain ⟨s4, hev4, hR4, hG4⟩ := sp_X10_takeNewName d (by omega) xs t dd rr (up2 (up2 s 78 (24 * s 71 11 + s 77 (s 71 11)) 0) 79 (24 * s 71 11 + s 77 (s 71 11)) 0) s3 m (s 71 18) ((s 71 7 + 1, 0, 0, fun _ => 0, fun _ => 0) : PSt) hT3 hR3
  rw [t1, t2] at hR4 hev4
  have hR4 : RP s4 (up2 (up2 s 78 (24 * s 71 11 + s 77 (s 71 11)) 0) 79 (24 * s 71 11 + s 77 (s 71 11)) 0) m (s 71 18) (tnn (tkM s) (twM s) (s 74) (s 81 (s 71 11)) ((s 71 7 + 1, 0, 0, fun _ => 0, fun _ => 0) : PSt)) := hR4
  have hev4 : Ev d 54 [(87, 0)] (Wd xs t dd rr s3) (1, if (tnn (tkM s) (twM s) (s 74) (s 81 (s 71 11)) ((s 71 7 + 1, 0, 0, fun _ => 0, fun _ => 0) : PSt)).2.1 = 0 then s 75 (s 71 7 + 1) else 0) (Wd xs t dd rr s4) := hev4
  have a4 := hR4.2.2.2.1
  refine R_invv rfl rfl rfl rfl rfl rfl (hev4) rfl ?_
  show pCm _ _ _ 96 _ [(1, _)] _
  refine R_lstore rfl rfl ?_
  refine R_aload rfl rfl rfl ?_
  refine R_push rfl ?_
  obtain ⟨s5, hev5, hF5, h75, h85⟩ := sp_X10_takeSign d (by omega) xs t dd rr s4 61 (by omega) (by rw [hR4.1.row 74 rfl]; exact (hT3.2.2.1 (s4 71 7) a4.1 a4.2).2.1)
  obtain ⟨hR5, hG5⟩ := RP_ts hT3 hR4 rfl hF5 h75 h85
  rw [t1] at hR5
  have hR5 : RP s5 (up2 (up2 s 78 (24 * s 71 11 + s 77 (s 71 11)) 0) 79 (24 * s 71 11 + s 77 (s 71 11)) 0) m (s 71 18) (tsg (tkM s) (s 74) 61 (tnn (tkM s) (twM s) (s 74) (s 81 (s 71 11)) ((s 71 7 + 1, 0, 0, fun _ => 0, fun _ => 0) : PSt))) := hR5
  have hroom : s5 71 18 + 1 ≤ s5 71 7 := by
    have u := hG4.2.2
    have v := hG5.2.2
    omega
  refine R_invv rfl rfl rfl rfl rfl rfl (hev5) rfl ?_
  show pCm _ _ _ 103 _ [] _
  refine R_goto rfl ?_
  have hS8 : ((tsg (tkM s) (s 74) 61 (tnn (tkM s) (twM s) (s 74) (s 81 (s 71 11)) ((s 71 7 + 1, 0, 0, fun _ => 0, fun _ => 0) : PSt))) : PSt).2.1 = 0 → s 81 (s 71 11) < 8 := fun q => tnn_M (pl_m hT (s 71 7 + 1) (by omega) (by have := hR3.2.2.2.1; omega)) hM0.2 rfl (tsg_f q)
  have hSl : ((tsg (tkM s) (s 74) 61 (tnn (tkM s) (twM s) (s 74) (s 81 (s 71 11)) ((s 71 7 + 1, 0, 0, fun _ => 0, fun _ => 0) : PSt))) : PSt).2.2 = (((s 71 7 + 1, 0, 0, fun _ => 0, fun _ => 0) : PSt)).2.2 := by rw [tsg_l, tnn_l]
  have hSd : ((tsg (tkM s) (s 74) 61 (tnn (tkM s) (twM s) (s 74) (s 81 (s 71 11)) ((s 71 7 + 1, 0, 0, fun _ => 0, fun _ => 0) : PSt))) : PSt) = hdS (tkM s) (twM s) (s 74) (s 81 (s 71 11)) (tkM s (s 71 7) - 128) ((s 71 7 + 1, 0, 0, fun _ => 0, fun _ => 0) : PSt) := by rw [show tkM s (s 71 7) - 128 = 0 by omega]; rfl
  have hc18 : ((tsg (tkM s) (s 74) 61 (tnn (tkM s) (twM s) (s 74) (s 81 (s 71 11)) ((s 71 7 + 1, 0, 0, fun _ => 0, fun _ => 0) : PSt))) : PSt).2.1 = 0 → s5 71 18 = s 71 18 := fun q => by
    have a := (hR5.2.2.2.2.2.2 q).2.1
    rw [hSl] at a
    have a : s5 71 18 = s 71 18 + 0 := a
    omega
  have hM7 : (0 : Int) = 0 → (tsg (tkM (up2 (up2 s 78 (24 * s 71 11 + s 77 (s 71 11)) 0) 79 (24 * s 71 11 + s 77 (s 71 11)) 0)) ((up2 (up2 s 78 (24 * s 71 11 + s 77 (s 71 11)) 0) 79 (24 * s 71 11 + s 77 (s 71 11)) 0) 74) 59 (ch0 (tkM (up2 (up2 s 78 (24 * s 71 11 + s 77 (s 71 11)) 0) 79 (24 * s 71 11 + s 77 (s 71 11)) 0)) (prt (tkM (up2 (up2 s 78 (24 * s 71 11 + s 77 (s 71 11)) 0) 79 (24 * s 71 11 + s 77 (s 71 11)) 0)) (twM (up2 (up2 s 78 (24 * s 71 11 + s 77 (s 71 11)) 0) 79 (24 * s 71 11 + s 77 (s 71 11)) 0)) ((up2 (up2 s 78 (24 * s 71 11 + s 77 (s 71 11)) 0) 79 (24 * s 71 11 + s 77 (s 71 11)) 0) 74) 5) (tsg (tkM s) (s 74) 61 (tnn (tkM s) (twM s) (s 74) (s 81 (s 71 11)) ((s 71 7 + 1, 0, 0, fun _ => 0, fun _ => 0) : PSt))))).2.1 = 0 → s 81 (s 71 11) < 8 := fun _ q => hS8 (U_S (tk_m hT3) (pl_m hT3) q)
  have hN : (up2 (up2 s 78 (24 * s 71 11 + s 77 (s 71 11)) 0) 79 (24 * s 71 11 + s 77 (s 71 11)) 0) 77 ((up2 (up2 s 78 (24 * s 71 11 + s 77 (s 71 11)) 0) 79 (24 * s 71 11 + s 77 (s 71 11)) 0) 71 11) = s 77 (s 71 11) := rfl
  have hMM : (up2 (up2 s 78 (24 * s 71 11 + s 77 (s 71 11)) 0) 79 (24 * s 71 11 + s 77 (s 71 11)) 0) 81 ((up2 (up2 s 78 (24 * s 71 11 + s 77 (s 71 11)) 0) 79 (24 * s 71 11 + s 77 (s 71 11)) 0) 71 11) = s 81 (s 71 11) := rfl
  have hi2 : (24 * s 71 11 + s 77 (s 71 11)) = 24 * (up2 (up2 s 78 (24 * s 71 11 + s 77 (s 71 11)) 0) 79 (24 * s 71 11 + s 77 (s 71 11)) 0) 71 11 + s 77 (s 71 11) := rfl
  refine ln_B d xs t dd rr (up2 (up2 s 78 (24 * s 71 11 + s 77 (s 71 11)) 0) 79 (24 * s 71 11 + s 77 (s 71 11)) 0) s5 E 0 (24 * s 71 11 + s 77 (s 71 11)) _ m (s 71 18) (s 77 (s 71 11)) (s 81 (s 71 11)) (tsg (tkM s) (s 74) 61 (tnn (tkM s) (twM s) (s 74) (s 81 (s 71 11)) ((s 71 7 + 1, 0, 0, fun _ => 0, fun _ => 0) : PSt))) hT3 hR5 hroom hN hN0 hMM hM7 hi2 hd2 (fun r1 σ' hr hx => ?_)
  obtain ⟨s10, hL, hs⟩ := hx
  refine hE r1 σ' hr (Ln_of (k := 0) (w := 0) hT hE3 ((Fr.rf.up rfl).up rfl) (fun x => ?_) (fun x => ?_) (by omega) hSd hL (fun q => ⟨hc18 q, fun z => by omega, fun z => by omega, fun _ => ⟨by rw [if_pos (tsg_f q)], hS8 q⟩⟩) hs)
  · by_cases z : x = (24 * s 71 11 + s 77 (s 71 11)) <;> simp [up2, z]
  · by_cases z : x = (24 * s 71 11 + s 77 (s 71 11)) <;> simp [up2, z]
set_option maxRecDepth 20000 in
set_option maxHeartbeats 2000000 in
theorem ln_1 (d : Nat) (xs : List (Nat × Nat)) (t dd rr : Nat) (s s3 : Sg) (E : pE) (m : Int) (hT : TR s m) (hR3 : RP s3 (up2 (up2 s 78 (24 * s 71 11 + s 77 (s 71 11)) 1) 79 (24 * s 71 11 + s 77 (s 71 11)) 0) m (s 71 18) ((s 71 7 + 1, 0, 0, fun _ => 0, fun _ => 0) : PSt)) (q7 : s3 71 7 = s 71 7 + 1) (q18 : s3 71 18 = s 71 18) (h7 : 0 ≤ s 71 7) (h18 : 0 ≤ s 71 18 ∧ s 71 18 ≤ s 71 7) (hN0 : 0 ≤ s 77 (s 71 11) ∧ s 77 (s 71 11) < 24) (hk : tkM s (s 71 7) = 128 + 1) (hd2 : 38 ≤ d) (hE : ∀ r1 σ', r1 = (8, 0) → LnP s σ' m → E r1 (Wd xs t dd rr σ')) : pCm (Ev d) k_X10_line E 86 [(87, 0), (0, 1), (0, (24 * s 71 11 + s 77 (s 71 11))), (9, 0), (9, 0)] [] (Wd xs t dd rr s3) := by
  have hE3 : ET s (up2 (up2 s 78 (24 * s 71 11 + s 77 (s 71 11)) 1) 79 (24 * s 71 11 + s 77 (s 71 11)) 0) := (ET_up (Or.inr (Or.inl rfl))).tr (ET_up (Or.inr (Or.inr (Or.inl rfl))))
  have hT3 := TR_t hE3 hT
  have t1 := tkM_t hE3
  have t2 := twM_t hE3
  have hm := hT.1
  have hnx := hT.2.2.2.2.1
  have hM0 := hT.2.2.2.2.2
  refine R_push rfl ?_
  refine R_lstore rfl rfl ?_
  refine R_iload rfl rfl ?_
  refine R_if rfl (fun _ => ?_) (fun h89 => absurd (by decide) h89)
  refine R_iload rfl rfl ?_
  refine R_push rfl ?_
  refine R_ic rfl (fun _ => ?_) (fun h108 => absurd (by decide) h108)
  refine R_iload rfl rfl ?_
  refine R_push rfl ?_
  refine R_ic rfl (fun _ => ?_) (fun h129 => absurd (by decide) h129)
  refine R_aload rfl rfl rfl ?_
  refine R_push rfl ?_
  have hT4 := hT3
  obtain ⟨s4, hs4⟩ : ∃ x, x = s3 := ⟨_, rfl⟩
  rw [← hs4]
  have hR4 : RP s4 (up2 (up2 s 78 (24 * s 71 11 + s 77 (s 71 11)) 1) 79 (24 * s 71 11 + s 77 (s 71 11)) 0) m (s 71 18) ((s 71 7 + 1, 0, 0, fun _ => 0, fun _ => 0) : PSt) := by rw [hs4]; exact hR3
  have hG4 : GR s3 s4 := by rw [hs4]; exact GR.rf
  have a4 := hR4.2.2.2.1
  obtain ⟨s5, hev5, hF5, h75, h85⟩ := sp_X10_takeWord d (by omega) xs t dd rr s4 4 ⟨by omega, by omega⟩ (by omega) (by rw [hR4.1.row 74 rfl]; exact (hT4.2.2.1 (s4 71 7) a4.1 a4.2).2.1)
  obtain ⟨hR5, hG5⟩ := RP_tw (w := 4) hT4 hR4 ⟨by omega, by omega⟩ hF5 h75 h85
  rw [t1] at hR5
  have hroom : s5 71 18 + 1 ≤ s5 71 7 := by
    have u := hG4.2.2
    have v := hG5.2.2
    omega
  have hR5 : RP s5 (up2 (up2 s 78 (24 * s 71 11 + s 77 (s 71 11)) 1) 79 (24 * s 71 11 + s 77 (s 71 11)) 0) m (s 71 18) (tsg (tkM s) (s 74) 132 ((s 71 7 + 1, 0, 0, fun _ => 0, fun _ => 0) : PSt)) := hR5
  refine R_invv rfl rfl rfl rfl rfl rfl (hev5) rfl ?_
  show pCm _ _ _ 150 _ [] _
  have hSl : ((tsg (tkM s) (s 74) 132 ((s 71 7 + 1, 0, 0, fun _ => 0, fun _ => 0) : PSt)) : PSt).2.2 = (((s 71 7 + 1, 0, 0, fun _ => 0, fun _ => 0) : PSt)).2.2 := by rw [tsg_l]
  have hSd : ((tsg (tkM s) (s 74) 132 ((s 71 7 + 1, 0, 0, fun _ => 0, fun _ => 0) : PSt)) : PSt) = hdS (tkM s) (twM s) (s 74) (s 81 (s 71 11)) (tkM s (s 71 7) - 128) ((s 71 7 + 1, 0, 0, fun _ => 0, fun _ => 0) : PSt) := by rw [show tkM s (s 71 7) - 128 = 1 by omega]; rfl
  have hc18 : ((tsg (tkM s) (s 74) 132 ((s 71 7 + 1, 0, 0, fun _ => 0, fun _ => 0) : PSt)) : PSt).2.1 = 0 → s5 71 18 = s 71 18 := fun q => by
    have a := (hR5.2.2.2.2.2.2 q).2.1
    rw [hSl] at a
    have a : s5 71 18 = s 71 18 + 0 := a
    omega
  have hM7 : (1 : Int) = 0 → (tsg (tkM (up2 (up2 s 78 (24 * s 71 11 + s 77 (s 71 11)) 1) 79 (24 * s 71 11 + s 77 (s 71 11)) 0)) ((up2 (up2 s 78 (24 * s 71 11 + s 77 (s 71 11)) 1) 79 (24 * s 71 11 + s 77 (s 71 11)) 0) 74) 59 (ch0 (tkM (up2 (up2 s 78 (24 * s 71 11 + s 77 (s 71 11)) 1) 79 (24 * s 71 11 + s 77 (s 71 11)) 0)) (prt (tkM (up2 (up2 s 78 (24 * s 71 11 + s 77 (s 71 11)) 1) 79 (24 * s 71 11 + s 77 (s 71 11)) 0)) (twM (up2 (up2 s 78 (24 * s 71 11 + s 77 (s 71 11)) 1) 79 (24 * s 71 11 + s 77 (s 71 11)) 0)) ((up2 (up2 s 78 (24 * s 71 11 + s 77 (s 71 11)) 1) 79 (24 * s 71 11 + s 77 (s 71 11)) 0) 74) 5) (tsg (tkM s) (s 74) 132 ((s 71 7 + 1, 0, 0, fun _ => 0, fun _ => 0) : PSt)))).2.1 = 0 → s 81 (s 71 11) < 8 := fun z => absurd z (by decide)
  have hN : (up2 (up2 s 78 (24 * s 71 11 + s 77 (s 71 11)) 1) 79 (24 * s 71 11 + s 77 (s 71 11)) 0) 77 ((up2 (up2 s 78 (24 * s 71 11 + s 77 (s 71 11)) 1) 79 (24 * s 71 11 + s 77 (s 71 11)) 0) 71 11) = s 77 (s 71 11) := rfl
  have hMM : (up2 (up2 s 78 (24 * s 71 11 + s 77 (s 71 11)) 1) 79 (24 * s 71 11 + s 77 (s 71 11)) 0) 81 ((up2 (up2 s 78 (24 * s 71 11 + s 77 (s 71 11)) 1) 79 (24 * s 71 11 + s 77 (s 71 11)) 0) 71 11) = s 81 (s 71 11) := rfl
  have hi2 : (24 * s 71 11 + s 77 (s 71 11)) = 24 * (up2 (up2 s 78 (24 * s 71 11 + s 77 (s 71 11)) 1) 79 (24 * s 71 11 + s 77 (s 71 11)) 0) 71 11 + s 77 (s 71 11) := rfl
  refine ln_B d xs t dd rr (up2 (up2 s 78 (24 * s 71 11 + s 77 (s 71 11)) 1) 79 (24 * s 71 11 + s 77 (s 71 11)) 0) s5 E 1 (24 * s 71 11 + s 77 (s 71 11)) _ m (s 71 18) (s 77 (s 71 11)) (s 81 (s 71 11)) (tsg (tkM s) (s 74) 132 ((s 71 7 + 1, 0, 0, fun _ => 0, fun _ => 0) : PSt)) hT3 hR5 hroom hN hN0 hMM hM7 hi2 hd2 (fun r1 σ' hr hx => ?_)
  obtain ⟨s10, hL, hs⟩ := hx
  refine hE r1 σ' hr (Ln_of (k := 1) (w := 0) hT hE3 ((Fr.rf.up rfl).up rfl) (fun x => ?_) (fun x => ?_) (by omega) hSd hL (fun q => ⟨hc18 q, fun z => by omega, fun _ => rfl, fun z => by omega⟩) hs)
  · by_cases z : x = (24 * s 71 11 + s 77 (s 71 11)) <;> simp [up2, z]
  · by_cases z : x = (24 * s 71 11 + s 77 (s 71 11)) <;> simp [up2, z]
set_option maxRecDepth 20000 in
set_option maxHeartbeats 2000000 in
theorem ln_2 (d : Nat) (xs : List (Nat × Nat)) (t dd rr : Nat) (s s3 : Sg) (E : pE) (m : Int) (hT : TR s m) (hR3 : RP s3 (up2 (up2 s 78 (24 * s 71 11 + s 77 (s 71 11)) 2) 79 (24 * s 71 11 + s 77 (s 71 11)) 0) m (s 71 18) ((s 71 7 + 1, 0, 0, fun _ => 0, fun _ => 0) : PSt)) (q7 : s3 71 7 = s 71 7 + 1) (q18 : s3 71 18 = s 71 18) (h7 : 0 ≤ s 71 7) (h18 : 0 ≤ s 71 18 ∧ s 71 18 ≤ s 71 7) (hN0 : 0 ≤ s 77 (s 71 11) ∧ s 77 (s 71 11) < 24) (hk : tkM s (s 71 7) = 128 + 2) (hd2 : 38 ≤ d) (hE : ∀ r1 σ', r1 = (8, 0) → LnP s σ' m → E r1 (Wd xs t dd rr σ')) : pCm (Ev d) k_X10_line E 86 [(87, 0), (0, 2), (0, (24 * s 71 11 + s 77 (s 71 11))), (9, 0), (9, 0)] [] (Wd xs t dd rr s3) := by
  have hE3 : ET s (up2 (up2 s 78 (24 * s 71 11 + s 77 (s 71 11)) 2) 79 (24 * s 71 11 + s 77 (s 71 11)) 0) := (ET_up (Or.inr (Or.inl rfl))).tr (ET_up (Or.inr (Or.inr (Or.inl rfl))))
  have hT3 := TR_t hE3 hT
  have t1 := tkM_t hE3
  have t2 := twM_t hE3
  have hm := hT.1
  have hnx := hT.2.2.2.2.1
  have hM0 := hT.2.2.2.2.2
  refine R_push rfl ?_
  refine R_lstore rfl rfl ?_
  refine R_iload rfl rfl ?_
  refine R_if rfl (fun _ => ?_) (fun h89 => absurd (by decide) h89)
  refine R_iload rfl rfl ?_
  refine R_push rfl ?_
  refine R_ic rfl (fun h108 => absurd h108 (by decide)) (fun _ => ?_)
  refine R_aload rfl rfl rfl ?_
  refine T_getr (v := 95) rfl rfl rfl rfl ?_
  refine R_iload rfl rfl ?_
  refine R_aload rfl rfl rfl ?_
  refine R_push rfl ?_
  refine R_push rfl ?_
  obtain ⟨s4, hev4, hR4, hG4⟩ := sp_X10_takeNumber d (by omega) xs t dd rr (up2 (up2 s 78 (24 * s 71 11 + s 77 (s 71 11)) 2) 79 (24 * s 71 11 + s 77 (s 71 11)) 0) s3 1 99 ⟨by omega, by omega⟩ m (s 71 18) ((s 71 7 + 1, 0, 0, fun _ => 0, fun _ => 0) : PSt) hT3 hR3
  rw [t1, t2] at hR4 hev4
  have hR4 : RP s4 (up2 (up2 s 78 (24 * s 71 11 + s 77 (s 71 11)) 2) 79 (24 * s 71 11 + s 77 (s 71 11)) 0) m (s 71 18) (tnm (tkM s) (twM s) (s 74) 1 99 ((s 71 7 + 1, 0, 0, fun _ => 0, fun _ => 0) : PSt)) := hR4
  have hev4 : Ev d 51 [(87, 0), (0, 1), (0, 99)] (Wd xs t dd rr s3) (0, if (tnm (tkM s) (twM s) (s 74) 1 99 ((s 71 7 + 1, 0, 0, fun _ => 0, fun _ => 0) : PSt)).2.1 = 0 then twM s (s 71 7 + 1) else 0) (Wd xs t dd rr s4) := hev4
  have hg4 : GR s3 s4 := hG4
  refine R_invv rfl rfl rfl rfl rfl rfl (hev4) rfl ?_
  show pCm _ _ _ 123 _ [(0, _), (0, _), (95, 0)] _
  refine T_iast rfl rfl (by omega) (by omega) ?_
  generalize hs6 : up2 s4 79 (24 * s 71 11 + s 77 (s 71 11)) (if (tnm (tkM s) (twM s) (s 74) 1 99 ((s 71 7 + 1, 0, 0, fun _ => 0, fun _ => 0) : PSt)).2.1 = 0 then twM s (s 71 7 + 1) else 0) = s6
  have hR6 : RP s6 (up2 (up2 (up2 s 78 (24 * s 71 11 + s 77 (s 71 11)) 2) 79 (24 * s 71 11 + s 77 (s 71 11)) 0) 79 (24 * s 71 11 + s 77 (s 71 11)) (if (tnm (tkM s) (twM s) (s 74) 1 99 ((s 71 7 + 1, 0, 0, fun _ => 0, fun _ => 0) : PSt)).2.1 = 0 then twM s (s 71 7 + 1) else 0)) m (s 71 18) (tnm (tkM s) (twM s) (s 74) 1 99 ((s 71 7 + 1, 0, 0, fun _ => 0, fun _ => 0) : PSt)) := by rw [← hs6]; exact RP_up (Or.inr (Or.inr (Or.inl rfl))) hR4
  have g7 : s6 71 7 = s4 71 7 := by rw [← hs6]; simp [up2]
  have g18 : s6 71 18 = s4 71 18 := by rw [← hs6]; simp [up2]
  have hE4 : ET s (up2 (up2 (up2 s 78 (24 * s 71 11 + s 77 (s 71 11)) 2) 79 (24 * s 71 11 + s 77 (s 71 11)) 0) 79 (24 * s 71 11 + s 77 (s 71 11)) (if (tnm (tkM s) (twM s) (s 74) 1 99 ((s 71 7 + 1, 0, 0, fun _ => 0, fun _ => 0) : PSt)).2.1 = 0 then twM s (s 71 7 + 1) else 0)) := hE3.tr (ET_up (Or.inr (Or.inr (Or.inl rfl))))
  have hT4 := TR_t hE4 hT
  clear t1 t2
  have t1 := tkM_t hE4
  have t2 := twM_t hE4
  have a4 := hR6.2.2.2.1
  refine R_goto rfl ?_
  refine R_aload rfl rfl rfl ?_
  refine R_push rfl ?_
  obtain ⟨s5, hev5, hF5, h75, h85⟩ := sp_X10_takeWord d (by omega) xs t dd rr s6 4 ⟨by omega, by omega⟩ (by omega) (by rw [hR6.1.row 74 rfl]; exact (hT4.2.2.1 (s6 71 7) a4.1 a4.2).2.1)
  obtain ⟨hR5, hG5⟩ := RP_tw (w := 4) hT4 hR6 ⟨by omega, by omega⟩ hF5 h75 h85
  rw [t1] at hR5
  have hroom : s5 71 18 + 1 ≤ s5 71 7 := by
    have u := hG4.2.2
    have v := hG5.2.2
    omega
  have hR5 : RP s5 (up2 (up2 (up2 s 78 (24 * s 71 11 + s 77 (s 71 11)) 2) 79 (24 * s 71 11 + s 77 (s 71 11)) 0) 79 (24 * s 71 11 + s 77 (s 71 11)) (if (tnm (tkM s) (twM s) (s 74) 1 99 ((s 71 7 + 1, 0, 0, fun _ => 0, fun _ => 0) : PSt)).2.1 = 0 then twM s (s 71 7 + 1) else 0)) m (s 71 18) (tsg (tkM s) (s 74) 132 (tnm (tkM s) (twM s) (s 74) 1 99 ((s 71 7 + 1, 0, 0, fun _ => 0, fun _ => 0) : PSt))) := hR5
  refine R_invv rfl rfl rfl rfl rfl rfl (hev5) rfl ?_
  show pCm _ _ _ 150 _ [] _
  have hSl : ((tsg (tkM s) (s 74) 132 (tnm (tkM s) (twM s) (s 74) 1 99 ((s 71 7 + 1, 0, 0, fun _ => 0, fun _ => 0) : PSt))) : PSt).2.2 = (((s 71 7 + 1, 0, 0, fun _ => 0, fun _ => 0) : PSt)).2.2 := by rw [tsg_l, tnm_l]
  have hSd : ((tsg (tkM s) (s 74) 132 (tnm (tkM s) (twM s) (s 74) 1 99 ((s 71 7 + 1, 0, 0, fun _ => 0, fun _ => 0) : PSt))) : PSt) = hdS (tkM s) (twM s) (s 74) (s 81 (s 71 11)) (tkM s (s 71 7) - 128) ((s 71 7 + 1, 0, 0, fun _ => 0, fun _ => 0) : PSt) := by rw [show tkM s (s 71 7) - 128 = 2 by omega]; rfl
  have hc18 : ((tsg (tkM s) (s 74) 132 (tnm (tkM s) (twM s) (s 74) 1 99 ((s 71 7 + 1, 0, 0, fun _ => 0, fun _ => 0) : PSt))) : PSt).2.1 = 0 → s5 71 18 = s 71 18 := fun q => by
    have a := (hR5.2.2.2.2.2.2 q).2.1
    rw [hSl] at a
    have a : s5 71 18 = s 71 18 + 0 := a
    omega
  have hM7 : (2 : Int) = 0 → (tsg (tkM (up2 (up2 (up2 s 78 (24 * s 71 11 + s 77 (s 71 11)) 2) 79 (24 * s 71 11 + s 77 (s 71 11)) 0) 79 (24 * s 71 11 + s 77 (s 71 11)) (if (tnm (tkM s) (twM s) (s 74) 1 99 ((s 71 7 + 1, 0, 0, fun _ => 0, fun _ => 0) : PSt)).2.1 = 0 then twM s (s 71 7 + 1) else 0))) ((up2 (up2 (up2 s 78 (24 * s 71 11 + s 77 (s 71 11)) 2) 79 (24 * s 71 11 + s 77 (s 71 11)) 0) 79 (24 * s 71 11 + s 77 (s 71 11)) (if (tnm (tkM s) (twM s) (s 74) 1 99 ((s 71 7 + 1, 0, 0, fun _ => 0, fun _ => 0) : PSt)).2.1 = 0 then twM s (s 71 7 + 1) else 0)) 74) 59 (ch0 (tkM (up2 (up2 (up2 s 78 (24 * s 71 11 + s 77 (s 71 11)) 2) 79 (24 * s 71 11 + s 77 (s 71 11)) 0) 79 (24 * s 71 11 + s 77 (s 71 11)) (if (tnm (tkM s) (twM s) (s 74) 1 99 ((s 71 7 + 1, 0, 0, fun _ => 0, fun _ => 0) : PSt)).2.1 = 0 then twM s (s 71 7 + 1) else 0))) (prt (tkM (up2 (up2 (up2 s 78 (24 * s 71 11 + s 77 (s 71 11)) 2) 79 (24 * s 71 11 + s 77 (s 71 11)) 0) 79 (24 * s 71 11 + s 77 (s 71 11)) (if (tnm (tkM s) (twM s) (s 74) 1 99 ((s 71 7 + 1, 0, 0, fun _ => 0, fun _ => 0) : PSt)).2.1 = 0 then twM s (s 71 7 + 1) else 0))) (twM (up2 (up2 (up2 s 78 (24 * s 71 11 + s 77 (s 71 11)) 2) 79 (24 * s 71 11 + s 77 (s 71 11)) 0) 79 (24 * s 71 11 + s 77 (s 71 11)) (if (tnm (tkM s) (twM s) (s 74) 1 99 ((s 71 7 + 1, 0, 0, fun _ => 0, fun _ => 0) : PSt)).2.1 = 0 then twM s (s 71 7 + 1) else 0))) ((up2 (up2 (up2 s 78 (24 * s 71 11 + s 77 (s 71 11)) 2) 79 (24 * s 71 11 + s 77 (s 71 11)) 0) 79 (24 * s 71 11 + s 77 (s 71 11)) (if (tnm (tkM s) (twM s) (s 74) 1 99 ((s 71 7 + 1, 0, 0, fun _ => 0, fun _ => 0) : PSt)).2.1 = 0 then twM s (s 71 7 + 1) else 0)) 74) 5) (tsg (tkM s) (s 74) 132 (tnm (tkM s) (twM s) (s 74) 1 99 ((s 71 7 + 1, 0, 0, fun _ => 0, fun _ => 0) : PSt))))).2.1 = 0 → s 81 (s 71 11) < 8 := fun z => absurd z (by decide)
  have hN : (up2 (up2 (up2 s 78 (24 * s 71 11 + s 77 (s 71 11)) 2) 79 (24 * s 71 11 + s 77 (s 71 11)) 0) 79 (24 * s 71 11 + s 77 (s 71 11)) (if (tnm (tkM s) (twM s) (s 74) 1 99 ((s 71 7 + 1, 0, 0, fun _ => 0, fun _ => 0) : PSt)).2.1 = 0 then twM s (s 71 7 + 1) else 0)) 77 ((up2 (up2 (up2 s 78 (24 * s 71 11 + s 77 (s 71 11)) 2) 79 (24 * s 71 11 + s 77 (s 71 11)) 0) 79 (24 * s 71 11 + s 77 (s 71 11)) (if (tnm (tkM s) (twM s) (s 74) 1 99 ((s 71 7 + 1, 0, 0, fun _ => 0, fun _ => 0) : PSt)).2.1 = 0 then twM s (s 71 7 + 1) else 0)) 71 11) = s 77 (s 71 11) := rfl
  have hMM : (up2 (up2 (up2 s 78 (24 * s 71 11 + s 77 (s 71 11)) 2) 79 (24 * s 71 11 + s 77 (s 71 11)) 0) 79 (24 * s 71 11 + s 77 (s 71 11)) (if (tnm (tkM s) (twM s) (s 74) 1 99 ((s 71 7 + 1, 0, 0, fun _ => 0, fun _ => 0) : PSt)).2.1 = 0 then twM s (s 71 7 + 1) else 0)) 81 ((up2 (up2 (up2 s 78 (24 * s 71 11 + s 77 (s 71 11)) 2) 79 (24 * s 71 11 + s 77 (s 71 11)) 0) 79 (24 * s 71 11 + s 77 (s 71 11)) (if (tnm (tkM s) (twM s) (s 74) 1 99 ((s 71 7 + 1, 0, 0, fun _ => 0, fun _ => 0) : PSt)).2.1 = 0 then twM s (s 71 7 + 1) else 0)) 71 11) = s 81 (s 71 11) := rfl
  have hi2 : (24 * s 71 11 + s 77 (s 71 11)) = 24 * (up2 (up2 (up2 s 78 (24 * s 71 11 + s 77 (s 71 11)) 2) 79 (24 * s 71 11 + s 77 (s 71 11)) 0) 79 (24 * s 71 11 + s 77 (s 71 11)) (if (tnm (tkM s) (twM s) (s 74) 1 99 ((s 71 7 + 1, 0, 0, fun _ => 0, fun _ => 0) : PSt)).2.1 = 0 then twM s (s 71 7 + 1) else 0)) 71 11 + s 77 (s 71 11) := rfl
  refine ln_B d xs t dd rr (up2 (up2 (up2 s 78 (24 * s 71 11 + s 77 (s 71 11)) 2) 79 (24 * s 71 11 + s 77 (s 71 11)) 0) 79 (24 * s 71 11 + s 77 (s 71 11)) (if (tnm (tkM s) (twM s) (s 74) 1 99 ((s 71 7 + 1, 0, 0, fun _ => 0, fun _ => 0) : PSt)).2.1 = 0 then twM s (s 71 7 + 1) else 0)) s5 E 2 (24 * s 71 11 + s 77 (s 71 11)) _ m (s 71 18) (s 77 (s 71 11)) (s 81 (s 71 11)) (tsg (tkM s) (s 74) 132 (tnm (tkM s) (twM s) (s 74) 1 99 ((s 71 7 + 1, 0, 0, fun _ => 0, fun _ => 0) : PSt))) hT4 hR5 hroom hN hN0 hMM hM7 hi2 hd2 (fun r1 σ' hr hx => ?_)
  obtain ⟨s10, hL, hs⟩ := hx
  refine hE r1 σ' hr (Ln_of (k := 2) (w := (if (tnm (tkM s) (twM s) (s 74) 1 99 ((s 71 7 + 1, 0, 0, fun _ => 0, fun _ => 0) : PSt)).2.1 = 0 then twM s (s 71 7 + 1) else 0)) hT hE4 (((Fr.rf.up rfl).up rfl).up rfl) (fun x => ?_) (fun x => ?_) (by omega) hSd hL (fun q => ⟨hc18 q, fun _ => by rw [if_pos (tsg_f q)], fun z => by omega, fun z => by omega⟩) hs)
  · by_cases z : x = (24 * s 71 11 + s 77 (s 71 11)) <;> simp [up2, z]
  · by_cases z : x = (24 * s 71 11 + s 77 (s 71 11)) <;> simp [up2, z]
set_option maxRecDepth 20000 in
set_option maxHeartbeats 2000000 in
theorem ln_3 (d : Nat) (xs : List (Nat × Nat)) (t dd rr : Nat) (s s3 : Sg) (E : pE) (m : Int) (hT : TR s m) (hR3 : RP s3 (up2 (up2 s 78 (24 * s 71 11 + s 77 (s 71 11)) 3) 79 (24 * s 71 11 + s 77 (s 71 11)) 0) m (s 71 18) ((s 71 7 + 1, 0, 0, fun _ => 0, fun _ => 0) : PSt)) (q7 : s3 71 7 = s 71 7 + 1) (q18 : s3 71 18 = s 71 18) (h7 : 0 ≤ s 71 7) (h18 : 0 ≤ s 71 18 ∧ s 71 18 ≤ s 71 7) (hN0 : 0 ≤ s 77 (s 71 11) ∧ s 77 (s 71 11) < 24) (hk : tkM s (s 71 7) = 128 + 3) (hd2 : 38 ≤ d) (hE : ∀ r1 σ', r1 = (8, 0) → LnP s σ' m → E r1 (Wd xs t dd rr σ')) : pCm (Ev d) k_X10_line E 86 [(87, 0), (0, 3), (0, (24 * s 71 11 + s 77 (s 71 11))), (9, 0), (9, 0)] [] (Wd xs t dd rr s3) := by
  have hE3 : ET s (up2 (up2 s 78 (24 * s 71 11 + s 77 (s 71 11)) 3) 79 (24 * s 71 11 + s 77 (s 71 11)) 0) := (ET_up (Or.inr (Or.inl rfl))).tr (ET_up (Or.inr (Or.inr (Or.inl rfl))))
  have hT3 := TR_t hE3 hT
  have t1 := tkM_t hE3
  have t2 := twM_t hE3
  have hm := hT.1
  have hnx := hT.2.2.2.2.1
  have hM0 := hT.2.2.2.2.2
  refine R_push rfl ?_
  refine R_lstore rfl rfl ?_
  refine R_iload rfl rfl ?_
  refine R_if rfl (fun _ => ?_) (fun h89 => absurd (by decide) h89)
  refine R_iload rfl rfl ?_
  refine R_push rfl ?_
  refine R_ic rfl (fun _ => ?_) (fun h108 => absurd (by decide) h108)
  refine R_iload rfl rfl ?_
  refine R_push rfl ?_
  refine R_ic rfl (fun h129 => absurd h129 (by decide)) (fun _ => ?_)
  refine R_aload rfl rfl rfl ?_
  refine T_getr (v := 95) rfl rfl rfl rfl ?_
  refine R_iload rfl rfl ?_
  refine R_aload rfl rfl rfl ?_
  refine R_push rfl ?_
  refine R_push rfl ?_
  obtain ⟨s4, hev4, hR4, hG4⟩ := sp_X10_takeNumber d (by omega) xs t dd rr (up2 (up2 s 78 (24 * s 71 11 + s 77 (s 71 11)) 3) 79 (24 * s 71 11 + s 77 (s 71 11)) 0) s3 0 7 ⟨by omega, by omega⟩ m (s 71 18) ((s 71 7 + 1, 0, 0, fun _ => 0, fun _ => 0) : PSt) hT3 hR3
  rw [t1, t2] at hR4 hev4
  have hR4 : RP s4 (up2 (up2 s 78 (24 * s 71 11 + s 77 (s 71 11)) 3) 79 (24 * s 71 11 + s 77 (s 71 11)) 0) m (s 71 18) (tnm (tkM s) (twM s) (s 74) 0 7 ((s 71 7 + 1, 0, 0, fun _ => 0, fun _ => 0) : PSt)) := hR4
  have hev4 : Ev d 51 [(87, 0), (0, 0), (0, 7)] (Wd xs t dd rr s3) (0, if (tnm (tkM s) (twM s) (s 74) 0 7 ((s 71 7 + 1, 0, 0, fun _ => 0, fun _ => 0) : PSt)).2.1 = 0 then twM s (s 71 7 + 1) else 0) (Wd xs t dd rr s4) := hev4
  have hg4 : GR s3 s4 := hG4
  refine R_invv rfl rfl rfl rfl rfl rfl (hev4) rfl ?_
  show pCm _ _ _ 144 _ [(0, _), (0, _), (95, 0)] _
  refine T_iast rfl rfl (by omega) (by omega) ?_
  generalize hs6 : up2 s4 79 (24 * s 71 11 + s 77 (s 71 11)) (if (tnm (tkM s) (twM s) (s 74) 0 7 ((s 71 7 + 1, 0, 0, fun _ => 0, fun _ => 0) : PSt)).2.1 = 0 then twM s (s 71 7 + 1) else 0) = s6
  have hR6 : RP s6 (up2 (up2 (up2 s 78 (24 * s 71 11 + s 77 (s 71 11)) 3) 79 (24 * s 71 11 + s 77 (s 71 11)) 0) 79 (24 * s 71 11 + s 77 (s 71 11)) (if (tnm (tkM s) (twM s) (s 74) 0 7 ((s 71 7 + 1, 0, 0, fun _ => 0, fun _ => 0) : PSt)).2.1 = 0 then twM s (s 71 7 + 1) else 0)) m (s 71 18) (tnm (tkM s) (twM s) (s 74) 0 7 ((s 71 7 + 1, 0, 0, fun _ => 0, fun _ => 0) : PSt)) := by rw [← hs6]; exact RP_up (Or.inr (Or.inr (Or.inl rfl))) hR4
  have g7 : s6 71 7 = s4 71 7 := by rw [← hs6]; simp [up2]
  have g18 : s6 71 18 = s4 71 18 := by rw [← hs6]; simp [up2]
  have hE4 : ET s (up2 (up2 (up2 s 78 (24 * s 71 11 + s 77 (s 71 11)) 3) 79 (24 * s 71 11 + s 77 (s 71 11)) 0) 79 (24 * s 71 11 + s 77 (s 71 11)) (if (tnm (tkM s) (twM s) (s 74) 0 7 ((s 71 7 + 1, 0, 0, fun _ => 0, fun _ => 0) : PSt)).2.1 = 0 then twM s (s 71 7 + 1) else 0)) := hE3.tr (ET_up (Or.inr (Or.inr (Or.inl rfl))))
  have hT4 := TR_t hE4 hT
  clear t1 t2
  have t1 := tkM_t hE4
  have t2 := twM_t hE4
  have a4 := hR6.2.2.2.1
  refine R_aload rfl rfl rfl ?_
  refine R_push rfl ?_
  obtain ⟨s5, hev5, hF5, h75, h85⟩ := sp_X10_takeWord d (by omega) xs t dd rr s6 4 ⟨by omega, by omega⟩ (by omega) (by rw [hR6.1.row 74 rfl]; exact (hT4.2.2.1 (s6 71 7) a4.1 a4.2).2.1)
  obtain ⟨hR5, hG5⟩ := RP_tw (w := 4) hT4 hR6 ⟨by omega, by omega⟩ hF5 h75 h85
  rw [t1] at hR5
  have hroom : s5 71 18 + 1 ≤ s5 71 7 := by
    have u := hG4.2.2
    have v := hG5.2.2
    omega
  have hR5 : RP s5 (up2 (up2 (up2 s 78 (24 * s 71 11 + s 77 (s 71 11)) 3) 79 (24 * s 71 11 + s 77 (s 71 11)) 0) 79 (24 * s 71 11 + s 77 (s 71 11)) (if (tnm (tkM s) (twM s) (s 74) 0 7 ((s 71 7 + 1, 0, 0, fun _ => 0, fun _ => 0) : PSt)).2.1 = 0 then twM s (s 71 7 + 1) else 0)) m (s 71 18) (tsg (tkM s) (s 74) 132 (tnm (tkM s) (twM s) (s 74) 0 7 ((s 71 7 + 1, 0, 0, fun _ => 0, fun _ => 0) : PSt))) := hR5
  refine R_invv rfl rfl rfl rfl rfl rfl (hev5) rfl ?_
  show pCm _ _ _ 150 _ [] _
  have hSl : ((tsg (tkM s) (s 74) 132 (tnm (tkM s) (twM s) (s 74) 0 7 ((s 71 7 + 1, 0, 0, fun _ => 0, fun _ => 0) : PSt))) : PSt).2.2 = (((s 71 7 + 1, 0, 0, fun _ => 0, fun _ => 0) : PSt)).2.2 := by rw [tsg_l, tnm_l]
  have hSd : ((tsg (tkM s) (s 74) 132 (tnm (tkM s) (twM s) (s 74) 0 7 ((s 71 7 + 1, 0, 0, fun _ => 0, fun _ => 0) : PSt))) : PSt) = hdS (tkM s) (twM s) (s 74) (s 81 (s 71 11)) (tkM s (s 71 7) - 128) ((s 71 7 + 1, 0, 0, fun _ => 0, fun _ => 0) : PSt) := by rw [show tkM s (s 71 7) - 128 = 3 by omega]; rfl
  have hc18 : ((tsg (tkM s) (s 74) 132 (tnm (tkM s) (twM s) (s 74) 0 7 ((s 71 7 + 1, 0, 0, fun _ => 0, fun _ => 0) : PSt))) : PSt).2.1 = 0 → s5 71 18 = s 71 18 := fun q => by
    have a := (hR5.2.2.2.2.2.2 q).2.1
    rw [hSl] at a
    have a : s5 71 18 = s 71 18 + 0 := a
    omega
  have hM7 : (3 : Int) = 0 → (tsg (tkM (up2 (up2 (up2 s 78 (24 * s 71 11 + s 77 (s 71 11)) 3) 79 (24 * s 71 11 + s 77 (s 71 11)) 0) 79 (24 * s 71 11 + s 77 (s 71 11)) (if (tnm (tkM s) (twM s) (s 74) 0 7 ((s 71 7 + 1, 0, 0, fun _ => 0, fun _ => 0) : PSt)).2.1 = 0 then twM s (s 71 7 + 1) else 0))) ((up2 (up2 (up2 s 78 (24 * s 71 11 + s 77 (s 71 11)) 3) 79 (24 * s 71 11 + s 77 (s 71 11)) 0) 79 (24 * s 71 11 + s 77 (s 71 11)) (if (tnm (tkM s) (twM s) (s 74) 0 7 ((s 71 7 + 1, 0, 0, fun _ => 0, fun _ => 0) : PSt)).2.1 = 0 then twM s (s 71 7 + 1) else 0)) 74) 59 (ch0 (tkM (up2 (up2 (up2 s 78 (24 * s 71 11 + s 77 (s 71 11)) 3) 79 (24 * s 71 11 + s 77 (s 71 11)) 0) 79 (24 * s 71 11 + s 77 (s 71 11)) (if (tnm (tkM s) (twM s) (s 74) 0 7 ((s 71 7 + 1, 0, 0, fun _ => 0, fun _ => 0) : PSt)).2.1 = 0 then twM s (s 71 7 + 1) else 0))) (prt (tkM (up2 (up2 (up2 s 78 (24 * s 71 11 + s 77 (s 71 11)) 3) 79 (24 * s 71 11 + s 77 (s 71 11)) 0) 79 (24 * s 71 11 + s 77 (s 71 11)) (if (tnm (tkM s) (twM s) (s 74) 0 7 ((s 71 7 + 1, 0, 0, fun _ => 0, fun _ => 0) : PSt)).2.1 = 0 then twM s (s 71 7 + 1) else 0))) (twM (up2 (up2 (up2 s 78 (24 * s 71 11 + s 77 (s 71 11)) 3) 79 (24 * s 71 11 + s 77 (s 71 11)) 0) 79 (24 * s 71 11 + s 77 (s 71 11)) (if (tnm (tkM s) (twM s) (s 74) 0 7 ((s 71 7 + 1, 0, 0, fun _ => 0, fun _ => 0) : PSt)).2.1 = 0 then twM s (s 71 7 + 1) else 0))) ((up2 (up2 (up2 s 78 (24 * s 71 11 + s 77 (s 71 11)) 3) 79 (24 * s 71 11 + s 77 (s 71 11)) 0) 79 (24 * s 71 11 + s 77 (s 71 11)) (if (tnm (tkM s) (twM s) (s 74) 0 7 ((s 71 7 + 1, 0, 0, fun _ => 0, fun _ => 0) : PSt)).2.1 = 0 then twM s (s 71 7 + 1) else 0)) 74) 5) (tsg (tkM s) (s 74) 132 (tnm (tkM s) (twM s) (s 74) 0 7 ((s 71 7 + 1, 0, 0, fun _ => 0, fun _ => 0) : PSt))))).2.1 = 0 → s 81 (s 71 11) < 8 := fun z => absurd z (by decide)
  have hN : (up2 (up2 (up2 s 78 (24 * s 71 11 + s 77 (s 71 11)) 3) 79 (24 * s 71 11 + s 77 (s 71 11)) 0) 79 (24 * s 71 11 + s 77 (s 71 11)) (if (tnm (tkM s) (twM s) (s 74) 0 7 ((s 71 7 + 1, 0, 0, fun _ => 0, fun _ => 0) : PSt)).2.1 = 0 then twM s (s 71 7 + 1) else 0)) 77 ((up2 (up2 (up2 s 78 (24 * s 71 11 + s 77 (s 71 11)) 3) 79 (24 * s 71 11 + s 77 (s 71 11)) 0) 79 (24 * s 71 11 + s 77 (s 71 11)) (if (tnm (tkM s) (twM s) (s 74) 0 7 ((s 71 7 + 1, 0, 0, fun _ => 0, fun _ => 0) : PSt)).2.1 = 0 then twM s (s 71 7 + 1) else 0)) 71 11) = s 77 (s 71 11) := rfl
  have hMM : (up2 (up2 (up2 s 78 (24 * s 71 11 + s 77 (s 71 11)) 3) 79 (24 * s 71 11 + s 77 (s 71 11)) 0) 79 (24 * s 71 11 + s 77 (s 71 11)) (if (tnm (tkM s) (twM s) (s 74) 0 7 ((s 71 7 + 1, 0, 0, fun _ => 0, fun _ => 0) : PSt)).2.1 = 0 then twM s (s 71 7 + 1) else 0)) 81 ((up2 (up2 (up2 s 78 (24 * s 71 11 + s 77 (s 71 11)) 3) 79 (24 * s 71 11 + s 77 (s 71 11)) 0) 79 (24 * s 71 11 + s 77 (s 71 11)) (if (tnm (tkM s) (twM s) (s 74) 0 7 ((s 71 7 + 1, 0, 0, fun _ => 0, fun _ => 0) : PSt)).2.1 = 0 then twM s (s 71 7 + 1) else 0)) 71 11) = s 81 (s 71 11) := rfl
  have hi2 : (24 * s 71 11 + s 77 (s 71 11)) = 24 * (up2 (up2 (up2 s 78 (24 * s 71 11 + s 77 (s 71 11)) 3) 79 (24 * s 71 11 + s 77 (s 71 11)) 0) 79 (24 * s 71 11 + s 77 (s 71 11)) (if (tnm (tkM s) (twM s) (s 74) 0 7 ((s 71 7 + 1, 0, 0, fun _ => 0, fun _ => 0) : PSt)).2.1 = 0 then twM s (s 71 7 + 1) else 0)) 71 11 + s 77 (s 71 11) := rfl
  refine ln_B d xs t dd rr (up2 (up2 (up2 s 78 (24 * s 71 11 + s 77 (s 71 11)) 3) 79 (24 * s 71 11 + s 77 (s 71 11)) 0) 79 (24 * s 71 11 + s 77 (s 71 11)) (if (tnm (tkM s) (twM s) (s 74) 0 7 ((s 71 7 + 1, 0, 0, fun _ => 0, fun _ => 0) : PSt)).2.1 = 0 then twM s (s 71 7 + 1) else 0)) s5 E 3 (24 * s 71 11 + s 77 (s 71 11)) _ m (s 71 18) (s 77 (s 71 11)) (s 81 (s 71 11)) (tsg (tkM s) (s 74) 132 (tnm (tkM s) (twM s) (s 74) 0 7 ((s 71 7 + 1, 0, 0, fun _ => 0, fun _ => 0) : PSt))) hT4 hR5 hroom hN hN0 hMM hM7 hi2 hd2 (fun r1 σ' hr hx => ?_)
  obtain ⟨s10, hL, hs⟩ := hx
  refine hE r1 σ' hr (Ln_of (k := 3) (w := (if (tnm (tkM s) (twM s) (s 74) 0 7 ((s 71 7 + 1, 0, 0, fun _ => 0, fun _ => 0) : PSt)).2.1 = 0 then twM s (s 71 7 + 1) else 0)) hT hE4 (((Fr.rf.up rfl).up rfl).up rfl) (fun x => ?_) (fun x => ?_) (by omega) hSd hL (fun q => ⟨hc18 q, fun _ => by rw [if_pos (tsg_f q)], fun z => by omega, fun z => by omega⟩) hs)
  · by_cases z : x = (24 * s 71 11 + s 77 (s 71 11)) <;> simp [up2, z]
  · by_cases z : x = (24 * s 71 11 + s 77 (s 71 11)) <;> simp [up2, z]

def psh (v f b : Int) : Int := if v < f then max 0 (v - b) else min 999 (v + b)
def wst (FX FY ST : Int → Int) (z k : Int) (s : Int × Int) : Int × Int := if dst s.1 (FX k) ≤ 100 ∧ dst s.2 (FY k) ≤ 100 then (psh s.1 (FX k) (ST k * 20 / z), psh s.2 (FY k) (ST k * 20 / z)) else s
def went (FX FY ST : Int → Int) (z n : Int) (s : Int × Int) : Int × Int := foldZ (wst FX FY ST z) n s
theorem went_s {FX FY ST : Int → Int} {z n : Int} {s : Int × Int} (h : 0 ≤ n) : went FX FY ST z (n + 1) s = wst FX FY ST z n (went FX FY ST z n s) := foldZ_s h
theorem psh_bd {v f b : Int} (h : 0 ≤ v ∧ v ≤ 999) (hb : 0 ≤ b) : 0 ≤ psh v f b ∧ psh v f b ≤ 999 := by unfold psh; split <;> omega
theorem str_bd {s z : Int} (hs : 0 ≤ s ∧ s ≤ 99) (hz : 1 ≤ z ∧ z ≤ 200) : 0 ≤ s * 20 / z ∧ s * 20 / z ≤ 1980 := by
  have h1 : 0 ≤ s * 20 / z := Int.ediv_nonneg (by omega) (by omega)
  have h2 : s * 20 / z ≤ s * 20 := Int.ediv_le_self _ (by omega)
  omega
def FB (FX FY ST : Int → Int) (n : Int) : Prop := ∀ k, 0 ≤ k → k < n → (0 ≤ FX k ∧ FX k ≤ 999) ∧ (0 ≤ FY k ∧ FY k ≤ 999) ∧ (0 ≤ ST k ∧ ST k ≤ 99)
theorem went_bd {FX FY ST : Int → Int} {z n : Int} {s : Int × Int} (hF : FB FX FY ST n) (hz : 1 ≤ z ∧ z ≤ 200) (hs : (0 ≤ s.1 ∧ s.1 ≤ 999) ∧ 0 ≤ s.2 ∧ s.2 ≤ 999) : ∀ m : Nat, (m : Int) ≤ n → (0 ≤ (went FX FY ST z m s).1 ∧ (went FX FY ST z m s).1 ≤ 999) ∧ 0 ≤ (went FX FY ST z m s).2 ∧ (went FX FY ST z m s).2 ≤ 999 := by
  intro m
  induction m with
  | zero => intro _; exact hs
  | succ m ih =>
    intro hm
    have e : went FX FY ST z ((m + 1 : Nat) : Int) s = _ := went_s (n := m) (by omega)
    rw [e]
    have i := ih (by omega)
    have hb := str_bd (hF m (by omega) (by omega)).2.2 hz
    unfold wst
    split
    · exact ⟨psh_bd i.1 hb.1, psh_bd i.2 hb.1⟩
    · exact i
theorem up_k2 {σ : Sg} {k : Nat} {i j v : Int} (h : j ≠ i) : up2 σ k i v k j = σ k j := up_i h
set_option maxRecDepth 20000 in
set_option maxHeartbeats 2000000 in
theorem sp_X2_away (d : Nat) (hd : 2 ≤ d) (w : pW) (v f b : Int) (hv : 0 ≤ v ∧ v ≤ 999) (hb : 0 ≤ b ∧ b ≤ 100000) : Ev d 172 [(0, v), (0, f), (0, b)] w (0, psh v f b) w := by
  obtain ⟨d, rfl⟩ : ∃ e, d = e + 1 := ⟨d - 1, by omega⟩
  refine evP (nL := 3) (code := k_X2_away) rfl ⟨Nat.le_refl _, Nat.le_refl _⟩ rfl (fun E hE => ?_)
  show pCm (Ev d) k_X2_away E 0 [(0, v), (0, f), (0, b)] [] _
  refine R_iload rfl rfl ?_
  refine R_iload rfl rfl ?_
  refine R_ic rfl (fun h2 => ?_) (fun h2 => ?_)
  · try simp only [ne_eq, b2i_e, b2i_1, Classical.not_not] at h2
    refine R_push rfl ?_
    refine R_iload rfl rfl ?_
    refine R_iload rfl rfl ?_
    refine R_sub rfl (by omega) (by omega) ?_
    refine R_inv rfl rfl rfl rfl rfl (sp_J9_max_7cf53 d (by omega) _ _ _) rfl ?_
    show pCm _ _ _ 24 _ [(0, _)] _
    refine R_iret rfl ?_
    exact hE _ (by congr 1; unfold psh; split <;> omega)
  · try simp only [ne_eq, b2i_e, b2i_1, Classical.not_not] at h2
    refine R_push rfl ?_
    refine R_iload rfl rfl ?_
    refine R_iload rfl rfl ?_
    refine R_add rfl (by omega) (by omega) ?_
    refine R_inv rfl rfl rfl rfl rfl (sp_J9_min_7cf53 d (by omega) _ _ _) rfl ?_
    show pCm _ _ _ 14 _ [(0, _)] _
    refine R_goto rfl ?_
    refine R_iret rfl ?_
    exact hE _ (by congr 1; unfold psh; split <;> omega)
set_option maxRecDepth 20000 in
set_option maxHeartbeats 2000000 in
theorem sp_X2_walk (d : Nat) (hd : 5 ≤ d) (xs : List (Nat × Nat)) (t dd rr : Nat) (σ : Sg) (p P f : Int) (hP : σ 1 0 = P) (h0 : 0 ≤ P ∧ P ≤ 40) (hX : XB (σ 4) (σ 5) (σ 3) P) (hp : 0 ≤ p ∧ p < P) (hH : σ 64 10 = σ 29 p → σ 64 11 = 1 → SC σ (seatOut (costZ (σ 29) (σ 4) (σ 5) (σ 3) (σ 29 p) P) 1 100 (-1, 0, 0))) (hf : σ 64 2 = f) (hf0 : 0 ≤ f ∧ f ≤ 20) (hFB : FB (σ 65) (σ 66) (σ 67) f) : ∃ σ', Ev d 171 [(80, 0), (0, p)] (Wd xs t dd rr σ) (8, 0) (Wd xs t dd rr σ') ∧ Fr [68, 69, 70] [(64, 9), (64, 10), (64, 11), (64, 12), (64, 13), (64, 14), (64, 15), (64, 16)] σ σ' ∧ (σ' 64 10 = σ 29 p ∧ σ' 64 11 = 1) ∧ SC σ' (seatOut (costZ (σ 29) (σ 4) (σ 5) (σ 3) (σ 29 p) P) 1 100 (-1, 0, 0)) ∧ (σ' 64 15, σ' 64 16) = went (σ 65) (σ 66) (σ 67) (σ 3 p) f (100 * ((seatOut (costZ (σ 29) (σ 4) (σ 5) (σ 3) (σ 29 p) P) 1 100 (-1, 0, 0)).2.1 % 10) + 50, 100 * ((seatOut (costZ (σ 29) (σ 4) (σ 5) (σ 3) (σ 29 p) P) 1 100 (-1, 0, 0)).2.1 / 10) + 50) := by
  obtain ⟨d, rfl⟩ : ∃ e, d = e + 1 := ⟨d - 1, by omega⟩
  have hX3 := (hX p hp.1 hp.2).2.2
  refine evS (nL := 4) (code := k_X2_walk) rfl dc_X2_walk rfl (fun E hE => ?_)
  show pCm (Ev d) k_X2_walk E 0 [(80, 0), (0, p), (9, 0), (9, 0)] [] _
  refine R_aload rfl rfl rfl ?_
  refine R_aload rfl rfl rfl ?_
  refine T_getr (v := 44) rfl rfl rfl rfl ?_
  refine T_getr (v := 45) rfl rfl rfl rfl ?_
  refine R_iload rfl rfl ?_
  refine T_ald rfl rfl (by omega) (by omega) ?_
  refine R_push rfl ?_
  obtain ⟨s2, hev, hF2, hc2, hS2⟩ := sp_X2_findSeats d (by omega) xs t dd rr σ (σ 29 p) 1 P hP h0 hX (Or.inl rfl) hH
  have hSB := SB_out (K := (costZ (σ 29) (σ 4) (σ 5) (σ 3) (σ 29 p) P)) (n := 1) (s := (-1, 0, 0)) (fun a b a0 a1 b0 b1 => by
    have := costZ_bd (L := σ 29) (c := σ 29 p) hX (k := P) ⟨h0.1, Int.le_refl _⟩ ⟨a0, a1⟩ ⟨b0, b1⟩
    omega) ⟨by dsimp only; omega, by dsimp only; omega, by dsimp only; omega⟩ 100 (by omega)
  rw [show ((100 : Nat) : Int) = 100 from rfl] at hSB
  have hA13 : s2 64 13 = (seatOut (costZ (σ 29) (σ 4) (σ 5) (σ 3) (σ 29 p) P) 1 100 (-1, 0, 0)).2.1 := by
    have h1 := hSB.2 (by omega)
    rcases hS2 with z | z
    · omega
    · exact z.2.2.1
  have hAb := hSB.1.2.1
  refine R_invv rfl rfl rfl rfl rfl rfl (hev) rfl ?_
  show pCm _ _ _ 14 _ [] _
  refine R_aload rfl rfl rfl ?_
  refine R_aload rfl rfl rfl ?_
  refine T_geti rfl rfl rfl ?_
  rw [hA13]
  refine R_push rfl ?_
  refine R_rm rfl (by omega) (by omega) (by omega) ?_
  refine R_inv rfl rfl rfl rfl rfl (sp_X2_middle d (by omega) _ _ ⟨by omega, by omega⟩) rfl ?_
  show pCm _ _ _ 25 _ [(0, _), (80, 0)] _
  refine T_puti rfl rfl rfl ?_
  refine R_aload rfl rfl rfl ?_
  refine R_aload rfl rfl rfl ?_
  refine T_geti rfl rfl rfl ?_
  rw [up_k2 (by decide), hA13]
  refine R_push rfl ?_
  refine R_dv rfl (by omega) (by omega) (by omega) ?_
  refine R_inv rfl rfl rfl rfl rfl (sp_X2_middle d (by omega) _ _ ⟨by omega, by omega⟩) rfl ?_
  show pCm _ _ _ 39 _ [(0, _), (80, 0)] _
  refine T_puti rfl rfl rfl ?_
  refine R_push rfl ?_
  refine R_istore rfl rfl ?_
  generalize hA : (seatOut (costZ (σ 29) (σ 4) (σ 5) (σ 3) (σ 29 p) P) 1 100 (-1, 0, 0)).2.1 = A at *
  generalize hs3 : up2 (up2 s2 64 15 _) 64 16 _ = s3
  have hF3 : Fr [] [(64, 15), (64, 16)] s2 s3 := by rw [← hs3]; exact (Fr.rf.up rfl).up rfl
  have hFm : Fr [68, 69, 70] [(64, 9), (64, 10), (64, 11), (64, 12), (64, 13), (64, 14), (64, 15), (64, 16)] σ s3 := hF2.tr hF3 rfl rfl
  have hw3 : (s3 64 15, s3 64 16) = (100 * (A % 10) + 50, 100 * (A / 10) + 50) := by rw [← hs3]; simp [up2]
  clear hs3
  refine fgt wc_X2_walk [1, 1, 1, 0] ?_
  refine loop (pc := 44) (α := Int × Sg) (fun x => (f - x.1).toNat) (fun x => ([(80, 0), (0, p), (0, x.1), (9, 0)], Wd xs t dd rr x.2)) (fun x => (0 ≤ x.1 ∧ x.1 ≤ f) ∧ Fr [] [(64, 15), (64, 16)] s3 x.2 ∧ (x.2 64 15, x.2 64 16) = went (σ 65) (σ 66) (σ 67) (σ 3 p) x.1 (100 * (A % 10) + 50, 100 * (A / 10) + 50)) ?_ (0, s3) ?_
  · intro ⟨k, s4⟩ ⟨hk, hF4, hw⟩ ih
    dsimp only at hk hF4 hw ⊢
    have hFk := hFm.tr (r3 := [68, 69, 70]) (s3 := [(64, 9), (64, 10), (64, 11), (64, 12), (64, 13), (64, 14), (64, 15), (64, 16)]) hF4 rfl rfl
    have g2 := hFk.at 64 2 rfl
    have g65 := hFk.at 65 k rfl
    have g66 := hFk.at 66 k rfl
    have g67 := hFk.at 67 k rfl
    have g3 := hFk.at 3 p rfl
    have wb := went_bd (s := (100 * (A % 10) + 50, 100 * (A / 10) + 50)) hFB hX3 ⟨by dsimp only; omega, by dsimp only; omega⟩ k.toNat (by omega)
    rw [Int.toNat_of_nonneg hk.1, ← hw] at wb
    dsimp only at wb
    have ws := went_s (FX := σ 65) (FY := σ 66) (ST := σ 67) (z := σ 3 p) (s := (100 * (A % 10) + 50, 100 * (A / 10) + 50)) hk.1
    rw [← hw] at ws
    have hfb := hFB k hk.1
    refine R_iload rfl rfl ?_
    refine R_aload rfl rfl rfl ?_
    refine T_geti rfl rfl rfl ?_
    refine R_ic rfl (fun h49 => ?_) (fun h49 => ?_)
    · try simp only [ne_eq, b2i_e, b2i_1, Classical.not_not] at h49
      refine R_vret rfl ?_
      have hFz := hF3.tr (r3 := []) (s3 := [(64, 15), (64, 16)]) hF4 rfl rfl
      refine hE _ _ rfl ⟨hFk, ⟨by rw [hFz.at 64 10 rfl]; exact hc2.1, by rw [hFz.at 64 11 rfl]; exact hc2.2⟩, ?_, by rw [hw]; congr 1; omega⟩
      unfold SC
      rw [hFz.at 64 12 rfl, hFz.at 64 13 rfl, hFz.at 64 14 rfl]
      exact hS2
    · try simp only [ne_eq, b2i_e, b2i_1, Classical.not_not] at h49
      refine R_aload rfl rfl rfl ?_
      refine T_geti rfl rfl rfl ?_
      refine R_aload rfl rfl rfl ?_
      refine T_getr (v := 81) rfl rfl rfl rfl ?_
      refine R_iload rfl rfl ?_
      refine T_ald rfl rfl (by omega) (by omega) ?_
      have hfb := hfb (by omega)
      have hsb := str_bd hfb.2.2 hX3
      rw [g65]
      refine R_inv rfl rfl rfl rfl rfl (sp_X9_apart d (by omega) _ _ _ ⟨by omega, by omega⟩ ⟨by omega, by omega⟩) rfl ?_
      show pCm _ _ _ 65 _ [(0, _)] _
      show pCm _ _ _ _ _ ((0, dst _ _) :: _) _
      refine R_push rfl ?_
      refine R_ic rfl (fun h67 => ?_) (fun h67 => ?_)
      · try simp only [ne_eq, b2i_e, b2i_1, Classical.not_not] at h67
        refine R_inc rfl rfl (by omega) (by omega) ?_
        refine R_goto rfl ?_
        refine fgt wc_X2_walk [1, 1, 1, 0] ?_
        exact ih (k + 1, s4) ⟨by dsimp only; omega, hF4, by
          dsimp only
          rw [ws]
          unfold wst
          rw [if_neg]
          dsimp only
          intro z
          first | exact h67 z.1 | exact h85 z.2 | omega⟩ (by dsimp only; omega)
      · try simp only [ne_eq, b2i_e, b2i_1, Classical.not_not] at h67
        refine R_aload rfl rfl rfl ?_
        refine T_geti rfl rfl rfl ?_
        refine R_aload rfl rfl rfl ?_
        refine T_getr (v := 82) rfl rfl rfl rfl ?_
        refine R_iload rfl rfl ?_
        refine T_ald rfl rfl (by omega) (by omega) ?_
        rw [g66]
        refine R_inv rfl rfl rfl rfl rfl (sp_X9_apart d (by omega) _ _ _ ⟨by omega, by omega⟩ ⟨by omega, by omega⟩) rfl ?_
        show pCm _ _ _ 83 _ [(0, _)] _
        show pCm _ _ _ _ _ ((0, dst _ _) :: _) _
        refine R_push rfl ?_
        refine R_ic rfl (fun h85 => ?_) (fun h85 => ?_)
        · try simp only [ne_eq, b2i_e, b2i_1, Classical.not_not] at h85
          refine R_inc rfl rfl (by omega) (by omega) ?_
          refine R_goto rfl ?_
          refine fgt wc_X2_walk [1, 1, 1, 0] ?_
          exact ih (k + 1, s4) ⟨by dsimp only; omega, hF4, by
            dsimp only
            rw [ws]
            unfold wst
            rw [if_neg]
            dsimp only
            intro z
            first | exact h67 z.1 | exact h85 z.2 | omega⟩ (by dsimp only; omega)
        · try simp only [ne_eq, b2i_e, b2i_1, Classical.not_not] at h85
          refine R_aload rfl rfl rfl ?_
          refine T_getr (v := 17) rfl rfl rfl rfl ?_
          refine R_iload rfl rfl ?_
          refine R_aload rfl rfl rfl ?_
          refine T_getr (v := 83) rfl rfl rfl rfl ?_
          refine R_iload rfl rfl ?_
          refine T_ald rfl rfl (by omega) (by omega) ?_
          refine R_invv rfl rfl rfl rfl rfl rfl (sp_X6_stride d (by omega) xs t dd rr s4 p _ ⟨by omega, by omega⟩ (by rw [g3]; exact hX3) (by omega)) rfl ?_
          show pCm _ _ _ 102 _ [(0, _)] _
          rw [g67, g3]
          refine R_istore rfl rfl ?_
          refine R_aload rfl rfl rfl ?_
          refine R_aload rfl rfl rfl ?_
          refine T_geti rfl rfl rfl ?_
          refine R_aload rfl rfl rfl ?_
          refine T_getr (v := 81) rfl rfl rfl rfl ?_
          refine R_iload rfl rfl ?_
          refine T_ald rfl rfl (by omega) (by omega) ?_
          rw [g65]
          refine R_iload rfl rfl ?_
          refine R_inv rfl rfl rfl rfl rfl (sp_X2_away d (by omega) _ _ _ _ ⟨by omega, by omega⟩ ⟨by omega, by omega⟩) rfl ?_
          show pCm _ _ _ 118 _ [(0, _), (80, 0)] _
          refine T_puti rfl rfl rfl ?_
          generalize hs5 : up2 s4 64 15 _ = s5
          have f16 : s5 64 16 = s4 64 16 := by rw [← hs5]; simp [up2]
          have f66 : s5 66 k = σ 66 k := by rw [← hs5, up_k (by decide)]; exact g66
          refine R_aload rfl rfl rfl ?_
          refine R_aload rfl rfl rfl ?_
          refine T_geti rfl rfl rfl ?_
          rw [f16]
          refine R_aload rfl rfl rfl ?_
          refine T_getr (v := 82) rfl rfl rfl rfl ?_
          refine R_iload rfl rfl ?_
          refine T_ald rfl rfl (by omega) (by omega) ?_
          rw [f66]
          refine R_iload rfl rfl ?_
          refine R_inv rfl rfl rfl rfl rfl (sp_X2_away d (by omega) _ _ _ _ ⟨by omega, by omega⟩ ⟨by omega, by omega⟩) rfl ?_
          show pCm _ _ _ 136 _ [(0, _), (80, 0)] _
          refine T_puti rfl rfl rfl ?_
          generalize hs6 : up2 s5 64 16 _ = s6
          refine R_inc rfl rfl (by omega) (by omega) ?_
          refine R_goto rfl ?_
          refine fgt wc_X2_walk [1, 1, 1, 0] ?_
          exact ih (k + 1, s6) ⟨by dsimp only; omega, by rw [← hs6, ← hs5]; exact (hF4.up rfl).up rfl, by
            dsimp only
            rw [ws]
            unfold wst
            rw [if_pos ⟨by dsimp only; omega, by dsimp only; omega⟩, ← hs6, ← hs5]
            simp [up2]⟩ (by dsimp only; omega)
  · exact ⟨by dsimp only; omega, Fr.rf, hw3⟩

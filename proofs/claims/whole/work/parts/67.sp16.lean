theorem narC {c : Int} (h : 0 ≤ c ∧ c < 256) : pNarC (pI2c c) = c := by
  have k : ∀ n : Fin 256, pNarC (pI2c (n.val : Int)) = (n.val : Int) := by decide +kernel
  have := k ⟨c.toNat, by omega⟩
  dsimp only at this
  rwa [Int.toNat_of_nonneg h.1] at this
set_option maxRecDepth 20000 in
set_option maxHeartbeats 2000000 in
theorem sp_X7_take8 (d : Nat) (hd : 2 ≤ d) (xs : List (Nat × Nat)) (t dd rr : Nat) (σ : Sg) (v : Int) (hn : 0 ≤ σ 52 0 ∧ σ 52 0 ≤ 1000) : ∃ σ', Ev d 216 [(68, 0), (1, v)] (Wd xs t dd rr σ) (8, 0) (Wd xs t dd rr σ') ∧ Fr [53] [(52, 0)] σ σ' ∧ (σ' 52 0, σ' 53) = tape8 v 8 (σ 52 0, σ 53) := by
  obtain ⟨d, rfl⟩ : ∃ e, d = e + 1 := ⟨d - 1, by omega⟩
  refine evS (nL := 5) (code := k_X7_take8) rfl dc_X7_take8 rfl (fun E hE => ?_)
  show pCm (Ev d) k_X7_take8 E 0 [(68, 0), (1, v), (9, 0), (9, 0), (9, 0)] [] _
  refine R_push rfl ?_
  refine R_istore rfl rfl ?_
  refine fgt wc_X7_take8 [1, 1, 1, 1, 0] ?_
  refine loop (pc := 2) (α := Int × Sg) (fun a => (8 - a.1).toNat) (fun a => ([(68, 0), (1, v), (9, 0), (0, a.1), (9, 0)], Wd xs t dd rr a.2)) (fun a => (0 ≤ a.1 ∧ a.1 ≤ 8) ∧ Fr [53] [(52, 0)] σ a.2 ∧ (a.2 52 0, a.2 53) = tape8 v a.1 (σ 52 0, σ 53)) ?_ (0, σ) ?_
  · intro ⟨k, s1⟩ ⟨hk, hF, hst⟩ ih
    dsimp only at hk hF hst ⊢
    have hb := tape8_bd (v := v) (s := (σ 52 0, σ 53)) hn k.toNat
    rw [Int.toNat_of_nonneg hk.1, ← hst] at hb
    dsimp only at hb
    have hbk := byt_bd (r := v) (k := k)
    have hs := tape8_s (v := v) (s := (σ 52 0, σ 53)) hk.1
    rw [← hst] at hs
    refine R_iload rfl rfl ?_
    refine R_push rfl ?_
    refine R_ic rfl (fun h5 => ?_) (fun h5 => ?_)
    · try simp only [ne_eq, b2i_e, b2i_1, Classical.not_not] at h5
      refine R_vret rfl ?_
      exact hE _ _ rfl ⟨hF, by rw [hst, show k = 8 by omega]⟩
    · try simp only [ne_eq, b2i_e, b2i_1, Classical.not_not] at h5
      refine R_lload rfl rfl ?_
      refine R_iload rfl rfl ?_
      refine R_inv rfl rfl rfl rfl rfl (sp_X9_byteOf d (by omega) _ _ _ ⟨by omega, by omega⟩) rfl ?_
      show pCm _ _ _ 13 _ [(0, _)] _
      refine R_istore rfl rfl ?_
      have J34 : (byt v k = 10 ∨ 32 ≤ byt v k ∧ byt v k ≤ 126) → pCm (Ev d) k_X7_take8 E 34 [(68, 0), (1, v), (9, 0), (0, k), (0, byt v k)] [] (Wd xs t dd rr s1) := by
        intro hc
        refine R_aload rfl rfl rfl ?_
        refine T_geti rfl rfl rfl ?_
        refine R_push rfl ?_
        refine R_ic rfl (fun h41 => ?_) (fun h41 => ?_)
        · try simp only [ne_eq, b2i_e, b2i_1, Classical.not_not] at h41
          refine R_inc rfl rfl (by omega) (by omega) ?_
          refine R_goto rfl ?_
          refine fgt wc_X7_take8 [1, 1, 1, 1, 0] ?_
          exact ih (k + 1, s1) ⟨by dsimp only; omega, hF, by
            dsimp only
            rw [hs]
            unfold tstep
            rw [if_neg (by dsimp only; omega)]⟩ (by dsimp only; omega)
        · try simp only [ne_eq, b2i_e, b2i_1, Classical.not_not] at h41
          refine R_aload rfl rfl rfl ?_
          refine T_getr (v := 69) rfl rfl rfl rfl ?_
          refine R_aload rfl rfl rfl ?_
          refine T_geti rfl rfl rfl ?_
          refine R_iload rfl rfl ?_
          refine R_i2c rfl ?_
          refine T_ast rfl rfl (by omega) (by omega) ?_
          rw [narC hbk]
          have e0 : up2 s1 53 (s1 52 0) (byt v k) 52 0 = s1 52 0 := by simp [up2]
          refine R_aload rfl rfl rfl ?_
          refine R_dup rfl rfl ?_
          refine T_geti rfl rfl rfl ?_
          rw [e0]
          refine R_push rfl ?_
          refine R_add rfl (by omega) (by omega) ?_
          refine T_puti rfl rfl rfl ?_
          generalize hs4 : up2 (up2 s1 53 (s1 52 0) _) 52 0 _ = s4
          refine R_inc rfl rfl (by omega) (by omega) ?_
          refine R_goto rfl ?_
          refine fgt wc_X7_take8 [1, 1, 1, 1, 0] ?_
          exact ih (k + 1, s4) ⟨by dsimp only; omega, by rw [← hs4]; exact (hF.upr rfl).up rfl, by
            dsimp only
            rw [hs]
            unfold tstep
            rw [if_pos (by dsimp only; omega), ← hs4]
            dsimp only
            rw [up_s, up_rowo (by decide), up_row]⟩ (by dsimp only; omega)
      refine R_iload rfl rfl ?_
      refine R_push rfl ?_
      refine R_ic rfl (fun h19 => ?_) (fun h19 => ?_)
      · try simp only [ne_eq, b2i_e, b2i_1, Classical.not_not] at h19
        exact J34 (by omega)
      · try simp only [ne_eq, b2i_e, b2i_1, Classical.not_not] at h19
        refine R_iload rfl rfl ?_
        refine R_push rfl ?_
        refine R_push rfl ?_
        refine R_inv rfl rfl rfl rfl rfl (sp_X9_within d (by omega) _ _ _ _) rfl ?_
        show pCm _ _ _ 31 _ [(0, _)] _
        refine R_if rfl (fun h31 => ?_) (fun h31 => ?_)
        · try simp only [ne_eq, b2i_e, b2i_1, Classical.not_not] at h31
          refine R_inc rfl rfl (by omega) (by omega) ?_
          refine R_goto rfl ?_
          refine fgt wc_X7_take8 [1, 1, 1, 1, 0] ?_
          exact ih (k + 1, s1) ⟨by dsimp only; omega, hF, by
            dsimp only
            rw [hs]
            unfold tstep
            rw [if_neg (by dsimp only; omega)]⟩ (by dsimp only; omega)
        · try simp only [ne_eq, b2i_e, b2i_1, Classical.not_not] at h31
          exact J34 (by omega)
  · exact ⟨by dsimp only; omega, Fr.rf, rfl⟩
set_option maxRecDepth 20000 in
set_option maxHeartbeats 2000000 in
theorem sp_X9_feed (d : Nat) (hd : 3 ≤ d) (xs : List (Nat × Nat)) (t dd rr : Nat) (σ : Sg) (a b c : Int) (hn : 0 ≤ σ 52 0 ∧ σ 52 0 ≤ 1000) : ∃ σ', Ev d 5 [(16, 0), (1, a), (1, b), (1, c)] (Wd xs t dd rr σ) (0, (tape8 c 8 (tape8 b 8 (tape8 a 8 (σ 52 0, σ 53)))).1) (Wd xs t dd rr σ') ∧ Fr [53] [(52, 0)] σ σ' ∧ (σ' 52 0, σ' 53) = tape8 c 8 (tape8 b 8 (tape8 a 8 (σ 52 0, σ 53))) := by
  obtain ⟨d, rfl⟩ : ∃ e, d = e + 1 := ⟨d - 1, by omega⟩
  refine evS (nL := 7) (code := k_X9_feed) rfl dc_X9_feed rfl (fun E hE => ?_)
  show pCm (Ev d) k_X9_feed E 0 [(16, 0), (1, a), (9, 0), (1, b), (9, 0), (1, c), (9, 0)] [] _
  refine R_aload rfl rfl rfl ?_
  refine T_getr (v := 68) rfl rfl rfl rfl ?_
  refine R_lload rfl rfl ?_
  obtain ⟨s1, hevs1, hFs1, hsts1⟩ := sp_X7_take8 d (by omega) xs t dd rr σ a hn
  refine R_invv rfl rfl rfl rfl rfl rfl (hevs1) rfl ?_
  show pCm _ _ _ 8 _ [] _
  refine R_aload rfl rfl rfl ?_
  refine T_getr (v := 68) rfl rfl rfl rfl ?_
  refine R_lload rfl rfl ?_
  have b1 : 0 ≤ s1 52 0 ∧ s1 52 0 ≤ 1000 := (by have := tape8_bd (v := a) (s := (σ 52 0, σ 53)) hn 8; rw [show ((8 : Nat) : Int) = 8 from rfl, ← hsts1] at this; exact this)
  obtain ⟨s2, hevs2, hFs2, hsts2⟩ := sp_X7_take8 d (by omega) xs t dd rr s1 b b1
  refine R_invv rfl rfl rfl rfl rfl rfl (hevs2) rfl ?_
  show pCm _ _ _ 16 _ [] _
  refine R_aload rfl rfl rfl ?_
  refine T_getr (v := 68) rfl rfl rfl rfl ?_
  refine R_lload rfl rfl ?_
  have b2 : 0 ≤ s2 52 0 ∧ s2 52 0 ≤ 1000 := (by have := tape8_bd (v := b) (s := (s1 52 0, s1 53)) b1 8; rw [show ((8 : Nat) : Int) = 8 from rfl, ← hsts2] at this; exact this)
  obtain ⟨s3, hevs3, hFs3, hsts3⟩ := sp_X7_take8 d (by omega) xs t dd rr s2 c b2
  refine R_invv rfl rfl rfl rfl rfl rfl (hevs3) rfl ?_
  show pCm _ _ _ 25 _ [] _
  refine R_aload rfl rfl rfl ?_
  refine T_getr (v := 68) rfl rfl rfl rfl ?_
  refine T_geti rfl rfl rfl ?_
  refine R_iret rfl ?_
  exact hE _ _ (by rw [← hsts1, ← hsts2, ← hsts3]) ⟨(hFs1.tr (r3 := [53]) (s3 := [(52, 0)]) hFs2 rfl rfl).tr hFs3 rfl rfl, by rw [← hsts1, ← hsts2, ← hsts3]⟩
set_option maxRecDepth 20000 in
set_option maxHeartbeats 2000000 in
theorem sp_X10_lay (d : Nat) (hd : 1 ≤ d) (xs : List (Nat × Nat)) (t dd rr : Nat) (σ : Sg) (v : Int) (hn : 0 ≤ σ 71 2 ∧ σ 71 2 ≤ 1000) : ∃ σ', Ev d 33 [(87, 0), (1, v)] (Wd xs t dd rr σ) (8, 0) (Wd xs t dd rr σ') ∧ Fr [72] [(71, 2)] σ σ' ∧ (σ' 71 2, σ' 72) = tape8 v 8 (σ 71 2, σ 72) := by
  obtain ⟨d, rfl⟩ : ∃ e, d = e + 1 := ⟨d - 1, by omega⟩
  refine evS (nL := 5) (code := k_X10_lay) rfl dc_X10_lay rfl (fun E hE => ?_)
  show pCm (Ev d) k_X10_lay E 0 [(87, 0), (1, v), (9, 0), (9, 0), (9, 0)] [] _
  refine R_push rfl ?_
  refine R_istore rfl rfl ?_
  refine fgt wc_X10_lay [1, 1, 1, 1, 0] ?_
  refine loop (pc := 3) (α := Int × Sg) (fun a => (8 - a.1).toNat) (fun a => ([(87, 0), (1, v), (9, 0), (0, 56 - 8 * a.1), (9, 0)], Wd xs t dd rr a.2)) (fun a => (0 ≤ a.1 ∧ a.1 ≤ 8) ∧ Fr [72] [(71, 2)] σ a.2 ∧ (a.2 71 2, a.2 72) = tape8 v a.1 (σ 71 2, σ 72)) ?_ (0, σ) ?_
  · intro ⟨k, s1⟩ ⟨hk, hF, hst⟩ ih
    dsimp only at hk hF hst ⊢
    have hb := tape8_bd (v := v) (s := (σ 71 2, σ 72)) hn k.toNat
    rw [Int.toNat_of_nonneg hk.1, ← hst] at hb
    dsimp only at hb
    have hbk := byt_bd (r := v) (k := k)
    have hs := tape8_s (v := v) (s := (σ 71 2, σ 72)) hk.1
    rw [← hst] at hs
    have hnx : 56 - 8 * k + -8 = 56 - 8 * (k + 1) := by omega
    refine R_iload rfl rfl ?_
    refine R_if rfl (fun h4 => ?_) (fun h4 => ?_)
    · try simp only [ne_eq, b2i_e, b2i_1, Classical.not_not] at h4
      refine R_vret rfl ?_
      exact hE _ _ rfl ⟨hF, by rw [hst, show k = 8 by omega]⟩
    · try simp only [ne_eq, b2i_e, b2i_1, Classical.not_not] at h4
      refine R_lload rfl rfl ?_
      refine R_iload rfl rfl ?_
      refine R_lsh rfl ?_
      refine R_l2i rfl ?_
      refine R_push rfl ?_
      refine R_bin rfl ?_
      rw [show pAnd (pL2i (pLshr v (56 - 8 * k))) 255 = byt v k by
        rw [pAnd255, pL2i_256, show 56 - 8 * k = 8 * (7 - k) by omega, shr_byte (by omega), show 8 * (7 - k) = 56 - 8 * k by omega]; rfl]
      refine R_istore rfl rfl ?_
      have J38 : (byt v k = 10 ∨ 32 ≤ byt v k ∧ byt v k ≤ 126) → pCm (Ev d) k_X10_lay E 38 [(87, 0), (1, v), (9, 0), (0, 56 - 8 * k), (0, byt v k)] [] (Wd xs t dd rr s1) := by
        intro hc
        refine R_aload rfl rfl rfl ?_
        refine T_geti rfl rfl rfl ?_
        refine R_push rfl ?_
        refine R_ic rfl (fun h45 => ?_) (fun h45 => ?_)
        · try simp only [ne_eq, b2i_e, b2i_1, Classical.not_not] at h45
          refine R_inc rfl rfl (by omega) (by omega) ?_
          refine R_goto rfl ?_
          rw [hnx]
          refine fgt wc_X10_lay [1, 1, 1, 1, 0] ?_
          exact ih (k + 1, s1) ⟨by dsimp only; omega, hF, by
            dsimp only
            rw [hs]
            unfold tstep
            rw [if_neg (by dsimp only; omega)]⟩ (by dsimp only; omega)
        · try simp only [ne_eq, b2i_e, b2i_1, Classical.not_not] at h45
          refine R_aload rfl rfl rfl ?_
          refine T_getr (v := 88) rfl rfl rfl rfl ?_
          refine R_aload rfl rfl rfl ?_
          refine T_geti rfl rfl rfl ?_
          refine R_iload rfl rfl ?_
          refine T_iast rfl rfl (by omega) (by omega) ?_
          have e0 : up2 s1 72 (s1 71 2) (byt v k) 71 2 = s1 71 2 := by simp [up2]
          refine R_aload rfl rfl rfl ?_
          refine R_dup rfl rfl ?_
          refine T_geti rfl rfl rfl ?_
          rw [e0]
          refine R_push rfl ?_
          refine R_add rfl (by omega) (by omega) ?_
          refine T_puti rfl rfl rfl ?_
          generalize hs4 : up2 (up2 s1 72 (s1 71 2) _) 71 2 _ = s4
          refine R_inc rfl rfl (by omega) (by omega) ?_
          refine R_goto rfl ?_
          rw [hnx]
          refine fgt wc_X10_lay [1, 1, 1, 1, 0] ?_
          exact ih (k + 1, s4) ⟨by dsimp only; omega, by rw [← hs4]; exact (hF.upr rfl).up rfl, by
            dsimp only
            rw [hs]
            unfold tstep
            rw [if_pos (by dsimp only; omega), ← hs4]
            dsimp only
            rw [up_s, up_rowo (by decide), up_row]⟩ (by dsimp only; omega)
      refine R_iload rfl rfl ?_
      refine R_push rfl ?_
      refine R_ic rfl (fun h21 => ?_) (fun h21 => ?_)
      · try simp only [ne_eq, b2i_e, b2i_1, Classical.not_not] at h21
        exact J38 (by omega)
      · try simp only [ne_eq, b2i_e, b2i_1, Classical.not_not] at h21
        refine R_iload rfl rfl ?_
        refine R_push rfl ?_
        refine R_ic rfl (fun h28 => ?_) (fun h28 => ?_)
        · try simp only [ne_eq, b2i_e, b2i_1, Classical.not_not] at h28
          refine R_inc rfl rfl (by omega) (by omega) ?_
          refine R_goto rfl ?_
          rw [hnx]
          refine fgt wc_X10_lay [1, 1, 1, 1, 0] ?_
          exact ih (k + 1, s1) ⟨by dsimp only; omega, hF, by
            dsimp only
            rw [hs]
            unfold tstep
            rw [if_neg (by dsimp only; omega)]⟩ (by dsimp only; omega)
        · try simp only [ne_eq, b2i_e, b2i_1, Classical.not_not] at h28
          refine R_iload rfl rfl ?_
          refine R_push rfl ?_
          refine R_ic rfl (fun h35 => ?_) (fun h35 => ?_)
          · try simp only [ne_eq, b2i_e, b2i_1, Classical.not_not] at h35
            refine R_inc rfl rfl (by omega) (by omega) ?_
            refine R_goto rfl ?_
            rw [hnx]
            refine fgt wc_X10_lay [1, 1, 1, 1, 0] ?_
            exact ih (k + 1, s1) ⟨by dsimp only; omega, hF, by
              dsimp only
              rw [hs]
              unfold tstep
              rw [if_neg (by dsimp only; omega)]⟩ (by dsimp only; omega)
          · try simp only [ne_eq, b2i_e, b2i_1, Classical.not_not] at h35
            exact J38 (by omega)
  · exact ⟨by dsimp only; omega, Fr.rf, rfl⟩
set_option maxRecDepth 20000 in
set_option maxHeartbeats 2000000 in
theorem sp_X10_feed (d : Nat) (hd : 2 ≤ d) (xs : List (Nat × Nat)) (t dd rr : Nat) (σ : Sg) (a b c : Int) (hn : 0 ≤ σ 71 2 ∧ σ 71 2 ≤ 1000) : ∃ σ', Ev d 32 [(87, 0), (1, a), (1, b), (1, c)] (Wd xs t dd rr σ) (0, (tape8 c 8 (tape8 b 8 (tape8 a 8 (σ 71 2, σ 72)))).1) (Wd xs t dd rr σ') ∧ Fr [72] [(71, 2), (71, 0)] σ σ' ∧ (σ' 71 2, σ' 72) = tape8 c 8 (tape8 b 8 (tape8 a 8 (σ 71 2, σ 72))) := by
  obtain ⟨d, rfl⟩ : ∃ e, d = e + 1 := ⟨d - 1, by omega⟩
  refine evS (nL := 7) (code := k_X10_feed) rfl dc_X10_feed rfl (fun E hE => ?_)
  show pCm (Ev d) k_X10_feed E 0 [(87, 0), (1, a), (9, 0), (1, b), (9, 0), (1, c), (9, 0)] [] _
  refine R_aload rfl rfl rfl ?_
  refine R_push rfl ?_
  refine T_puti rfl rfl rfl ?_
  generalize hs0 : up2 σ 71 0 0 = s0
  have hF0 : Fr [] [(71, 0)] σ s0 := by rw [← hs0]; exact Fr.rf.up rfl
  have e2 := hF0.at 71 2 rfl
  have e72 := hF0.fn 72 rfl
  refine R_aload rfl rfl rfl ?_
  refine R_lload rfl rfl ?_
  obtain ⟨s1, hevs1, hFs1, hsts1⟩ := sp_X10_lay d (by omega) xs t dd rr s0 a (by rw [e2]; exact hn)
  refine R_invv rfl rfl rfl rfl rfl rfl (hevs1) rfl ?_
  show pCm _ _ _ 10 _ [] _
  refine R_aload rfl rfl rfl ?_
  refine R_lload rfl rfl ?_
  have b1 : 0 ≤ s1 71 2 ∧ s1 71 2 ≤ 1000 := (by have := tape8_bd (v := a) (s := (s0 71 2, s0 72)) (by rw [e2]; exact hn) 8; rw [show ((8 : Nat) : Int) = 8 from rfl, ← hsts1] at this; exact this)
  obtain ⟨s2, hevs2, hFs2, hsts2⟩ := sp_X10_lay d (by omega) xs t dd rr s1 b b1
  refine R_invv rfl rfl rfl rfl rfl rfl (hevs2) rfl ?_
  show pCm _ _ _ 15 _ [] _
  refine R_aload rfl rfl rfl ?_
  refine R_lload rfl rfl ?_
  have b2 : 0 ≤ s2 71 2 ∧ s2 71 2 ≤ 1000 := (by have := tape8_bd (v := b) (s := (s1 71 2, s1 72)) b1 8; rw [show ((8 : Nat) : Int) = 8 from rfl, ← hsts2] at this; exact this)
  obtain ⟨s3, hevs3, hFs3, hsts3⟩ := sp_X10_lay d (by omega) xs t dd rr s2 c b2
  refine R_invv rfl rfl rfl rfl rfl rfl (hevs3) rfl ?_
  show pCm _ _ _ 21 _ [] _
  refine R_aload rfl rfl rfl ?_
  refine T_geti rfl rfl rfl ?_
  refine R_iret rfl ?_
  rw [e2, e72] at hsts1
  exact hE _ _ (by rw [← hsts1, ← hsts2, ← hsts3]) ⟨((hF0.tr (r3 := [72]) (s3 := [(71, 2), (71, 0)]) hFs1 rfl rfl).tr (r3 := [72]) (s3 := [(71, 2), (71, 0)]) hFs2 rfl rfl).tr hFs3 rfl rfl, by rw [← hsts1, ← hsts2, ← hsts3]⟩

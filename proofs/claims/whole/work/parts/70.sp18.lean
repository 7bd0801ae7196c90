theorem sumZ_mono {f : Int → Int} {n : Int} (h : ∀ i, 0 ≤ i → i < n → 0 ≤ f i) : ∀ i, 0 ≤ i → i ≤ n → sumZ f i ≤ sumZ f n := by
  intro i h0 h1
  have key : ∀ m : Nat, i + m ≤ n → sumZ f i ≤ sumZ f (i + m) := by
    intro m
    induction m with
    | zero => intro _; simp
    | succ m ih =>
      intro hm
      have e : sumZ f (i + m + 1) = _ := sumZ_s (n := i + m) (by omega)
      rw [show i + ((m + 1 : Nat) : Int) = i + m + 1 by omega, e]
      have := ih (by omega)
      have := h (i + m) (by omega) (by omega)
      omega
  have := key (n - i).toNat (by omega)
  rwa [show i + ((n - i).toNat : Int) = n by omega] at this
def cnt (L : Int → Int) (c k : Int) : Int := sumZ (fun p => b2i (L p = c)) k
theorem cnt_s {L : Int → Int} {c k : Int} (h : 0 ≤ k) : cnt L c (k + 1) = cnt L c k + b2i (L k = c) := sumZ_s h
theorem cnt_bd {L : Int → Int} {c k : Int} (h : 0 ≤ k) : 0 ≤ cnt L c k ∧ cnt L c k ≤ k := by
  have := sumZ_bd (f := fun p => b2i (L p = c)) (c := 1) h (fun _ _ _ => b2i_bd)
  unfold cnt
  omega
theorem cnt_lt {L : Int → Int} {c p k : Int} (h0 : 0 ≤ p) (h1 : p < k) (h : L p = c) : cnt L c p < cnt L c k := by
  have e := cnt_s (L := L) (c := c) h0
  rw [b2i_t h] at e
  have := sumZ_mono (f := fun p => b2i (L p = c)) (n := k) (fun _ _ _ => b2i_bd.1) (p + 1) (by omega) (by omega)
  have : cnt L c (p + 1) ≤ cnt L c k := this
  omega
/-- a sum over the members is a sum over the heap's pieces -/
theorem cnt_sum {L g G : Int → Int} {c : Int} {P : Int} (h : ∀ p, 0 ≤ p → p < P → L p = c → g (cnt L c p) = G p) : ∀ k : Nat, (k : Int) ≤ P → sumZ g (cnt L c k) = sumZ (fun p => if L p = c then G p else 0) k := by
  intro k
  induction k with
  | zero => intro _; rfl
  | succ k ih =>
    intro hk
    have e : sumZ (fun p => if L p = c then G p else 0) ((k + 1 : Nat) : Int) = _ := sumZ_s (n := k) (by omega)
    have e2 : cnt L c ((k + 1 : Nat) : Int) = _ := cnt_s (k := k) (by omega)
    rw [e, e2, ← ih (by omega)]
    by_cases q : L k = c
    · rw [b2i_t q, if_pos q, sumZ_s (cnt_bd (by omega)).1, h k (by omega) (by omega) q]
    · rw [b2i_f q, if_neg q, Int.add_zero, Int.add_zero]
def ab (σ : Sg) (c i : Int) : Int := max (σ 68 (c % 10 * 40 + i)) (σ 69 (c / 10 * 40 + i))
set_option maxRecDepth 20000 in
set_option maxHeartbeats 2000000 in
theorem sp_X2_middle (d : Nat) (hd : 1 ≤ d) (w : pW) (l : Int) (hl : 0 ≤ l ∧ l < 10) : Ev d 168 [(0, l)] w (0, 100 * l + 50) w := by
  obtain ⟨d, rfl⟩ : ∃ e, d = e + 1 := ⟨d - 1, by omega⟩
  refine evP (nL := 1) (code := k_X2_middle) rfl ⟨Nat.le_refl _, Nat.le_refl _⟩ rfl (fun E hE => ?_)
  show pCm (Ev d) k_X2_middle E 0 [(0, l)] [] _
  refine R_iload rfl rfl ?_
  refine R_push rfl ?_
  refine R_mul rfl (by omega) (by omega) ?_
  refine R_push rfl ?_
  refine R_add rfl (by omega) (by omega) ?_
  refine R_iret rfl ?_
  exact hE _ (by congr 1; omega)
set_option maxRecDepth 20000 in
set_option maxHeartbeats 2000000 in
theorem sp_X2_above (d : Nat) (hd : 2 ≤ d) (xs : List (Nat × Nat)) (t dd rr : Nat) (σ : Sg) (c i : Int) (hc : 0 ≤ c ∧ c < 100) (hi : 0 ≤ i ∧ i < 40) : Ev d 169 [(80, 0), (0, c), (0, i)] (Wd xs t dd rr σ) (0, ab σ c i) (Wd xs t dd rr σ) := by
  obtain ⟨d, rfl⟩ : ∃ e, d = e + 1 := ⟨d - 1, by omega⟩
  refine evP (nL := 5) (code := k_X2_above) rfl pb0 rfl (fun E hE => ?_)
  show pCm (Ev d) k_X2_above E 0 [(80, 0), (0, c), (0, i), (9, 0), (9, 0)] [] _
  refine R_aload rfl rfl rfl ?_
  refine T_getr (v := 84) rfl rfl rfl rfl ?_
  refine R_iload rfl rfl ?_
  refine R_push rfl ?_
  refine R_rm rfl (by omega) (by omega) (by omega) ?_
  refine R_push rfl ?_
  refine R_mul rfl (by omega) (by omega) ?_
  refine R_iload rfl rfl ?_
  refine R_add rfl (by omega) (by omega) ?_
  refine T_ald rfl rfl (by omega) (by omega) ?_
  refine R_istore rfl rfl ?_
  refine R_aload rfl rfl rfl ?_
  refine T_getr (v := 85) rfl rfl rfl rfl ?_
  refine R_iload rfl rfl ?_
  refine R_push rfl ?_
  refine R_dv rfl (by omega) (by omega) (by omega) ?_
  refine R_push rfl ?_
  refine R_mul rfl (by omega) (by omega) ?_
  refine R_iload rfl rfl ?_
  refine R_add rfl (by omega) (by omega) ?_
  refine T_ald rfl rfl (by omega) (by omega) ?_
  refine R_istore rfl rfl ?_
  refine R_iload rfl rfl ?_
  refine R_iload rfl rfl ?_
  refine R_inv rfl rfl rfl rfl rfl (sp_J9_max_7cf53 d (by omega) _ _ _) rfl ?_
  show pCm _ _ _ 37 _ [(0, _)] _
  refine R_iret rfl ?_
  exact hE _ rfl
set_option maxRecDepth 20000 in
set_option maxHeartbeats 2000000 in
theorem sp_X2_measurePiece (d : Nat) (hd : 2 ≤ d) (xs : List (Nat × Nat)) (t dd rr : Nat) (σ : Sg) (p i : Int) (hp : 0 ≤ p ∧ p < 40) (hi : 0 ≤ i ∧ i < 40) (h9 : σ 64 9 = i) (hX : (0 ≤ σ 4 p ∧ σ 4 p ≤ 999) ∧ (0 ≤ σ 5 p ∧ σ 5 p ≤ 999) ∧ (1 ≤ σ 3 p ∧ σ 3 p ≤ 200)) : ∃ σ', Ev d 167 [(80, 0), (0, p)] (Wd xs t dd rr σ) (8, 0) (Wd xs t dd rr σ') ∧ Fr [68, 69] [] σ σ' ∧ (∀ l, 0 ≤ l → l < 10 → σ' 68 (l * 40 + i) = max 0 (dst (σ 4 p) (100 * l + 50) - (10 + 400 / σ 3 p)) ∧ σ' 69 (l * 40 + i) = max 0 (dst (σ 5 p) (100 * l + 50) - (10 + 400 / σ 3 p))) ∧ ∀ l m, 0 ≤ m → m < 40 → m ≠ i → σ' 68 (l * 40 + m) = σ 68 (l * 40 + m) ∧ σ' 69 (l * 40 + m) = σ 69 (l * 40 + m) := by
  obtain ⟨d, rfl⟩ : ∃ e, d = e + 1 := ⟨d - 1, by omega⟩
  have hlo := lo_bd hX.2.2
  refine evS (nL := 5) (code := k_X2_measurePiece) rfl dc_X2_measurePiece rfl (fun E hE => ?_)
  show pCm (Ev d) k_X2_measurePiece E 0 [(80, 0), (0, p), (9, 0), (9, 0), (9, 0)] [] _
  refine R_aload rfl rfl rfl ?_
  refine T_getr (v := 17) rfl rfl rfl rfl ?_
  refine R_iload rfl rfl ?_
  refine R_invv rfl rfl rfl rfl rfl rfl (sp_X6_loose d (by omega) xs t dd rr σ p hp hX.2.2) rfl ?_
  show pCm _ _ _ 8 _ [(0, _)] _
  refine R_istore rfl rfl ?_
  refine R_push rfl ?_
  refine R_istore rfl rfl ?_
  refine fgt wc_X2_measurePiece [1, 1, 1, 1, 0] ?_
  refine loop (pc := 11) (α := Int × Sg) (fun x => (10 - x.1).toNat) (fun x => ([(80, 0), (0, p), (0, 10 + 400 / σ 3 p), (0, x.1), (9, 0)], Wd xs t dd rr x.2)) (fun x => (0 ≤ x.1 ∧ x.1 ≤ 10) ∧ Fr [68, 69] [] σ x.2 ∧ (∀ l, 0 ≤ l → l < x.1 → x.2 68 (l * 40 + i) = max 0 (dst (σ 4 p) (100 * l + 50) - (10 + 400 / σ 3 p)) ∧ x.2 69 (l * 40 + i) = max 0 (dst (σ 5 p) (100 * l + 50) - (10 + 400 / σ 3 p))) ∧ ∀ l m, 0 ≤ m → m < 40 → m ≠ i → x.2 68 (l * 40 + m) = σ 68 (l * 40 + m) ∧ x.2 69 (l * 40 + m) = σ 69 (l * 40 + m)) ?_ (0, σ) ?_
  · intro ⟨k, s1⟩ ⟨hk, hF, hv, hw⟩ ih
    dsimp only at hk hF hv hw ⊢
    have e9 := hF.row 64 rfl 9
    have e4 := hF.row 4 rfl p
    have e5 := hF.row 5 rfl p
    have d4 := dst_999 hX.1 (b := 100 * k + 50)
    have d5 := dst_999 hX.2.1 (b := 100 * k + 50)
    refine R_iload rfl rfl ?_
    refine R_push rfl ?_
    refine R_ic rfl (fun h14 => ?_) (fun h14 => ?_)
    · try simp only [ne_eq, b2i_e, b2i_1, Classical.not_not] at h14
      refine R_vret rfl ?_
      exact hE _ _ rfl ⟨hF, fun l l0 l1 => hv l l0 (by omega), hw⟩
    · try simp only [ne_eq, b2i_e, b2i_1, Classical.not_not] at h14
      have d4 := d4 (by omega)
      have d5 := d5 (by omega)
      refine R_iload rfl rfl ?_
      refine R_push rfl ?_
      refine R_mul rfl (by omega) (by omega) ?_
      refine R_aload rfl rfl rfl ?_
      refine T_geti rfl rfl rfl ?_
      rw [e9, h9]
      refine R_add rfl (by omega) (by omega) ?_
      refine R_istore rfl rfl ?_
      refine R_aload rfl rfl rfl ?_
      refine T_getr (v := 84) rfl rfl rfl rfl ?_
      refine R_iload rfl rfl ?_
      refine R_push rfl ?_
      refine R_aload rfl rfl rfl ?_
      refine T_getr (v := 17) rfl rfl rfl rfl ?_
      refine T_getr (v := 20) rfl rfl rfl rfl ?_
      refine R_iload rfl rfl ?_
      refine T_ald rfl rfl (by omega) (by omega) ?_
      rw [e4]
      refine R_iload rfl rfl ?_
      refine R_inv rfl rfl rfl rfl rfl (sp_X2_middle d (by omega) _ _ ⟨by omega, by omega⟩) rfl ?_
      show pCm _ _ _ 48 _ [(0, _), (0, _), (0, _), (0, _), (84, 0)] _
      refine R_inv rfl rfl rfl rfl rfl (sp_X9_apart d (by omega) _ _ _ ⟨by omega, by omega⟩ ⟨by omega, by omega⟩) rfl ?_
      show pCm _ _ _ 51 _ [(0, _), (0, _), (0, _), (84, 0)] _
      show pCm _ _ _ _ _ ((0, dst (σ 4 p) (100 * k + 50)) :: _) _
      refine R_iload rfl rfl ?_
      refine R_sub rfl (by omega) (by omega) ?_
      refine R_inv rfl rfl rfl rfl rfl (sp_J9_max_7cf53 d (by omega) _ _ _) rfl ?_
      show pCm _ _ _ 56 _ [(0, _), (0, _), (84, 0)] _
      refine T_iast rfl rfl (by omega) (by omega) ?_
      refine R_aload rfl rfl rfl ?_
      refine T_getr (v := 85) rfl rfl rfl rfl ?_
      refine R_iload rfl rfl ?_
      refine R_push rfl ?_
      refine R_aload rfl rfl rfl ?_
      refine T_getr (v := 17) rfl rfl rfl rfl ?_
      refine T_getr (v := 21) rfl rfl rfl rfl ?_
      refine R_iload rfl rfl ?_
      refine T_ald rfl rfl (by omega) (by omega) ?_
      rw [up_k (by decide), e5]
      refine R_iload rfl rfl ?_
      refine R_inv rfl rfl rfl rfl rfl (sp_X2_middle d (by omega) _ _ ⟨by omega, by omega⟩) rfl ?_
      show pCm _ _ _ 77 _ [(0, _), (0, _), (0, _), (0, _), (85, 0)] _
      refine R_inv rfl rfl rfl rfl rfl (sp_X9_apart d (by omega) _ _ _ ⟨by omega, by omega⟩ ⟨by omega, by omega⟩) rfl ?_
      show pCm _ _ _ 80 _ [(0, _), (0, _), (0, _), (85, 0)] _
      show pCm _ _ _ _ _ ((0, dst (σ 5 p) (100 * k + 50)) :: _) _
      refine R_iload rfl rfl ?_
      refine R_sub rfl (by omega) (by omega) ?_
      refine R_inv rfl rfl rfl rfl rfl (sp_J9_max_7cf53 d (by omega) _ _ _) rfl ?_
      show pCm _ _ _ 85 _ [(0, _), (0, _), (85, 0)] _
      refine T_iast rfl rfl (by omega) (by omega) ?_
      refine R_inc rfl rfl (by omega) (by omega) ?_
      refine R_goto rfl ?_
      generalize hs4 : up2 (up2 s1 68 (k * 40 + i) _) 69 (k * 40 + i) _ = s4
      refine fgt wc_X2_measurePiece [1, 1, 1, 1, 0] ?_
      refine ih (k + 1, s4) ⟨by dsimp only; omega, by rw [← hs4]; exact (hF.upr rfl).upr rfl, fun l l0 l1 => ?_, fun l m m0 m1 m2 => ?_⟩ (by dsimp only; omega)
      · dsimp only at l1 ⊢
        rw [← hs4]
        by_cases q : l = k
        · simp [up2, q]
        · have hne : l * 40 + i ≠ k * 40 + i := by omega
          have := hv l l0 (by omega)
          simp only [up2, hne, and_false, if_false]
          exact this
      · dsimp only
        rw [← hs4]
        have hne : l * 40 + m ≠ k * 40 + i := by omega
        have := hw l m m0 m1 m2
        simp only [up2, hne, and_false, if_false]
        exact this
  · exact ⟨by dsimp only; omega, Fr.rf, fun l l0 l1 => by dsimp only at l1; omega, fun _ _ _ _ _ => ⟨rfl, rfl⟩⟩
set_option maxRecDepth 20000 in
set_option maxHeartbeats 2000000 in
theorem sp_X2_measure (d : Nat) (hd : 3 ≤ d) (xs : List (Nat × Nat)) (t dd rr : Nat) (σ : Sg) (c P : Int) (hP : σ 1 0 = P) (h0 : 0 ≤ P ∧ P ≤ 40) (hX : XB (σ 4) (σ 5) (σ 3) P) : ∃ σ', Ev d 166 [(80, 0), (0, c)] (Wd xs t dd rr σ) (8, 0) (Wd xs t dd rr σ') ∧ Fr [68, 69] [(64, 9)] σ σ' ∧ σ' 64 9 = cnt (σ 29) c P ∧ ∀ p, 0 ≤ p → p < P → σ 29 p = c → ∀ l, 0 ≤ l → l < 10 → σ' 68 (l * 40 + cnt (σ 29) c p) = max 0 (dst (σ 4 p) (100 * l + 50) - (10 + 400 / σ 3 p)) ∧ σ' 69 (l * 40 + cnt (σ 29) c p) = max 0 (dst (σ 5 p) (100 * l + 50) - (10 + 400 / σ 3 p)) := by
  obtain ⟨d, rfl⟩ : ∃ e, d = e + 1 := ⟨d - 1, by omega⟩
  refine evS (nL := 3) (code := k_X2_measure) rfl dc_X2_measure rfl (fun E hE => ?_)
  show pCm (Ev d) k_X2_measure E 0 [(80, 0), (0, c), (9, 0)] [] _
  refine R_aload rfl rfl rfl ?_
  refine R_push rfl ?_
  refine T_puti rfl rfl rfl ?_
  refine R_push rfl ?_
  refine R_istore rfl rfl ?_
  generalize hs0 : up2 σ 64 9 0 = s0
  have hF0 : Fr [68, 69] [(64, 9)] σ s0 := by rw [← hs0]; exact Fr.rf.up rfl
  have h90 : s0 64 9 = 0 := by rw [← hs0]; simp [up2]
  refine loop (pc := 7) (α := Int × Sg) (fun x => (P - x.1).toNat) (fun x => ([(80, 0), (0, c), (0, x.1)], Wd xs t dd rr x.2)) (fun x => (0 ≤ x.1 ∧ x.1 ≤ P) ∧ Fr [68, 69] [(64, 9)] σ x.2 ∧ x.2 64 9 = cnt (σ 29) c x.1 ∧ ∀ p, 0 ≤ p → p < x.1 → σ 29 p = c → ∀ l, 0 ≤ l → l < 10 → x.2 68 (l * 40 + cnt (σ 29) c p) = max 0 (dst (σ 4 p) (100 * l + 50) - (10 + 400 / σ 3 p)) ∧ x.2 69 (l * 40 + cnt (σ 29) c p) = max 0 (dst (σ 5 p) (100 * l + 50) - (10 + 400 / σ 3 p))) ?_ (0, s0) ?_
  · intro ⟨k, s1⟩ ⟨hk, hF, hn, hv⟩ ih
    dsimp only at hk hF hn hv ⊢
    have e1 := hF.at 1 0 rfl
    have e29 := hF.at 29 k rfl
    have hcb := cnt_bd (L := σ 29) (c := c) hk.1
    have hcs := cnt_s (L := σ 29) (c := c) hk.1
    refine R_iload rfl rfl ?_
    refine R_aload rfl rfl rfl ?_
    refine T_getr (v := 17) rfl rfl rfl rfl ?_
    refine T_geti rfl rfl rfl ?_
    refine R_ic rfl (fun h15 => ?_) (fun h15 => ?_)
    · try simp only [ne_eq, b2i_e, b2i_1, Classical.not_not] at h15
      refine R_vret rfl ?_
      exact hE _ _ rfl ⟨hF, by rw [hn]; congr 1; omega, fun p p0 p1 => hv p p0 (by omega)⟩
    · try simp only [ne_eq, b2i_e, b2i_1, Classical.not_not] at h15
      refine R_aload rfl rfl rfl ?_
      refine T_getr (v := 44) rfl rfl rfl rfl ?_
      refine T_getr (v := 45) rfl rfl rfl rfl ?_
      refine R_iload rfl rfl ?_
      refine T_ald rfl rfl (by omega) (by omega) ?_
      refine R_iload rfl rfl ?_
      refine R_ic rfl (fun h28 => ?_) (fun h28 => ?_)
      · try simp only [ne_eq, b2i_e, b2i_1, Classical.not_not] at h28
        refine R_inc rfl rfl (by omega) (by omega) ?_
        refine R_goto rfl ?_
        exact ih (k + 1, s1) ⟨by dsimp only; omega, hF, by dsimp only; rw [hcs, b2i_f (by omega)]; omega, fun p p0 p1 hc l l0 l1 => by
          dsimp only at p1 ⊢
          by_cases q : p = k
          · rw [q] at hc; omega
          · exact hv p p0 (by omega) hc l l0 l1⟩ (by dsimp only; omega)
      · try simp only [ne_eq, b2i_e, b2i_1, Classical.not_not] at h28
        refine R_aload rfl rfl rfl ?_
        refine R_iload rfl rfl ?_
        have g4 := hF.at 4 k rfl
        have g5 := hF.at 5 k rfl
        have g3 := hF.at 3 k rfl
        obtain ⟨s2, hev, hF2, hv2, hw2⟩ := sp_X2_measurePiece d (by omega) xs t dd rr s1 k (cnt (σ 29) c k) ⟨by omega, by omega⟩ ⟨by omega, by omega⟩ hn (by rw [g3, g4, g5]; exact hX k hk.1 (by omega))
        have e9 := hF2.row 64 rfl 9
        rw [g3, g4, g5] at hv2
        refine R_invv rfl rfl rfl rfl rfl rfl (hev) rfl ?_
        show pCm _ _ _ 36 _ [] _
        refine R_aload rfl rfl rfl ?_
        refine R_dup rfl rfl ?_
        refine T_geti rfl rfl rfl ?_
        rw [e9, hn]
        refine R_push rfl ?_
        refine R_add rfl (by omega) (by omega) ?_
        refine T_puti rfl rfl rfl ?_
        generalize hs4 : up2 s2 64 9 _ = s4
        refine R_inc rfl rfl (by omega) (by omega) ?_
        refine R_goto rfl ?_
        refine ih (k + 1, s4) ⟨by dsimp only; omega, by rw [← hs4]; exact (hF.tr (r3 := [68, 69]) (s3 := [(64, 9)]) hF2 rfl rfl).up rfl, by dsimp only; rw [← hs4, up_s, hcs, b2i_t (by omega)], fun p p0 p1 hc l l0 l1 => ?_⟩ (by dsimp only; omega)
        dsimp only at p1 ⊢
        rw [← hs4, up_k (by decide), up_k (by decide)]
        by_cases q : p = k
        · rw [q]; exact hv2 l l0 l1
        · have hlt := cnt_lt (k := k) p0 (by omega) hc
          have hb := cnt_bd (L := σ 29) (c := c) p0
          obtain ⟨w1, w2⟩ := hw2 l (cnt (σ 29) c p) hb.1 (by omega) (by omega)
          rw [w1, w2]
          exact hv p p0 (by omega) hc l l0 l1
  · exact ⟨by dsimp only; omega, hF0, h90, fun p p0 p1 => by dsimp only at p1; omega⟩

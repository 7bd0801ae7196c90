theorem cnt_surj {L : Int → Int} {c i : Int} : ∀ k : Nat, 0 ≤ i → i < cnt L c k → ∃ p, (0 ≤ p ∧ p < (k : Int)) ∧ L p = c ∧ cnt L c p = i := by
  intro k
  induction k with
  | zero => intro h0 h1; have : cnt L c ((0 : Nat) : Int) = 0 := rfl; omega
  | succ k ih =>
    intro h0 h1
    have e2 : cnt L c ((k + 1 : Nat) : Int) = _ := cnt_s (k := k) (by omega)
    by_cases q : i < cnt L c k
    · obtain ⟨p, hp, h⟩ := ih h0 q
      exact ⟨p, by omega, h⟩
    · by_cases z : L k = c
      · rw [b2i_t z] at e2; exact ⟨k, by omega, z, by omega⟩
      · rw [b2i_f z] at e2; omega
/-- the class's seats stand for S -/
def SC (s : Sg) (S : SS) : Prop := S.1 < 0 ∧ s 64 12 = 1000000 ∨ 0 ≤ S.1 ∧ s 64 12 = S.1 ∧ s 64 13 = S.2.1 ∧ s 64 14 = (if S.2.1 = S.2.2 then -1 else S.2.2)
theorem SC_st {s s' : Sg} {K : Int → Int → Int} {a b : Int} {S : SS} (hK : 0 ≤ K a b ∧ K a b ≤ 40000) (h : SC s S) (hs : s' = if K a b < s 64 12 then up2 (up2 (up2 s 64 12 (K a b)) 64 13 a) 64 14 (if a = b then -1 else b) else s) : SC s' (sst K a b S) := by
  unfold sst
  by_cases q : S.1 < 0 ∨ K a b < S.1
  · rw [if_pos q]
    rw [if_pos (by rcases h with h | h <;> omega)] at hs
    refine Or.inr ⟨hK.1, ?_⟩
    rw [hs]
    refine ⟨by simp [up2], by simp [up2], by simp [up2]⟩
  · rw [if_neg q]
    rw [if_neg (by rcases h with h | h <;> omega)] at hs
    rw [hs]; exact h
set_option maxRecDepth 20000 in
set_option maxHeartbeats 2000000 in
theorem sp_X2_tryOut (d : Nat) (hd : 3 ≤ d) (xs : List (Nat × Nat)) (t dd rr : Nat) (σ : Sg) (a b N : Int) (hN : σ 64 9 = N) (h0 : 0 ≤ N ∧ N ≤ 40) (hb : 0 ≤ b ∧ b < 100) (h1 : ∀ i, 0 ≤ i → i < N → 0 ≤ σ 70 i ∧ σ 70 i ≤ 999) (h2 : ∀ i, 0 ≤ i → i < N → 0 ≤ ab σ b i ∧ ab σ b i ≤ 999) : ∃ σ', Ev d 170 [(80, 0), (0, a), (0, b)] (Wd xs t dd rr σ) (8, 0) (Wd xs t dd rr σ') ∧ σ' = if sumZ (fun i => min (σ 70 i) (ab σ b i)) N < σ 64 12 then up2 (up2 (up2 σ 64 12 (sumZ (fun i => min (σ 70 i) (ab σ b i)) N)) 64 13 a) 64 14 (if a = b then -1 else b) else σ := by
  obtain ⟨d, rfl⟩ : ∃ e, d = e + 1 := ⟨d - 1, by omega⟩
  refine evS (nL := 5) (code := k_X2_tryOut) rfl dc_X2_tryOut rfl (fun E hE => ?_)
  show pCm (Ev d) k_X2_tryOut E 0 [(80, 0), (0, a), (0, b), (9, 0), (9, 0)] [] _
  refine R_push rfl ?_
  refine R_istore rfl rfl ?_
  refine R_push rfl ?_
  refine R_istore rfl rfl ?_
  refine loop (pc := 5) (α := Int × Int) (fun x => (N - x.2).toNat) (fun x => ([(80, 0), (0, a), (0, b), (0, x.1), (0, x.2)], Wd xs t dd rr σ)) (fun x => (0 ≤ x.2 ∧ x.2 ≤ N) ∧ x.1 = sumZ (fun i => min (σ 70 i) (ab σ b i)) x.2) ?_ (0, 0) ?_
  · intro ⟨n, k⟩ ⟨hk, hn⟩ ih
    dsimp only at hk hn ⊢
    have hsb := sumZ_bd (f := fun i => min (σ 70 i) (ab σ b i)) (c := 999) hk.1 (fun i i0 i1 => by have := h1 i i0 (by omega); have := h2 i i0 (by omega); omega)
    have hs := sumZ_s (f := fun i => min (σ 70 i) (ab σ b i)) hk.1
    have hmo := sumZ_mono (f := fun i => min (σ 70 i) (ab σ b i)) (n := N) (fun i i0 i1 => by have := h1 i i0 (by omega); have := h2 i i0 (by omega); omega) k hk.1 hk.2
    have k1 := h1 k hk.1
    have k2 := h2 k hk.1
    refine R_iload rfl rfl ?_
    refine R_aload rfl rfl rfl ?_
    refine T_geti rfl rfl rfl ?_
    refine R_ic rfl (fun h11 => ?_) (fun h11 => ?_)
    · try simp only [ne_eq, b2i_e, b2i_1, Classical.not_not] at h11
      have en : n = sumZ (fun i => min (σ 70 i) (ab σ b i)) N := by rw [hn]; congr 1; omega
      refine R_iload rfl rfl ?_
      refine R_aload rfl rfl rfl ?_
      refine T_geti rfl rfl rfl ?_
      refine R_ic rfl (fun h67 => ?_) (fun h67 => ?_)
      · try simp only [ne_eq, b2i_e, b2i_1, Classical.not_not] at h67
        refine R_vret rfl ?_
        first
        | exact hE _ _ rfl (by rw [if_neg (by omega)])
        | exact hE _ _ rfl (by rw [if_pos (by omega), ← en, if_pos (by omega)])
        | exact hE _ _ rfl (by rw [if_pos (by omega), ← en, if_neg (by omega)])
      · try simp only [ne_eq, b2i_e, b2i_1, Classical.not_not] at h67
        refine R_aload rfl rfl rfl ?_
        refine R_iload rfl rfl ?_
        refine T_puti rfl rfl rfl ?_
        refine R_aload rfl rfl rfl ?_
        refine R_iload rfl rfl ?_
        refine T_puti rfl rfl rfl ?_
        refine R_aload rfl rfl rfl ?_
        refine R_iload rfl rfl ?_
        refine R_iload rfl rfl ?_
        refine R_ic rfl (fun h83 => ?_) (fun h83 => ?_)
        · try simp only [ne_eq, b2i_e, b2i_1, Classical.not_not] at h83
          refine R_iload rfl rfl ?_
          refine T_puti rfl rfl rfl ?_
          refine R_vret rfl ?_
          first
          | exact hE _ _ rfl (by rw [if_neg (by omega)])
          | exact hE _ _ rfl (by rw [if_pos (by omega), ← en, if_pos (by omega)])
          | exact hE _ _ rfl (by rw [if_pos (by omega), ← en, if_neg (by omega)])
        · try simp only [ne_eq, b2i_e, b2i_1, Classical.not_not] at h83
          refine R_push rfl ?_
          refine R_goto rfl ?_
          refine T_puti rfl rfl rfl ?_
          refine R_vret rfl ?_
          first
          | exact hE _ _ rfl (by rw [if_neg (by omega)])
          | exact hE _ _ rfl (by rw [if_pos (by omega), ← en, if_pos (by omega)])
          | exact hE _ _ rfl (by rw [if_pos (by omega), ← en, if_neg (by omega)])
    · try simp only [ne_eq, b2i_e, b2i_1, Classical.not_not] at h11
      refine R_iload rfl rfl ?_
      refine R_aload rfl rfl rfl ?_
      refine T_geti rfl rfl rfl ?_
      refine R_ic rfl (fun h19 => ?_) (fun h19 => ?_)
      · try simp only [ne_eq, b2i_e, b2i_1, Classical.not_not] at h19
        refine R_iload rfl rfl ?_
        refine R_aload rfl rfl rfl ?_
        refine T_geti rfl rfl rfl ?_
        refine R_ic rfl (fun _ => ?_) (fun z => absurd h19 z)
        refine R_vret rfl ?_
        exact hE _ _ rfl (by rw [if_neg (by omega)])
      · try simp only [ne_eq, b2i_e, b2i_1, Classical.not_not] at h19
        have J54 : ∀ v : Int, v = min (σ 70 k) (ab σ b k) → pCm (Ev d) k_X2_tryOut E 54 [(80, 0), (0, a), (0, b), (0, n), (0, k)] [(0, v), (0, n)] (Wd xs t dd rr σ) := by
          intro v hv
          have k1 := k1 (by omega)
          have k2 := k2 (by omega)
          refine R_add rfl (by omega) (by omega) ?_
          refine R_istore rfl rfl ?_
          refine R_inc rfl rfl (by omega) (by omega) ?_
          refine R_goto rfl ?_
          exact ih (_, k + 1) ⟨by dsimp only; omega, by dsimp only; rw [hs, ← hn, hv]⟩ (by dsimp only; omega)
        refine R_iload rfl rfl ?_
        refine R_aload rfl rfl rfl ?_
        refine T_getr (v := 86) rfl rfl rfl rfl ?_
        refine R_iload rfl rfl ?_
        refine T_ald rfl rfl (by omega) (by omega) ?_
        refine R_if rfl (fun h30 => ?_) (fun h30 => ?_)
        · try simp only [ne_eq, b2i_e, b2i_1, Classical.not_not] at h30
          refine R_aload rfl rfl rfl ?_
          refine T_getr (v := 86) rfl rfl rfl rfl ?_
          refine R_iload rfl rfl ?_
          refine T_ald rfl rfl (by omega) (by omega) ?_
          refine R_aload rfl rfl rfl ?_
          refine R_iload rfl rfl ?_
          refine R_iload rfl rfl ?_
          refine R_invv rfl rfl rfl rfl rfl rfl (sp_X2_above d (by omega) xs t dd rr σ b k hb ⟨by omega, by omega⟩) rfl ?_
          show pCm _ _ _ 51 _ [(0, _), (0, _), (0, _)] _
          refine R_inv rfl rfl rfl rfl rfl (sp_J9_min_7cf53 d (by omega) _ _ _) rfl ?_
          show pCm _ _ _ 54 _ [(0, _), (0, _)] _
          exact J54 _ (by have := k1 (by omega); have := k2 (by omega); omega)
        · try simp only [ne_eq, b2i_e, b2i_1, Classical.not_not] at h30
          refine R_push rfl ?_
          refine R_goto rfl ?_
          exact J54 _ (by have := k1 (by omega); have := k2 (by omega); omega)
  · exact ⟨by dsimp only; omega, rfl⟩
set_option maxRecDepth 20000 in
set_option maxHeartbeats 2000000 in
theorem sp_X2_findSeats (d : Nat) (hd : 4 ≤ d) (xs : List (Nat × Nat)) (t dd rr : Nat) (σ : Sg) (c n P : Int) (hP : σ 1 0 = P) (h0 : 0 ≤ P ∧ P ≤ 40) (hX : XB (σ 4) (σ 5) (σ 3) P) (hn : n = 1 ∨ n = 2) (hH : σ 64 10 = c → σ 64 11 = n → SC σ (seatOut (costZ (σ 29) (σ 4) (σ 5) (σ 3) c P) n 100 (-1, 0, 0))) : ∃ σ', Ev d 165 [(80, 0), (0, c), (0, n)] (Wd xs t dd rr σ) (8, 0) (Wd xs t dd rr σ') ∧ Fr [68, 69, 70] [(64, 9), (64, 10), (64, 11), (64, 12), (64, 13), (64, 14)] σ σ' ∧ (σ' 64 10 = c ∧ σ' 64 11 = n) ∧ SC σ' (seatOut (costZ (σ 29) (σ 4) (σ 5) (σ 3) c P) n 100 (-1, 0, 0)) := by
  obtain ⟨d, rfl⟩ : ∃ e, d = e + 1 := ⟨d - 1, by omega⟩
  refine evS (nL := 7) (code := k_X2_findSeats) rfl dc_X2_findSeats rfl (fun E hE => ?_)
  show pCm (Ev d) k_X2_findSeats E 0 [(80, 0), (0, c), (0, n), (9, 0), (9, 0), (9, 0), (9, 0)] [] _
  have J17 : pCm (Ev d) k_X2_findSeats E 17 [(80, 0), (0, c), (0, n), (9, 0), (9, 0), (9, 0), (9, 0)] [] (Wd xs t dd rr σ) := by
    skip
    refine R_aload rfl rfl rfl ?_
    refine R_iload rfl rfl ?_
    refine T_puti rfl rfl rfl ?_
    refine R_aload rfl rfl rfl ?_
    refine R_iload rfl rfl ?_
    refine T_puti rfl rfl rfl ?_
    refine R_aload rfl rfl rfl ?_
    refine R_iload rfl rfl ?_
    generalize hsx : up2 (up2 σ 64 10 c) 64 11 n = sx
    have hFx : Fr [] [(64, 9), (64, 10), (64, 11), (64, 12), (64, 13), (64, 14)] σ sx := by rw [← hsx]; exact (Fr.rf.up rfl).up rfl
    have c29 := hFx.fn 29 rfl
    have c4 := hFx.fn 4 rfl
    have c5 := hFx.fn 5 rfl
    have c3 := hFx.fn 3 rfl
    obtain ⟨s2, hev2, hF2, hn2, hv2⟩ := sp_X2_measure d (by omega) xs t dd rr sx c P (by rw [hFx.at 1 0 rfl]; exact hP) h0 (by rw [c4, c5, c3]; exact hX)
    rw [c29] at hn2
    rw [c29, c4, c5, c3] at hv2
    refine R_invv rfl rfl rfl rfl rfl rfl (hev2) rfl ?_
    show pCm _ _ _ 32 _ [] _
    refine R_aload rfl rfl rfl ?_
    refine R_push rfl ?_
    refine T_puti rfl rfl rfl ?_
    refine R_push rfl ?_
    refine R_istore rfl rfl ?_
    generalize hs2 : up2 s2 64 12 1000000 = s3
    have hF3 : Fr [] [(64, 12), (64, 13), (64, 14)] s2 s3 := by rw [← hs2]; exact Fr.rf.up rfl
    have hFm : Fr [68, 69, 70] [(64, 9), (64, 10), (64, 11), (64, 12), (64, 13), (64, 14)] σ s3 := (hFx.tr (r3 := [68, 69, 70]) (s3 := [(64, 9), (64, 10), (64, 11), (64, 12), (64, 13), (64, 14)]) hF2 rfl rfl).tr hF3 rfl rfl
    have hS3 : SC s3 (-1, 0, 0) := Or.inl ⟨by dsimp only; omega, by rw [← hs2]; simp [up2]⟩
    have n9 : s3 64 9 = cnt (σ 29) c P := by rw [hF3.at 64 9 rfl, hn2]
    have h10 : s3 64 10 = c := by rw [hF3.at 64 10 rfl, hF2.at 64 10 rfl, ← hsx]; simp [up2]
    have h11 : s3 64 11 = n := by rw [hF3.at 64 11 rfl, hF2.at 64 11 rfl, ← hsx]; simp [up2]
    have hab : ∀ p, 0 ≤ p → p < P → σ 29 p = c → ∀ q, 0 ≤ q → q < 100 → ab s3 q (cnt (σ 29) c p) = abo (σ 4) (σ 5) (σ 3) p q := by
      intro p p0 p1 hc q q0 q1
      unfold ab
      rw [hF3.at 68 _ rfl, hF3.at 69 _ rfl, (hv2 p p0 p1 hc (q % 10) (by omega) (by omega)).1, (hv2 p p0 p1 hc (q / 10) (by omega) (by omega)).2]
      unfold abo wayZ
      omega
    have hN := cnt_bd (L := σ 29) (c := c) h0.1
    have habb : ∀ q, 0 ≤ q → q < 100 → ∀ i, 0 ≤ i → i < cnt (σ 29) c P → 0 ≤ ab s3 q i ∧ ab s3 q i ≤ 999 := by
      intro q q0 q1 i i0 i1
      obtain ⟨p, hp, hc, e⟩ := cnt_surj (L := σ 29) (c := c) P.toNat i0 (by rw [Int.toNat_of_nonneg h0.1]; exact i1)
      rw [← e, hab p hp.1 (by omega) hc q q0 q1]
      have hx := hX p hp.1 (by omega)
      exact abo_bd hx.1 hx.2.1 hx.2.2 ⟨q0, q1⟩
    have hK : ∀ a b, 0 ≤ a → a < 100 → 0 ≤ b → b < 100 → 0 ≤ (costZ (σ 29) (σ 4) (σ 5) (σ 3) c P) a b ∧ (costZ (σ 29) (σ 4) (σ 5) (σ 3) c P) a b ≤ 40000 := fun a b a0 a1 b0 b1 => by
      have := costZ_bd (L := σ 29) (c := c) hX (k := P) ⟨h0.1, Int.le_refl _⟩ ⟨a0, a1⟩ ⟨b0, b1⟩
      omega
    have hKs : ∀ a b, 0 ≤ a → a < 100 → 0 ≤ b → b < 100 → sumZ (fun i => min (ab s3 a i) (ab s3 b i)) (cnt (σ 29) c P) = (costZ (σ 29) (σ 4) (σ 5) (σ 3) c P) a b := fun a b a0 a1 b0 b1 => by
      have := cnt_sum (L := σ 29) (c := c) (P := P) (g := fun i => min (ab s3 a i) (ab s3 b i)) (G := fun p => min (abo (σ 4) (σ 5) (σ 3) p a) (abo (σ 4) (σ 5) (σ 3) p b)) (fun p p0 p1 hc => by rw [hab p p0 p1 hc a a0 a1, hab p p0 p1 hc b b0 b1]) P.toNat (by omega)
      rw [Int.toNat_of_nonneg h0.1] at this
      exact this
    clear hv2 hev2 hn2
    generalize hNe : cnt (σ 29) c P = N at *
    refine fgt wc_X2_findSeats [1, 1, 1, 1, 0, 0, 0] ?_
    refine loop (pc := 40) (α := Int × Sg) (fun x => (100 - x.1).toNat) (fun x => ([(80, 0), (0, c), (0, n), (0, x.1), (9, 0), (9, 0), (9, 0)], Wd xs t dd rr x.2)) (fun x => (0 ≤ x.1 ∧ x.1 ≤ 100) ∧ Fr [70] [(64, 12), (64, 13), (64, 14)] s3 x.2 ∧ SC x.2 (seatOut (costZ (σ 29) (σ 4) (σ 5) (σ 3) c P) n x.1 (-1, 0, 0))) ?_ (0, s3) ?_
    · intro ⟨a, s4⟩ ⟨ha, hF4, hS⟩ ih
      dsimp only at ha hF4 hS ⊢
      have hso := seatOut_s (K := (costZ (σ 29) (σ 4) (σ 5) (σ 3) c P)) (n := n) (s := (-1, 0, 0)) ha.1
      generalize hS1 : seatOut (costZ (σ 29) (σ 4) (σ 5) (σ 3) c P) n a (-1, 0, 0) = S1 at *
      refine R_iload rfl rfl ?_
      refine R_push rfl ?_
      refine R_ic rfl (fun h43 => ?_) (fun h43 => ?_)
      · try simp only [ne_eq, b2i_e, b2i_1, Classical.not_not] at h43
        refine R_vret rfl ?_
        exact hE _ _ rfl ⟨hFm.tr hF4 rfl rfl, ⟨by rw [hF4.at 64 10 rfl, h10], by rw [hF4.at 64 11 rfl, h11]⟩, by rw [← show a = 100 by omega, hS1]; exact hS⟩
      · try simp only [ne_eq, b2i_e, b2i_1, Classical.not_not] at h43
        refine R_push rfl ?_
        refine R_istore rfl rfl ?_
        refine fgt wc_X2_findSeats [1, 1, 1, 1, 1, 0, 0] ?_
        refine loop (pc := 49) (α := Int × Sg) (fun x => (N - x.1).toNat) (fun x => ([(80, 0), (0, c), (0, n), (0, a), (0, x.1), (9, 0), (9, 0)], Wd xs t dd rr x.2)) (fun x => (0 ≤ x.1 ∧ x.1 ≤ N) ∧ Fr [70] [(64, 12), (64, 13), (64, 14)] s3 x.2 ∧ SC x.2 S1 ∧ ∀ i, 0 ≤ i → i < x.1 → x.2 70 i = ab s3 a i) ?_ (0, s4) ?_
        · intro ⟨k, s5⟩ ⟨hk, hF5, hS5, hv5⟩ ih2
          dsimp only at hk hF5 hS5 hv5 ⊢
          have g9 := hF5.at 64 9 rfl
          have eab : ab s5 a k = ab s3 a k := by unfold ab; rw [hF5.at 68 _ rfl, hF5.at 69 _ rfl]
          refine R_iload rfl rfl ?_
          refine R_aload rfl rfl rfl ?_
          refine T_geti rfl rfl rfl ?_
          refine R_ic rfl (fun h55 => ?_) (fun h55 => ?_)
          · try simp only [ne_eq, b2i_e, b2i_1, Classical.not_not] at h55
            have J90 : ∀ lo M : Int, (n = 1 ∧ lo = a ∧ M = 1 ∨ n ≠ 1 ∧ lo = a + 1 ∧ M = 99 - a) → pCm (Ev d) k_X2_findSeats E 90 [(80, 0), (0, c), (0, n), (0, a), (0, k), (9, 0), (9, 0)] [(0, lo)] (Wd xs t dd rr s5) := by
              intro lo M hlo
              refine R_istore rfl rfl ?_
              have J105 : ∀ v : Int, v = lo + M → pCm (Ev d) k_X2_findSeats E 105 [(80, 0), (0, c), (0, n), (0, a), (0, lo), (9, 0), (9, 0)] [(0, v)] (Wd xs t dd rr s5) := by
                intro v hv
                refine R_istore rfl rfl ?_
                refine R_iload rfl rfl ?_
                refine R_istore rfl rfl ?_
                suffices hh : pCm (Ev d) k_X2_findSeats E 111 [(80, 0), (0, c), (0, n), (0, a), (0, lo), (0, v), (0, lo + 0)] [] (Wd xs t dd rr s5) by rwa [Int.add_zero] at hh
                refine loop (pc := 111) (α := Int × Sg) (fun x => (M - x.1).toNat) (fun x => ([(80, 0), (0, c), (0, n), (0, a), (0, lo), (0, v), (0, lo + x.1)], Wd xs t dd rr x.2)) (fun x => (0 ≤ x.1 ∧ x.1 ≤ M) ∧ Fr [70] [(64, 12), (64, 13), (64, 14)] s3 x.2 ∧ (∀ i, 0 ≤ i → i < N → x.2 70 i = ab s3 a i) ∧ SC x.2 (seatIn (costZ (σ 29) (σ 4) (σ 5) (σ 3) c P) a lo x.1 S1)) ?_ (0, s5) ?_
                · intro ⟨m, s6⟩ ⟨hm, hF6, hv6, hS6⟩ ih3
                  dsimp only at hm hF6 hv6 hS6 ⊢
                  have hsi := seatIn_s (K := (costZ (σ 29) (σ 4) (σ 5) (σ 3) c P)) (a := a) (lo := lo) (s := S1) hm.1
                  refine R_iload rfl rfl ?_
                  refine R_iload rfl rfl ?_
                  refine R_ic rfl (fun h115 => ?_) (fun h115 => ?_)
                  · try simp only [ne_eq, b2i_e, b2i_1, Classical.not_not] at h115
                    refine R_inc rfl rfl (by omega) (by omega) ?_
                    refine R_goto rfl ?_
                    refine fgt wc_X2_findSeats [1, 1, 1, 1, 0, 0, 0] ?_
                    have em : m = M := by omega
                    exact ih (a + 1, s6) ⟨by dsimp only; omega, hF6, by
                      dsimp only
                      rw [hso]
                      rw [em] at hS6
                      rcases hlo with hl | hl
                      · rw [if_pos hl.1, ← hl.2.2]
                        rw [hl.2.1] at hS6
                        exact hS6
                      · rw [if_neg hl.1, ← hl.2.2]
                        rw [hl.2.1] at hS6
                        exact hS6⟩ (by dsimp only; omega)
                  · try simp only [ne_eq, b2i_e, b2i_1, Classical.not_not] at h115
                    refine R_aload rfl rfl rfl ?_
                    refine R_iload rfl rfl ?_
                    refine R_iload rfl rfl ?_
                    have eab : ∀ q i, ab s6 q i = ab s3 q i := fun q i => by unfold ab; rw [hF6.at 68 _ rfl, hF6.at 69 _ rfl]
                    obtain ⟨s7, hev7, hs7⟩ := sp_X2_tryOut d (by omega) xs t dd rr s6 a (lo + m) N (by rw [hF6.at 64 9 rfl]; exact n9) ⟨by omega, by omega⟩ ⟨by omega, by omega⟩ (fun i i0 i1 => by rw [hv6 i i0 i1]; exact habb a (by omega) (by omega) i i0 i1) (fun i i0 i1 => by rw [eab]; exact habb (lo + m) (by omega) (by omega) i i0 i1)
                    rw [sumZ_congr (g := fun i => min (ab s3 a i) (ab s3 (lo + m) i)) (fun i i0 i1 => by rw [hv6 i i0 i1, eab]), hKs a (lo + m) (by omega) (by omega) (by omega) (by omega)] at hs7
                    refine R_invv rfl rfl rfl rfl rfl rfl (hev7) rfl ?_
                    show pCm _ _ _ 125 _ [] _
                    have hF7 : Fr [70] [(64, 12), (64, 13), (64, 14)] s3 s7 := by
                      rw [hs7]
                      split
                      · exact ((hF6.up rfl).up rfl).up rfl
                      · exact hF6
                    have h70 : ∀ i, s7 70 i = s6 70 i := fun i => by
                      rw [hs7]
                      split
                      · simp [up2]
                      · rfl
                    refine R_inc rfl rfl (by omega) (by omega) ?_
                    refine R_goto rfl ?_
                    rw [Int.add_assoc]
                    exact ih3 (m + 1, s7) ⟨by dsimp only; omega, hF7, fun i i0 i1 => by dsimp only; rw [h70]; exact hv6 i i0 i1, by
                      dsimp only
                      rw [hsi]
                      exact SC_st (hK a (lo + m) (by omega) (by omega) (by omega) (by omega)) hS6 hs7⟩ (by dsimp only; omega)
                · exact ⟨by dsimp only; omega, hF5, fun i i0 i1 => hv5 i i0 (by omega), hS5⟩
              refine R_iload rfl rfl ?_
              refine R_push rfl ?_
              refine R_ic rfl (fun h94 => ?_) (fun h94 => ?_)
              · try simp only [ne_eq, b2i_e, b2i_1, Classical.not_not] at h94
                refine R_push rfl ?_
                exact J105 _ (by omega)
              · try simp only [ne_eq, b2i_e, b2i_1, Classical.not_not] at h94
                refine R_iload rfl rfl ?_
                refine R_push rfl ?_
                refine R_add rfl (by omega) (by omega) ?_
                refine R_goto rfl ?_
                exact J105 _ (by omega)
            refine R_iload rfl rfl ?_
            refine R_push rfl ?_
            refine R_ic rfl (fun h80 => ?_) (fun h80 => ?_)
            · try simp only [ne_eq, b2i_e, b2i_1, Classical.not_not] at h80
              refine R_iload rfl rfl ?_
              refine R_push rfl ?_
              refine R_add rfl (by omega) (by omega) ?_
              first | exact J90 _ 1 (by omega) | exact J90 _ (99 - a) (by omega)
            · try simp only [ne_eq, b2i_e, b2i_1, Classical.not_not] at h80
              refine R_iload rfl rfl ?_
              refine R_goto rfl ?_
              first | exact J90 _ 1 (by omega) | exact J90 _ (99 - a) (by omega)
          · try simp only [ne_eq, b2i_e, b2i_1, Classical.not_not] at h55
            refine R_aload rfl rfl rfl ?_
            refine T_getr (v := 86) rfl rfl rfl rfl ?_
            refine R_iload rfl rfl ?_
            refine R_aload rfl rfl rfl ?_
            refine R_iload rfl rfl ?_
            refine R_iload rfl rfl ?_
            refine R_invv rfl rfl rfl rfl rfl rfl (sp_X2_above d (by omega) xs t dd rr s5 a k ⟨by omega, by omega⟩ ⟨by omega, by omega⟩) rfl ?_
            show pCm _ _ _ 71 _ [(0, _), (0, _), (86, 0)] _
            refine T_iast rfl rfl (by omega) (by omega) ?_
            refine R_inc rfl rfl (by omega) (by omega) ?_
            refine R_goto rfl ?_
            generalize hs6 : up2 s5 70 k _ = s6
            refine ih2 (k + 1, s6) ⟨by dsimp only; omega, by rw [← hs6]; exact hF5.upr rfl, ?_, fun i i0 i1 => ?_⟩ (by dsimp only; omega)
            · dsimp only
              rw [← hs6]
              unfold SC
              rw [up_k (by decide), up_k (by decide), up_k (by decide)]
              exact hS5
            · dsimp only at i1 ⊢
              rw [← hs6]
              by_cases q : i = k
              · rw [q, up_s]; exact eab
              · rw [up_i q]; exact hv5 i i0 (by omega)
        · exact ⟨by dsimp only; omega, hF4, hS, fun i i0 i1 => by dsimp only at i1; omega⟩
    · exact ⟨by dsimp only; omega, Fr.rf, hS3⟩
  refine R_aload rfl rfl rfl ?_
  refine T_geti rfl rfl rfl ?_
  refine R_iload rfl rfl ?_
  refine R_ic rfl (fun h5 => ?_) (fun h5 => ?_)
  · try simp only [ne_eq, b2i_e, b2i_1, Classical.not_not] at h5
    exact J17
  · try simp only [ne_eq, b2i_e, b2i_1, Classical.not_not] at h5
    refine R_aload rfl rfl rfl ?_
    refine T_geti rfl rfl rfl ?_
    refine R_iload rfl rfl ?_
    refine R_ic rfl (fun h13 => ?_) (fun h13 => ?_)
    · try simp only [ne_eq, b2i_e, b2i_1, Classical.not_not] at h13
      exact J17
    · try simp only [ne_eq, b2i_e, b2i_1, Classical.not_not] at h13
      refine R_vret rfl ?_
      exact hE _ _ rfl ⟨Fr.rf, ⟨by omega, by omega⟩, hH (by omega) (by omega)⟩

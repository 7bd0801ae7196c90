def bel (so : Int → Int) (p n : Int) : Int := b2i (1 ≤ sumZ (fun k => b2i (decide (so (8 * p + k) = 1) = true)) n)
theorem rimOk_bd {r : Int} : rimOk r = 0 ∨ rimOk r = 1 := by unfold rimOk b2i; split <;> omega
theorem Fr.upb {rows : List Nat} {sl : List (Nat × Int)} {σ σ' : Sg} {k : Nat} {i v : Int} (h : Fr rows sl σ σ') : Fr rows sl (up2 σ k i v) (up2 σ' k i v) := fun k' i' h1 h2 => by unfold up2; split <;> first | rfl | exact h k' i' h1 h2
theorem bel_bd {so : Int → Int} {p n : Int} : bel so p n = 0 ∨ bel so p n = 1 := by unfold bel b2i; split <;> omega
theorem bel_t {so : Int → Int} {p n k : Int} (h0 : 0 ≤ k) (h1 : k < n) (h : so (8 * p + k) = 1) : bel so p n = 1 := b2i_t (sumZ_ge1 (p := fun k => decide (so (8 * p + k) = 1)) h0 h1 (by simp [h]))
theorem bel_f {so : Int → Int} {p n : Int} (h : ∀ k, 0 ≤ k → k < n → so (8 * p + k) ≠ 1) : bel so p n = 0 := by
  refine b2i_f ?_
  have key : ∀ m : Nat, (m : Int) ≤ n → sumZ (fun k => b2i (decide (so (8 * p + k) = 1) = true)) m = 0 := by
    intro m
    induction m with
    | zero => intro _; rfl
    | succ m ih =>
      intro hm
      have e : sumZ (fun k => b2i (decide (so (8 * p + k) = 1) = true)) ((m + 1 : Nat) : Int) = _ := sumZ_s (n := m) (by omega)
      rw [e, ih (by omega), b2i_f (by have := h m (by omega) (by omega); simp [this])]
      rfl
  by_cases q : 0 ≤ n
  · have := key n.toNat (by omega)
    rw [Int.toNat_of_nonneg q] at this
    omega
  · have : sumZ (fun k => b2i (decide (so (8 * p + k) = 1) = true)) n = 0 := by unfold sumZ foldZ; rw [show n.toNat = 0 by omega]; rfl
    omega
theorem bel_s {so : Int → Int} {p n : Int} (h : bel so p n = 0) : ∀ k, 0 ≤ k → k < n → so (8 * p + k) ≠ 1 := fun k h0 h1 q => by rw [bel_t h0 h1 q] at h; omega
set_option maxRecDepth 20000 in
set_option maxHeartbeats 2000000 in
theorem sp_X1_hasBelly (d : Nat) (hd : 1 ≤ d) (xs : List (Nat × Nat)) (t dd rr : Nat) (σ : Sg) (p : Int) (hp : 0 ≤ p ∧ p < 40) (hn : 0 ≤ σ 13 p ∧ σ 13 p ≤ 8) : Ev d 153 [(28, 0), (0, p)] (Wd xs t dd rr σ) (0, bel (σ 14) p (σ 13 p)) (Wd xs t dd rr σ) := by
  obtain ⟨d, rfl⟩ : ∃ e, d = e + 1 := ⟨d - 1, by omega⟩
  refine evP (nL := 3) (code := k_X1_hasBelly) rfl pb0 rfl (fun E hE => ?_)
  show pCm (Ev d) k_X1_hasBelly E 0 [(28, 0), (0, p), (9, 0)] [] _
  refine R_iload rfl rfl ?_
  refine R_push rfl ?_
  refine R_mul rfl (by omega) (by omega) ?_
  refine R_istore rfl rfl ?_
  try (show pCm _ _ _ 5 [_, _, (0, p * 8)] _ _; rw [show p * 8 = p * 8 + 0 by omega])
  refine loop (pc := 5) (α := Int) (fun a => (σ 13 p - a).toNat) (fun a => ([(28, 0), (0, p), (0, p * 8 + a)], Wd xs t dd rr σ)) (fun a => (0 ≤ a ∧ a ≤ σ 13 p) ∧ ∀ k, 0 ≤ k → k < a → σ 14 (8 * p + k) ≠ 1) ?_ 0 ?_
  · intro a ⟨ha, hv⟩ ih
    dsimp only at ha hv ⊢
    have e8 : σ 14 (p * 8 + a) = σ 14 (8 * p + a) := by rw [Int.mul_comm]
    try (show pCm _ _ _ 5 [_, _, (0, p * 8)] _ _; rw [show p * 8 = p * 8 + 0 by omega])
    refine R_iload rfl rfl ?_
    refine R_iload rfl rfl ?_
    refine R_push rfl ?_
    refine R_mul rfl (by omega) (by omega) ?_
    refine R_aload rfl rfl rfl ?_
    refine T_getr (v := 29) rfl rfl rfl rfl ?_
    refine R_iload rfl rfl ?_
    refine T_ald rfl rfl (by omega) (by omega) ?_
    refine R_add rfl (by omega) (by omega) ?_
    refine R_ic rfl (fun h17 => ?_) (fun h17 => ?_)
    · try simp only [ne_eq, b2i_e, b2i_1, Classical.not_not] at h17
      refine R_push rfl ?_
      refine R_zret rfl (by first | exact Or.inl rfl | exact Or.inr rfl | omega | grind) ?_
      exact hE _ (by rw [bel_f (fun k k0 k1 => hv k k0 (by omega))])
    · try simp only [ne_eq, b2i_e, b2i_1, Classical.not_not] at h17
      refine R_aload rfl rfl rfl ?_
      refine T_getr (v := 30) rfl rfl rfl rfl ?_
      refine R_iload rfl rfl ?_
      refine T_ald rfl rfl (by omega) (by omega) ?_
      refine R_push rfl ?_
      refine R_ic rfl (fun h27 => ?_) (fun h27 => ?_)
      · try simp only [ne_eq, b2i_e, b2i_1, Classical.not_not] at h27
        refine R_inc rfl rfl (by omega) (by omega) ?_
        refine R_goto rfl ?_
        try (show pCm _ _ _ 5 [_, _, (0, p * 8)] _ _; rw [show p * 8 = p * 8 + 0 by omega])
        have := ih (a + 1) ⟨by omega, fun k k0 k1 => by
          by_cases z : k = a
          · rw [z]; omega
          · exact hv k k0 (by omega)⟩ (by omega)
        rwa [← Int.add_assoc] at this
      · try simp only [ne_eq, b2i_e, b2i_1, Classical.not_not] at h27
        refine R_push rfl ?_
        refine R_zret rfl (by first | exact Or.inl rfl | exact Or.inr rfl | omega | grind) ?_
        exact hE _ (by rw [bel_t ha.1 (by omega) (by omega)])
  · exact ⟨by omega, fun k k0 k1 => by omega⟩
set_option maxRecDepth 20000 in
set_option maxHeartbeats 2000000 in
theorem sp_X1_add (d : Nat) (hd : 1 ≤ d) (xs : List (Nat × Nat)) (t dd rr : Nat) (σ : Sg) (p a r q : Int) (hp : 0 ≤ p ∧ p < 40) (hn : 0 ≤ σ 13 p ∧ σ 13 p ≤ 8) : ∃ σ', Ev d 155 [(28, 0), (0, p), (0, a), (1, r), (0, q)] (Wd xs t dd rr σ) (0, if σ 13 p < 8 then σ 13 p else -1) (Wd xs t dd rr σ') ∧ σ' = if σ 13 p < 8 then up2 (up2 (up2 (up2 (up2 (σ) 14 (p * 8 + σ 13 p) (a)) 15 (p * 8 + σ 13 p) (r)) 16 (p * 8 + σ 13 p) (q)) 17 (p * 8 + σ 13 p) (-1)) 13 (p) (σ 13 p + 1) else σ := by
  obtain ⟨d, rfl⟩ : ∃ e, d = e + 1 := ⟨d - 1, by omega⟩
  refine evS (nL := 8) (code := k_X1_add) rfl dc_X1_add rfl (fun E hE => ?_)
  show pCm (Ev d) k_X1_add E 0 [(28, 0), (0, p), (0, a), (1, r), (9, 0), (0, q), (9, 0), (9, 0)] [] _
  refine R_aload rfl rfl rfl ?_
  refine T_getr (v := 29) rfl rfl rfl rfl ?_
  refine R_iload rfl rfl ?_
  refine T_ald rfl rfl (by omega) (by omega) ?_
  refine R_istore rfl rfl ?_
  refine R_iload rfl rfl ?_
  refine R_push rfl ?_
  refine R_ic rfl (fun h12 => ?_) (fun h12 => ?_)
  · try simp only [ne_eq, b2i_e, b2i_1, Classical.not_not] at h12
    refine R_iload rfl rfl ?_
    refine R_push rfl ?_
    refine R_mul rfl (by omega) (by omega) ?_
    refine R_iload rfl rfl ?_
    refine R_add rfl (by omega) (by omega) ?_
    refine R_istore rfl rfl ?_
    refine R_aload rfl rfl rfl ?_
    refine T_getr (v := 30) rfl rfl rfl rfl ?_
    refine R_iload rfl rfl ?_
    refine R_iload rfl rfl ?_
    refine T_iast rfl rfl (by omega) (by omega) ?_
    refine R_aload rfl rfl rfl ?_
    refine T_getr (v := 31) rfl rfl rfl rfl ?_
    refine R_iload rfl rfl ?_
    refine R_lload rfl rfl ?_
    refine T_last rfl rfl (by omega) (by omega) ?_
    refine R_aload rfl rfl rfl ?_
    refine T_getr (v := 32) rfl rfl rfl rfl ?_
    refine R_iload rfl rfl ?_
    refine R_iload rfl rfl ?_
    refine T_iast rfl rfl (by omega) (by omega) ?_
    refine R_aload rfl rfl rfl ?_
    refine T_getr (v := 33) rfl rfl rfl rfl ?_
    refine R_iload rfl rfl ?_
    refine R_push rfl ?_
    refine T_iast rfl rfl (by omega) (by omega) ?_
    have e13 : (up2 (up2 (up2 (up2 (σ) 14 (p * 8 + σ 13 p) (a)) 15 (p * 8 + σ 13 p) (r)) 16 (p * 8 + σ 13 p) (q)) 17 (p * 8 + σ 13 p) (-1)) 13 p = σ 13 p := by simp [up2]
    refine R_aload rfl rfl rfl ?_
    refine T_getr (v := 29) rfl rfl rfl rfl ?_
    refine R_iload rfl rfl ?_
    refine R_dup2 rfl rfl rfl ?_
    refine T_ald rfl rfl (by omega) (by omega) ?_
    rw [e13]
    refine R_push rfl ?_
    refine R_add rfl (by omega) (by omega) ?_
    refine T_iast rfl rfl (by omega) (by omega) ?_
    refine R_iload rfl rfl ?_
    refine R_iret rfl ?_
    first
    | exact hE _ _ (by rw [if_pos (by omega)]; try rfl; try (congr 1; simp [up2])) (by rw [if_pos (by omega)])
    | exact hE _ _ (by rw [if_neg (by omega)]) (by rw [if_neg (by omega)])
  · try simp only [ne_eq, b2i_e, b2i_1, Classical.not_not] at h12
    refine R_push rfl ?_
    refine R_iret rfl ?_
    first
    | exact hE _ _ (by rw [if_pos (by omega)]; try rfl; try (congr 1; simp [up2])) (by rw [if_pos (by omega)])
    | exact hE _ _ (by rw [if_neg (by omega)]) (by rw [if_neg (by omega)])
set_option maxRecDepth 20000 in
set_option maxHeartbeats 2000000 in
theorem sp_X9_face (d : Nat) (hd : 3 ≤ d) (xs : List (Nat × Nat)) (t dd rr : Nat) (σ : Sg) (p a r q P : Int) (hP : σ 1 0 = P) (h0 : P ≤ 40) (hn : ∀ p, 0 ≤ p → p < P → 0 ≤ σ 13 p ∧ σ 13 p ≤ 8) : ∃ σ', Ev d 4 [(16, 0), (0, p), (0, a), (1, r), (0, q)] (Wd xs t dd rr σ) (0, if ((0 ≤ p ∧ p < P) ∧ (0 ≤ a ∧ a ≤ 3) ∧ (0 ≤ q ∧ q ≤ 7)) ∧ rimOk r = 1 ∧ ¬ (a = 1 ∧ bel (σ 14) p (σ 13 p) = 1) ∧ σ 13 p < 8 then σ 13 p else -1) (Wd xs t dd rr σ') ∧ (((0 ≤ p ∧ p < P) ∧ (0 ≤ a ∧ a ≤ 3) ∧ (0 ≤ q ∧ q ≤ 7)) ∧ rimOk r = 1 ∧ ¬ (a = 1 ∧ bel (σ 14) p (σ 13 p) = 1) ∧ σ 13 p < 8 → σ' = up2 (up2 (up2 (up2 (up2 (up2 (σ) 14 (p * 8 + σ 13 p) (a)) 15 (p * 8 + σ 13 p) (r)) 16 (p * 8 + σ 13 p) (q)) 17 (p * 8 + σ 13 p) (-1)) 13 (p) (σ 13 p + 1)) 57 (4) (-1)) ∧ (¬ (((0 ≤ p ∧ p < P) ∧ (0 ≤ a ∧ a ≤ 3) ∧ (0 ≤ q ∧ q ≤ 7)) ∧ rimOk r = 1 ∧ ¬ (a = 1 ∧ bel (σ 14) p (σ 13 p) = 1) ∧ σ 13 p < 8) → σ' = σ ∨ σ' = up2 σ 57 4 (-1)) := by
  obtain ⟨d, rfl⟩ : ∃ e, d = e + 1 := ⟨d - 1, by omega⟩
  have hbb := bel_bd (so := σ 14) (p := p) (n := σ 13 p)
  have hrb := rimOk_bd (r := r)
  refine evS (nL := 7) (code := k_X9_face) rfl dc_X9_face rfl (fun E hE => ?_)
  show pCm (Ev d) k_X9_face E 0 [(16, 0), (0, p), (0, a), (1, r), (9, 0), (0, q), (9, 0)] [] _
  refine R_aload rfl rfl rfl ?_
  refine T_getr (v := 17) rfl rfl rfl rfl ?_
  refine R_iload rfl rfl ?_
  refine R_invv rfl rfl rfl rfl rfl rfl (sp_X6_has d (by omega) xs t dd rr σ p P hP) rfl ?_
  show pCm _ _ _ 8 _ [(0, _)] _
  refine R_if rfl (fun h8 => ?_) (fun h8 => ?_)
  · try simp only [ne_eq, b2i_e, b2i_1, Classical.not_not] at h8
    refine R_push rfl ?_
    refine R_iret rfl ?_
    exact hE _ _ (by rw [if_neg (by omega)]) ⟨fun z => absurd z (by omega), fun _ => Or.inl rfl⟩
  · try simp only [ne_eq, b2i_e, b2i_1, Classical.not_not] at h8
    refine R_iload rfl rfl ?_
    refine R_push rfl ?_
    refine R_push rfl ?_
    refine R_inv rfl rfl rfl rfl rfl (sp_X9_within d (by omega) _ _ _ _) rfl ?_
    show pCm _ _ _ 17 _ [(0, _)] _
    refine R_if rfl (fun h17 => ?_) (fun h17 => ?_)
    · try simp only [ne_eq, b2i_e, b2i_1, Classical.not_not] at h17
      refine R_push rfl ?_
      refine R_iret rfl ?_
      exact hE _ _ (by rw [if_neg (by omega)]) ⟨fun z => absurd z (by omega), fun _ => Or.inl rfl⟩
    · try simp only [ne_eq, b2i_e, b2i_1, Classical.not_not] at h17
      refine R_iload rfl rfl ?_
      refine R_push rfl ?_
      refine R_push rfl ?_
      refine R_inv rfl rfl rfl rfl rfl (sp_X9_within d (by omega) _ _ _ _) rfl ?_
      show pCm _ _ _ 28 _ [(0, _)] _
      refine R_if rfl (fun h28 => ?_) (fun h28 => ?_)
      · try simp only [ne_eq, b2i_e, b2i_1, Classical.not_not] at h28
        have hnp := hn p (by omega) (by omega)
        refine R_aload rfl rfl rfl ?_
        refine T_getr (v := 28) rfl rfl rfl rfl ?_
        refine R_lload rfl rfl ?_
        refine R_invv rfl rfl rfl rfl rfl rfl (sp_X1_rimFits d (by omega) xs t dd rr σ r) rfl ?_
        show pCm _ _ _ 41 _ [(0, _)] _
        refine R_if rfl (fun h41 => ?_) (fun h41 => ?_)
        · try simp only [ne_eq, b2i_e, b2i_1, Classical.not_not] at h41
          refine R_push rfl ?_
          refine R_iret rfl ?_
          exact hE _ _ (by rw [if_neg (by omega)]) ⟨fun z => absurd z (by omega), fun _ => Or.inl rfl⟩
        · try simp only [ne_eq, b2i_e, b2i_1, Classical.not_not] at h41
          refine R_iload rfl rfl ?_
          refine R_push rfl ?_
          refine R_ic rfl (fun h46 => ?_) (fun h46 => ?_)
          · try simp only [ne_eq, b2i_e, b2i_1, Classical.not_not] at h46
            refine R_aload rfl rfl rfl ?_
            refine T_getr (v := 28) rfl rfl rfl rfl ?_
            refine R_iload rfl rfl ?_
            refine R_iload rfl rfl ?_
            refine R_lload rfl rfl ?_
            refine R_iload rfl rfl ?_
            obtain ⟨s1, hev, hs1⟩ := sp_X1_add d (by omega) xs t dd rr σ p a r q ⟨by omega, by omega⟩ hnp
            refine R_invv rfl rfl rfl rfl rfl rfl (hev) rfl ?_
            show pCm _ _ _ 74 _ [(0, _)] _
            refine R_istore rfl rfl ?_
            refine R_aload rfl rfl rfl ?_
            refine T_getr (v := 73) rfl rfl rfl rfl ?_
            refine R_invv rfl rfl rfl rfl rfl rfl (sp_X0_forget d (by omega) xs t dd rr _) rfl ?_
            show pCm _ _ _ 83 _ [] _
            refine R_iload rfl rfl ?_
            refine R_iret rfl ?_
            by_cases c : σ 13 p < 8
            · rw [if_pos c] at hs1
              exact hE _ _ (by rw [if_pos c, if_pos (by omega)]) ⟨fun _ => by rw [hs1], fun z => absurd (show ((0 ≤ p ∧ p < P) ∧ (0 ≤ a ∧ a ≤ 3) ∧ (0 ≤ q ∧ q ≤ 7)) ∧ rimOk r = 1 ∧ ¬ (a = 1 ∧ bel (σ 14) p (σ 13 p) = 1) ∧ σ 13 p < 8 by omega) z⟩
            · rw [if_neg c] at hs1
              exact hE _ _ (by rw [if_neg c, if_neg (by omega)]) ⟨fun z => absurd z (by omega), fun _ => by rw [hs1]; exact Or.inr rfl⟩
          · try simp only [ne_eq, b2i_e, b2i_1, Classical.not_not] at h46
            refine R_aload rfl rfl rfl ?_
            refine T_getr (v := 28) rfl rfl rfl rfl ?_
            refine R_iload rfl rfl ?_
            refine R_invv rfl rfl rfl rfl rfl rfl (sp_X1_hasBelly d (by omega) xs t dd rr σ p ⟨by omega, by omega⟩ hnp) rfl ?_
            show pCm _ _ _ 57 _ [(0, _)] _
            refine R_if rfl (fun h57 => ?_) (fun h57 => ?_)
            · try simp only [ne_eq, b2i_e, b2i_1, Classical.not_not] at h57
              refine R_aload rfl rfl rfl ?_
              refine T_getr (v := 28) rfl rfl rfl rfl ?_
              refine R_iload rfl rfl ?_
              refine R_iload rfl rfl ?_
              refine R_lload rfl rfl ?_
              refine R_iload rfl rfl ?_
              obtain ⟨s1, hev, hs1⟩ := sp_X1_add d (by omega) xs t dd rr σ p a r q ⟨by omega, by omega⟩ hnp
              refine R_invv rfl rfl rfl rfl rfl rfl (hev) rfl ?_
              show pCm _ _ _ 74 _ [(0, _)] _
              refine R_istore rfl rfl ?_
              refine R_aload rfl rfl rfl ?_
              refine T_getr (v := 73) rfl rfl rfl rfl ?_
              refine R_invv rfl rfl rfl rfl rfl rfl (sp_X0_forget d (by omega) xs t dd rr _) rfl ?_
              show pCm _ _ _ 83 _ [] _
              refine R_iload rfl rfl ?_
              refine R_iret rfl ?_
              by_cases c : σ 13 p < 8
              · rw [if_pos c] at hs1
                exact hE _ _ (by rw [if_pos c, if_pos (by omega)]) ⟨fun _ => by rw [hs1], fun z => absurd (show ((0 ≤ p ∧ p < P) ∧ (0 ≤ a ∧ a ≤ 3) ∧ (0 ≤ q ∧ q ≤ 7)) ∧ rimOk r = 1 ∧ ¬ (a = 1 ∧ bel (σ 14) p (σ 13 p) = 1) ∧ σ 13 p < 8 by omega) z⟩
              · rw [if_neg c] at hs1
                exact hE _ _ (by rw [if_neg c, if_neg (by omega)]) ⟨fun z => absurd z (by omega), fun _ => by rw [hs1]; exact Or.inr rfl⟩
            · try simp only [ne_eq, b2i_e, b2i_1, Classical.not_not] at h57
              refine R_push rfl ?_
              refine R_iret rfl ?_
              exact hE _ _ (by rw [if_neg (by omega)]) ⟨fun z => absurd z (by omega), fun _ => Or.inl rfl⟩
      · try simp only [ne_eq, b2i_e, b2i_1, Classical.not_not] at h28
        refine R_push rfl ?_
        refine R_iret rfl ?_
        exact hE _ _ (by rw [if_neg (by omega)]) ⟨fun z => absurd z (by omega), fun _ => Or.inl rfl⟩
set_option maxRecDepth 20000 in
set_option maxHeartbeats 2000000 in
theorem sp_X10_face (d : Nat) (hd : 2 ≤ d) (xs : List (Nat × Nat)) (t dd rr : Nat) (σ : Sg) (p a r q P : Int) (hP : σ 71 26 = P) (h0 : P ≤ 40) (hn : ∀ p, 0 ≤ p → p < P → 0 ≤ σ 98 p ∧ σ 98 p ≤ 8) : ∃ σ', Ev d 69 [(87, 0), (0, p), (0, a), (1, r), (0, q)] (Wd xs t dd rr σ) (0, if ((0 ≤ p ∧ p < P) ∧ (0 ≤ a ∧ a ≤ 3) ∧ (0 ≤ q ∧ q ≤ 7)) ∧ rimOk r = 1 ∧ ¬ (a = 1 ∧ bel (σ 99) p (σ 98 p) = 1) ∧ σ 98 p < 8 then σ 98 p else -1) (Wd xs t dd rr σ') ∧ (¬ (((0 ≤ p ∧ p < P) ∧ (0 ≤ a ∧ a ≤ 3) ∧ (0 ≤ q ∧ q ≤ 7)) ∧ rimOk r = 1 ∧ ¬ (a = 1 ∧ bel (σ 99) p (σ 98 p) = 1) ∧ σ 98 p < 8) → σ' = up2 σ 71 0 0) ∧ (((0 ≤ p ∧ p < P) ∧ (0 ≤ a ∧ a ≤ 3) ∧ (0 ≤ q ∧ q ≤ 7)) ∧ rimOk r = 1 ∧ ¬ (a = 1 ∧ bel (σ 99) p (σ 98 p) = 1) ∧ σ 98 p < 8 → Fr [100] [] (up2 (up2 (up2 (up2 σ 71 0 0) 99 (8 * p + σ 98 p) (a)) 101 (8 * p + σ 98 p) (q)) 98 (p) (σ 98 p + 1)) σ' ∧ ∀ m, σ' 100 m = if 8 * (8 * p + σ 98 p) ≤ m ∧ m < 8 * (8 * p + σ 98 p) + 8 then byt r (m - 8 * (8 * p + σ 98 p)) else σ 100 m) := by
  obtain ⟨d, rfl⟩ : ∃ e, d = e + 1 := ⟨d - 1, by omega⟩
  have hbb := bel_bd (so := σ 99) (p := p) (n := σ 98 p)
  have hrb := rimOk_bd (r := r)
  refine evS (nL := 9) (code := k_X10_face) rfl dc_X10_face rfl (fun E hE => ?_)
  show pCm (Ev d) k_X10_face E 0 [(87, 0), (0, p), (0, a), (1, r), (9, 0), (0, q), (9, 0), (9, 0), (9, 0)] [] _
  refine R_aload rfl rfl rfl ?_
  refine R_push rfl ?_
  refine T_puti rfl rfl rfl ?_
  generalize hs1 : up2 σ 71 0 0 = s1
  have hF1 : Fr [] [(71, 0)] σ s1 := by rw [← hs1]; exact Fr.rf.up rfl
  have e26 := hF1.at 71 26 rfl
  have e98 := hF1.at 98 p rfl
  have J49 : ∀ v : Int, v = b2i (((0 ≤ p ∧ p < P) ∧ (0 ≤ a ∧ a ≤ 3) ∧ (0 ≤ q ∧ q ≤ 7)) ∧ σ 98 p < 8) → pCm (Ev d) k_X10_face E 49 [(87, 0), (0, p), (0, a), (1, r), (9, 0), (0, q), (9, 0), (9, 0), (9, 0)] [(0, v)] (Wd xs t dd rr s1) := by
    intro v hv
    have hv : v = 1 ∧ (((0 ≤ p ∧ p < P) ∧ (0 ≤ a ∧ a ≤ 3) ∧ (0 ≤ q ∧ q ≤ 7)) ∧ σ 98 p < 8) ∨ v = 0 ∧ ¬ (((0 ≤ p ∧ p < P) ∧ (0 ≤ a ∧ a ≤ 3) ∧ (0 ≤ q ∧ q ≤ 7)) ∧ σ 98 p < 8) := by
      rw [hv]; unfold b2i; split <;> omega
    refine R_istore rfl rfl ?_
    refine R_push rfl ?_
    refine R_istore rfl rfl ?_
    refine fgt wc_X10_face [1, 1, 1, 1, 1, 1, 1, 1, 0] ?_
    refine loop (pc := 54) (α := Int × Int) (fun x => (8 - x.2).toNat) (fun x => ([(87, 0), (0, p), (0, a), (1, r), (9, 0), (0, q), (0, x.1), (0, x.2), (9, 0)], Wd xs t dd rr s1)) (fun x => (0 ≤ x.2 ∧ x.2 ≤ 8) ∧ (x.1 = 1 ∧ (((0 ≤ p ∧ p < P) ∧ (0 ≤ a ∧ a ≤ 3) ∧ (0 ≤ q ∧ q ≤ 7)) ∧ σ 98 p < 8) ∧ (∀ k, 0 ≤ k → k < x.2 → byt r k ≤ 99) ∨ x.1 = 0 ∧ (¬ (((0 ≤ p ∧ p < P) ∧ (0 ≤ a ∧ a ≤ 3) ∧ (0 ≤ q ∧ q ≤ 7)) ∧ σ 98 p < 8) ∨ rimOk r = 0))) ?_ (v, 0) ?_
    · intro ⟨g, k⟩ ⟨hk, hg⟩ ih
      dsimp only at hk hg ⊢
      refine R_iload rfl rfl ?_
      refine R_push rfl ?_
      refine R_ic rfl (fun h58 => ?_) (fun h58 => ?_)
      · try simp only [ne_eq, b2i_e, b2i_1, Classical.not_not] at h58
        refine R_push rfl ?_
        refine R_istore rfl rfl ?_
        have hg2 : g = 1 ∧ (((0 ≤ p ∧ p < P) ∧ (0 ≤ a ∧ a ≤ 3) ∧ (0 ≤ q ∧ q ≤ 7)) ∧ σ 98 p < 8) ∧ rimOk r = 1 ∨ g = 0 ∧ ¬ ((((0 ≤ p ∧ p < P) ∧ (0 ≤ a ∧ a ≤ 3) ∧ (0 ≤ q ∧ q ≤ 7)) ∧ σ 98 p < 8) ∧ rimOk r = 1) := by
          rcases hg with hg | hg
          · exact Or.inl ⟨hg.1, hg.2.1, rimOk_t (fun i i0 i1 => hg.2.2 i i0 (by omega))⟩
          · exact Or.inr ⟨hg.1, by omega⟩
        clear hg ih hk
        refine loop (pc := 103) (α := Int × Int) (fun x => (σ 98 p - x.2).toNat + (1 - x.2).toNat) (fun x => ([(87, 0), (0, p), (0, a), (1, r), (9, 0), (0, q), (0, x.1), (0, x.2), (9, 0)], Wd xs t dd rr s1)) (fun x => (0 ≤ x.2) ∧ (x.1 = 1 ∧ ((((0 ≤ p ∧ p < P) ∧ (0 ≤ a ∧ a ≤ 3) ∧ (0 ≤ q ∧ q ≤ 7)) ∧ σ 98 p < 8) ∧ rimOk r = 1) ∧ x.2 ≤ σ 98 p ∧ (a = 1 → ∀ k, 0 ≤ k → k < x.2 → σ 99 (8 * p + k) ≠ 1) ∨ x.1 = 0 ∧ (¬ ((((0 ≤ p ∧ p < P) ∧ (0 ≤ a ∧ a ≤ 3) ∧ (0 ≤ q ∧ q ≤ 7)) ∧ σ 98 p < 8) ∧ rimOk r = 1) ∨ a = 1 ∧ bel (σ 99) p (σ 98 p) = 1))) ?_ (g, 0) ?_
        · clear hg2
          intro ⟨g, k⟩ ⟨hk, hg⟩ ih
          dsimp only at hk hg ⊢
          refine R_iload rfl rfl ?_
          have J160 : (((0 ≤ p ∧ p < P) ∧ (0 ≤ a ∧ a ≤ 3) ∧ (0 ≤ q ∧ q ≤ 7)) ∧ rimOk r = 1 ∧ ¬ (a = 1 ∧ bel (σ 99) p (σ 98 p) = 1) ∧ σ 98 p < 8) → pCm (Ev d) k_X10_face E 160 [(87, 0), (0, p), (0, a), (1, r), (9, 0), (0, q), (0, g), (0, k), (9, 0)] [] (Wd xs t dd rr s1) := by
            intro hC
            refine R_push rfl ?_
            refine R_iload rfl rfl ?_
            refine R_mul rfl (by omega) (by omega) ?_
            refine R_aload rfl rfl rfl ?_
            refine T_getr (v := 114) rfl rfl rfl rfl ?_
            refine R_iload rfl rfl ?_
            refine T_ald rfl rfl (by omega) (by omega) ?_
            rw [e98]
            refine R_add rfl (by omega) (by omega) ?_
            refine R_istore rfl rfl ?_
            refine R_aload rfl rfl rfl ?_
            refine T_getr (v := 115) rfl rfl rfl rfl ?_
            refine R_iload rfl rfl ?_
            refine R_iload rfl rfl ?_
            refine T_iast rfl rfl (by omega) (by omega) ?_
            refine R_aload rfl rfl rfl ?_
            refine T_getr (v := 117) rfl rfl rfl rfl ?_
            refine R_iload rfl rfl ?_
            refine R_iload rfl rfl ?_
            refine T_iast rfl rfl (by omega) (by omega) ?_
            have f98 : (up2 (up2 (s1) 99 (8 * p + σ 98 p) (a)) 101 (8 * p + σ 98 p) (q)) 98 p = σ 98 p := by simp [up2, e98]
            refine R_push rfl ?_
            refine R_istore rfl rfl ?_
            refine loop (pc := 193) (α := Int × Sg) (fun x => (8 - x.1).toNat) (fun x => ([(87, 0), (0, p), (0, a), (1, r), (9, 0), (0, q), (0, g), (0, 8 * p + σ 98 p), (0, x.1)], Wd xs t dd rr x.2)) (fun x => (0 ≤ x.1 ∧ x.1 ≤ 8) ∧ Fr [100] [] (up2 (up2 (s1) 99 (8 * p + σ 98 p) (a)) 101 (8 * p + σ 98 p) (q)) x.2 ∧ ∀ m, x.2 100 m = if 8 * (8 * p + σ 98 p) ≤ m ∧ m < 8 * (8 * p + σ 98 p) + x.1 then byt r (m - 8 * (8 * p + σ 98 p)) else σ 100 m) ?_ (0, up2 (up2 (s1) 99 (8 * p + σ 98 p) (a)) 101 (8 * p + σ 98 p) (q)) ?_
            · intro ⟨i, s2⟩ ⟨hi, hF, hv⟩ ih2
              dsimp only at hi hF hv ⊢
              refine R_iload rfl rfl ?_
              refine R_push rfl ?_
              refine R_ic rfl (fun h197 => ?_) (fun h197 => ?_)
              · try simp only [ne_eq, b2i_e, b2i_1, Classical.not_not] at h197
                refine R_aload rfl rfl rfl ?_
                refine T_getr (v := 114) rfl rfl rfl rfl ?_
                refine R_iload rfl rfl ?_
                refine R_dup2 rfl rfl rfl ?_
                refine T_ald rfl rfl (by omega) (by omega) ?_
                rw [show s2 98 p = σ 98 p by rw [hF.row 98 rfl]; exact f98]
                refine R_push rfl ?_
                refine R_add rfl (by omega) (by omega) ?_
                refine T_iast rfl rfl (by omega) (by omega) ?_
                refine R_aload rfl rfl rfl ?_
                refine T_getr (v := 114) rfl rfl rfl rfl ?_
                refine R_iload rfl rfl ?_
                refine T_ald rfl rfl (by omega) (by omega) ?_
                rw [up_s]
                refine R_push rfl ?_
                refine R_sub rfl (by omega) (by omega) ?_
                refine R_iret rfl ?_
                refine hE _ _ (by rw [if_pos (by omega)]; congr 1; omega) ⟨fun z => absurd hC z, fun _ => ⟨?_, fun m => ?_⟩⟩
                · rw [hs1]; exact hF.upb
                · rw [up_k (by decide), hv m, show i = 8 by omega]
              · try simp only [ne_eq, b2i_e, b2i_1, Classical.not_not] at h197
                refine R_aload rfl rfl rfl ?_
                refine T_getr (v := 116) rfl rfl rfl rfl ?_
                refine R_push rfl ?_
                refine R_iload rfl rfl ?_
                refine R_mul rfl (by omega) (by omega) ?_
                refine R_iload rfl rfl ?_
                refine R_add rfl (by omega) (by omega) ?_
                refine R_lload rfl rfl ?_
                refine R_push rfl ?_
                refine R_push rfl ?_
                refine R_iload rfl rfl ?_
                refine R_mul rfl (by omega) (by omega) ?_
                refine R_sub rfl (by omega) (by omega) ?_
                refine R_lsh rfl ?_
                refine R_push rfl ?_
                refine R_lbin rfl ?_
                refine R_l2i rfl ?_
                refine T_iast rfl rfl (by omega) (by omega) ?_
                refine R_inc rfl rfl (by omega) (by omega) ?_
                refine R_goto rfl ?_
                rw [pLand255, pL2i_byte]
                generalize hs3 : up2 s2 100 (8 * (8 * p + σ 98 p) + i) _ = s3
                refine ih2 (i + 1, s3) ⟨by dsimp only; omega, by rw [← hs3]; exact hF.upr rfl, fun m => ?_⟩ (by dsimp only; omega)
                dsimp only
                rw [← hs3]
                by_cases z : m = 8 * (8 * p + σ 98 p) + i
                · rw [z, up_s, if_pos (by omega)]
                  unfold byt
                  rw [show 8 * (8 * p + σ 98 p) + i - 8 * (8 * p + σ 98 p) = i by omega]
                · rw [up_i z, hv m]
                  by_cases y : 8 * (8 * p + σ 98 p) ≤ m ∧ m < 8 * (8 * p + σ 98 p) + i
                  · rw [if_pos y, if_pos (by omega)]
                  · rw [if_neg y, if_neg (by omega)]
            · exact ⟨by dsimp only; omega, Fr.rf, fun m => by
                dsimp only
                rw [if_neg (by omega)]
                have := hF1.at 100 m rfl
                simp [up2, this]⟩
          refine R_if rfl (fun h105 => ?_) (fun h105 => ?_)
          · try simp only [ne_eq, b2i_e, b2i_1, Classical.not_not] at h105
            refine R_iload rfl rfl ?_
            refine R_if rfl (fun h155 => ?_) (fun h155 => ?_)
            · try simp only [ne_eq, b2i_e, b2i_1, Classical.not_not] at h155
              first
              | (exfalso; omega)
              | (have hg : g = 1 ∧ ((((0 ≤ p ∧ p < P) ∧ (0 ≤ a ∧ a ≤ 3) ∧ (0 ≤ q ∧ q ≤ 7)) ∧ σ 98 p < 8) ∧ rimOk r = 1) ∧ k ≤ σ 98 p ∧ (a = 1 → ∀ k_1, 0 ≤ k_1 → k_1 < k → σ 99 (8 * p + k_1) ≠ 1) := by
                   rcases hg with hg | hg
                   · exact hg
                   · exfalso; omega
                 have hnb : a = 1 → bel (σ 99) p (σ 98 p) = 0 := fun ea => bel_f (fun i i0 i1 => hg.2.2.2 ea i i0 (by omega))
                 exact J160 (by omega))
            · try simp only [ne_eq, b2i_e, b2i_1, Classical.not_not] at h155
              refine R_push rfl ?_
              refine R_iret rfl ?_
              exact hE _ _ (by rw [if_neg (by omega)]) ⟨fun _ => hs1.symm, fun z => absurd z (by omega)⟩
          · try simp only [ne_eq, b2i_e, b2i_1, Classical.not_not] at h105
            refine R_iload rfl rfl ?_
            refine R_aload rfl rfl rfl ?_
            refine T_getr (v := 114) rfl rfl rfl rfl ?_
            refine R_iload rfl rfl ?_
            refine T_ald rfl rfl (by omega) (by omega) ?_
            refine R_ic rfl (fun h116 => ?_) (fun h116 => ?_)
            · try simp only [ne_eq, b2i_e, b2i_1, Classical.not_not] at h116
              refine R_iload rfl rfl ?_
              refine R_if rfl (fun h155 => ?_) (fun h155 => ?_)
              · try simp only [ne_eq, b2i_e, b2i_1, Classical.not_not] at h155
                first
                | (exfalso; omega)
                | (have hg : g = 1 ∧ ((((0 ≤ p ∧ p < P) ∧ (0 ≤ a ∧ a ≤ 3) ∧ (0 ≤ q ∧ q ≤ 7)) ∧ σ 98 p < 8) ∧ rimOk r = 1) ∧ k ≤ σ 98 p ∧ (a = 1 → ∀ k_1, 0 ≤ k_1 → k_1 < k → σ 99 (8 * p + k_1) ≠ 1) := by
                     rcases hg with hg | hg
                     · exact hg
                     · exfalso; omega
                   have hnb : a = 1 → bel (σ 99) p (σ 98 p) = 0 := fun ea => bel_f (fun i i0 i1 => hg.2.2.2 ea i i0 (by omega))
                   exact J160 (by omega))
              · try simp only [ne_eq, b2i_e, b2i_1, Classical.not_not] at h155
                refine R_push rfl ?_
                refine R_iret rfl ?_
                exact hE _ _ (by rw [if_neg (by omega)]) ⟨fun _ => hs1.symm, fun z => absurd z (by omega)⟩
            · try simp only [ne_eq, b2i_e, b2i_1, Classical.not_not] at h116
              have hg : g = 1 ∧ ((((0 ≤ p ∧ p < P) ∧ (0 ≤ a ∧ a ≤ 3) ∧ (0 ≤ q ∧ q ≤ 7)) ∧ σ 98 p < 8) ∧ rimOk r = 1) ∧ k ≤ σ 98 p ∧ (a = 1 → ∀ k_1, 0 ≤ k_1 → k_1 < k → σ 99 (8 * p + k_1) ≠ 1) := by
                rcases hg with hg | hg
                · exact hg
                · exfalso; omega
              have e99 := hF1.at 99 (8 * p + k) rfl
              have J145 : ∀ v : Int, (v = 1 ∧ ((((0 ≤ p ∧ p < P) ∧ (0 ≤ a ∧ a ≤ 3) ∧ (0 ≤ q ∧ q ≤ 7)) ∧ σ 98 p < 8) ∧ rimOk r = 1) ∧ k + 1 ≤ σ 98 p ∧ (a = 1 → ∀ i, 0 ≤ i → i < k + 1 → σ 99 (8 * p + i) ≠ 1) ∨ v = 0 ∧ (¬ ((((0 ≤ p ∧ p < P) ∧ (0 ≤ a ∧ a ≤ 3) ∧ (0 ≤ q ∧ q ≤ 7)) ∧ σ 98 p < 8) ∧ rimOk r = 1) ∨ a = 1 ∧ bel (σ 99) p (σ 98 p) = 1)) → pCm (Ev d) k_X10_face E 145 [(87, 0), (0, p), (0, a), (1, r), (9, 0), (0, q), (0, g), (0, k), (9, 0)] [(0, v)] (Wd xs t dd rr s1) := by
                intro v hv
                refine R_istore rfl rfl ?_
                refine R_inc rfl rfl (by omega) (by omega) ?_
                refine R_goto rfl ?_
                exact ih (v, k + 1) ⟨by dsimp only; omega, hv⟩ (by dsimp only; omega)
              refine R_iload rfl rfl ?_
              refine R_push rfl ?_
              refine R_ic rfl (fun h121 => ?_) (fun h121 => ?_)
              · try simp only [ne_eq, b2i_e, b2i_1, Classical.not_not] at h121
                refine R_push rfl ?_
                refine R_goto rfl ?_
                refine J145 _ ?_
                first
                | exact Or.inr ⟨rfl, Or.inr ⟨by omega, bel_t hk (by omega) (by omega)⟩⟩
                | exact Or.inl ⟨rfl, hg.2.1, by omega, fun ea i i0 i1 => by
                    by_cases z : i = k
                    · rw [z]; omega
                    · exact hg.2.2.2 ea i i0 (by omega)⟩
              · try simp only [ne_eq, b2i_e, b2i_1, Classical.not_not] at h121
                refine R_aload rfl rfl rfl ?_
                refine T_getr (v := 115) rfl rfl rfl rfl ?_
                refine R_push rfl ?_
                refine R_iload rfl rfl ?_
                refine R_mul rfl (by omega) (by omega) ?_
                refine R_iload rfl rfl ?_
                refine R_add rfl (by omega) (by omega) ?_
                refine T_ald rfl rfl (by omega) (by omega) ?_
                refine R_push rfl ?_
                refine R_ic rfl (fun h137 => ?_) (fun h137 => ?_)
                · try simp only [ne_eq, b2i_e, b2i_1, Classical.not_not] at h137
                  refine R_push rfl ?_
                  refine J145 _ ?_
                  first
                  | exact Or.inr ⟨rfl, Or.inr ⟨by omega, bel_t hk (by omega) (by omega)⟩⟩
                  | exact Or.inl ⟨rfl, hg.2.1, by omega, fun ea i i0 i1 => by
                      by_cases z : i = k
                      · rw [z]; omega
                      · exact hg.2.2.2 ea i i0 (by omega)⟩
                · try simp only [ne_eq, b2i_e, b2i_1, Classical.not_not] at h137
                  refine R_push rfl ?_
                  refine R_goto rfl ?_
                  refine J145 _ ?_
                  first
                  | exact Or.inr ⟨rfl, Or.inr ⟨by omega, bel_t hk (by omega) (by omega)⟩⟩
                  | exact Or.inl ⟨rfl, hg.2.1, by omega, fun ea i i0 i1 => by
                      by_cases z : i = k
                      · rw [z]; omega
                      · exact hg.2.2.2 ea i i0 (by omega)⟩
        · refine ⟨Int.le_refl _, ?_⟩
          rcases hg2 with hg | hg
          · have hnp := hn p (by omega) (by omega)
            exact Or.inl ⟨hg.1, hg.2, hnp.1, fun _ k k0 k1 => by dsimp only at k1; omega⟩
          · exact Or.inr ⟨hg.1, Or.inl hg.2⟩
      · try simp only [ne_eq, b2i_e, b2i_1, Classical.not_not] at h58
        have J92 : ∀ v : Int, (v = 1 ∧ (((0 ≤ p ∧ p < P) ∧ (0 ≤ a ∧ a ≤ 3) ∧ (0 ≤ q ∧ q ≤ 7)) ∧ σ 98 p < 8) ∧ (∀ i, 0 ≤ i → i < k + 1 → byt r i ≤ 99) ∨ v = 0 ∧ (¬ (((0 ≤ p ∧ p < P) ∧ (0 ≤ a ∧ a ≤ 3) ∧ (0 ≤ q ∧ q ≤ 7)) ∧ σ 98 p < 8) ∨ rimOk r = 0)) → pCm (Ev d) k_X10_face E 92 [(87, 0), (0, p), (0, a), (1, r), (9, 0), (0, q), (0, g), (0, k), (9, 0)] [(0, v)] (Wd xs t dd rr s1) := by
          intro v hv
          refine R_istore rfl rfl ?_
          refine R_inc rfl rfl (by omega) (by omega) ?_
          refine R_goto rfl ?_
          exact ih (v, k + 1) ⟨by dsimp only; omega, hv⟩ (by dsimp only; omega)
        refine R_iload rfl rfl ?_
        refine R_if rfl (fun h63 => ?_) (fun h63 => ?_)
        · try simp only [ne_eq, b2i_e, b2i_1, Classical.not_not] at h63
          refine R_push rfl ?_
          refine J92 _ ?_
          first
          | (have hg : g = 0 ∧ (¬ (((0 ≤ p ∧ p < P) ∧ (0 ≤ a ∧ a ≤ 3) ∧ (0 ≤ q ∧ q ≤ 7)) ∧ σ 98 p < 8) ∨ rimOk r = 0) := by rcases hg with hg | hg <;> omega
             exact Or.inr ⟨rfl, hg.2⟩)
          | (have hg : g = 1 ∧ (((0 ≤ p ∧ p < P) ∧ (0 ≤ a ∧ a ≤ 3) ∧ (0 ≤ q ∧ q ≤ 7)) ∧ σ 98 p < 8) ∧ (∀ k_1, 0 ≤ k_1 → k_1 < k → byt r k_1 ≤ 99) := by
               rcases hg with hg | hg
               · exact hg
               · exfalso; omega
             first
             | (have hb : ¬ byt r k ≤ 99 := by omega
                exact Or.inr ⟨rfl, Or.inr (rimOk_f hk.1 (by omega) hb)⟩)
             | exact Or.inl ⟨rfl, hg.2.1, fun i i0 i1 => by
                 by_cases z : i = k
                 · rw [z]; omega
                 · exact hg.2.2 i i0 (by omega)⟩)
        · try simp only [ne_eq, b2i_e, b2i_1, Classical.not_not] at h63
          refine R_lload rfl rfl ?_
          refine R_push rfl ?_
          refine R_push rfl ?_
          refine R_iload rfl rfl ?_
          refine R_mul rfl (by omega) (by omega) ?_
          refine R_sub rfl (by omega) (by omega) ?_
          refine R_lsh rfl ?_
          refine R_push rfl ?_
          refine R_lbin rfl ?_
          refine R_push rfl ?_
          refine R_lcmp rfl ?_
          have hl : (0 < pLcmp (pLand (pLushr r (56 - 8 * k)) 255) 99) ↔ 99 < byt r k := by rw [pLand255]; unfold pLcmp byt; split <;> (try split) <;> omega
          refine R_if rfl (fun h84 => ?_) (fun h84 => ?_)
          · try simp only [ne_eq, b2i_e, b2i_1, Classical.not_not] at h84
            refine R_push rfl ?_
            refine J92 _ ?_
            first
            | (have hg : g = 0 ∧ (¬ (((0 ≤ p ∧ p < P) ∧ (0 ≤ a ∧ a ≤ 3) ∧ (0 ≤ q ∧ q ≤ 7)) ∧ σ 98 p < 8) ∨ rimOk r = 0) := by rcases hg with hg | hg <;> omega
               exact Or.inr ⟨rfl, hg.2⟩)
            | (have hg : g = 1 ∧ (((0 ≤ p ∧ p < P) ∧ (0 ≤ a ∧ a ≤ 3) ∧ (0 ≤ q ∧ q ≤ 7)) ∧ σ 98 p < 8) ∧ (∀ k_1, 0 ≤ k_1 → k_1 < k → byt r k_1 ≤ 99) := by
                 rcases hg with hg | hg
                 · exact hg
                 · exfalso; omega
               first
               | (have hb : ¬ byt r k ≤ 99 := by omega
                  exact Or.inr ⟨rfl, Or.inr (rimOk_f hk.1 (by omega) hb)⟩)
               | exact Or.inl ⟨rfl, hg.2.1, fun i i0 i1 => by
                   by_cases z : i = k
                   · rw [z]; omega
                   · exact hg.2.2 i i0 (by omega)⟩)
          · try simp only [ne_eq, b2i_e, b2i_1, Classical.not_not] at h84
            refine R_push rfl ?_
            refine R_goto rfl ?_
            refine J92 _ ?_
            first
            | (have hg : g = 0 ∧ (¬ (((0 ≤ p ∧ p < P) ∧ (0 ≤ a ∧ a ≤ 3) ∧ (0 ≤ q ∧ q ≤ 7)) ∧ σ 98 p < 8) ∨ rimOk r = 0) := by rcases hg with hg | hg <;> omega
               exact Or.inr ⟨rfl, hg.2⟩)
            | (have hg : g = 1 ∧ (((0 ≤ p ∧ p < P) ∧ (0 ≤ a ∧ a ≤ 3) ∧ (0 ≤ q ∧ q ≤ 7)) ∧ σ 98 p < 8) ∧ (∀ k_1, 0 ≤ k_1 → k_1 < k → byt r k_1 ≤ 99) := by
                 rcases hg with hg | hg
                 · exact hg
                 · exfalso; omega
               first
               | (have hb : ¬ byt r k ≤ 99 := by omega
                  exact Or.inr ⟨rfl, Or.inr (rimOk_f hk.1 (by omega) hb)⟩)
               | exact Or.inl ⟨rfl, hg.2.1, fun i i0 i1 => by
                   by_cases z : i = k
                   · rw [z]; omega
                   · exact hg.2.2 i i0 (by omega)⟩)
    · refine ⟨by dsimp only; omega, ?_⟩
      rcases hv with hv | hv
      · exact Or.inl ⟨hv.1, hv.2, fun k k0 k1 => by dsimp only at k1; omega⟩
      · exact Or.inr ⟨hv.1, Or.inl hv.2⟩
  refine R_aload rfl rfl rfl ?_
  refine R_iload rfl rfl ?_
  refine R_invv rfl rfl rfl rfl rfl rfl (sp_X10_isPiece d (by omega) xs t dd rr s1 p P (by omega)) rfl ?_
  show pCm _ _ _ 10 _ [(0, _)] _
  refine R_if rfl (fun h10 => ?_) (fun h10 => ?_)
  · try simp only [ne_eq, b2i_e, b2i_1, Classical.not_not] at h10
    refine R_push rfl ?_
    exact J49 _ (by first | rw [b2i_t (by omega)] | rw [b2i_f (by omega)])
  · try simp only [ne_eq, b2i_e, b2i_1, Classical.not_not] at h10
    refine R_iload rfl rfl ?_
    refine R_push rfl ?_
    refine R_push rfl ?_
    refine R_inv rfl rfl rfl rfl rfl (sp_X10_within d (by omega) _ _ _ _) rfl ?_
    show pCm _ _ _ 19 _ [(0, _)] _
    refine R_if rfl (fun h19 => ?_) (fun h19 => ?_)
    · try simp only [ne_eq, b2i_e, b2i_1, Classical.not_not] at h19
      refine R_push rfl ?_
      exact J49 _ (by first | rw [b2i_t (by omega)] | rw [b2i_f (by omega)])
    · try simp only [ne_eq, b2i_e, b2i_1, Classical.not_not] at h19
      refine R_iload rfl rfl ?_
      refine R_push rfl ?_
      refine R_push rfl ?_
      refine R_inv rfl rfl rfl rfl rfl (sp_X10_within d (by omega) _ _ _ _) rfl ?_
      show pCm _ _ _ 30 _ [(0, _)] _
      refine R_if rfl (fun h30 => ?_) (fun h30 => ?_)
      · try simp only [ne_eq, b2i_e, b2i_1, Classical.not_not] at h30
        refine R_push rfl ?_
        exact J49 _ (by first | rw [b2i_t (by omega)] | rw [b2i_f (by omega)])
      · try simp only [ne_eq, b2i_e, b2i_1, Classical.not_not] at h30
        refine R_aload rfl rfl rfl ?_
        refine T_getr (v := 114) rfl rfl rfl rfl ?_
        refine R_iload rfl rfl ?_
        refine T_ald rfl rfl (by omega) (by omega) ?_
        refine R_push rfl ?_
        refine R_ic rfl (fun h41 => ?_) (fun h41 => ?_)
        · try simp only [ne_eq, b2i_e, b2i_1, Classical.not_not] at h41
          refine R_push rfl ?_
          exact J49 _ (by first | rw [b2i_t (by omega)] | rw [b2i_f (by omega)])
        · try simp only [ne_eq, b2i_e, b2i_1, Classical.not_not] at h41
          refine R_push rfl ?_
          refine R_goto rfl ?_
          exact J49 _ (by first | rw [b2i_t (by omega)] | rw [b2i_f (by omega)])

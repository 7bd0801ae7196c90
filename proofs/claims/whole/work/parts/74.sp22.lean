theorem mul_bd {a b A B : Int} (ha : 0 ≤ a ∧ a ≤ A) (hb : 0 ≤ b ∧ b ≤ B) : 0 ≤ a * b ∧ a * b ≤ A * B := ⟨Int.mul_nonneg ha.1 hb.1, Int.mul_le_mul ha.2 hb.2 hb.1 (by omega)⟩
theorem sq_bd {x A : Int} (h : -A ≤ x ∧ x ≤ A) : 0 ≤ x * x ∧ x * x ≤ A * A := by
  by_cases q : 0 ≤ x
  · exact mul_bd ⟨q, h.2⟩ ⟨q, h.2⟩
  · have := mul_bd (a := -x) (b := -x) (A := A) (B := A) ⟨by omega, by omega⟩ ⟨by omega, by omega⟩
    rwa [Int.neg_mul_neg] at this
def two (f n g m : Int) : Int := b2i (2 ≤ n ∧ 2 ≤ m ∧ 4 * (f + g) * n * m < (f * m - g * n) * (f * m - g * n))
theorem two_bd {f n g m : Int} : two f n g m = 0 ∨ two f n g m = 1 := by unfold two b2i; split <;> omega
set_option maxRecDepth 20000 in
set_option maxHeartbeats 2000000 in
theorem sp_X3_way (d : Nat) (hd : 1 ≤ d) (w : pW) (f n g m : Int) (hf : 0 ≤ f ∧ f ≤ 400) (hn : 0 ≤ n ∧ n ≤ 40) (hg : 0 ≤ g ∧ g ≤ 400) (hm : 0 ≤ m ∧ m ≤ 40) : Ev d 190 [(0, f), (0, n), (0, g), (0, m)] w (1, (f * m - g * n) * (f * m - g * n)) w := by
  obtain ⟨d, rfl⟩ : ∃ e, d = e + 1 := ⟨d - 1, by omega⟩
  have q1 := mul_bd hf hm
  have q2 := mul_bd hg hn
  have q3 := sq_bd (x := f * m - g * n) (A := 16000) ⟨by omega, by omega⟩
  have q4 := mul_bd (a := 4 * (f + g)) (A := 3200) ⟨by omega, by omega⟩ hn
  have q5 := mul_bd (A := 128000) ⟨q4.1, by omega⟩ hm
  refine evP (nL := 6) (code := k_X3_way) rfl ⟨Nat.le_refl _, Nat.le_refl _⟩ rfl (fun E hE => ?_)
  show pCm (Ev d) k_X3_way E 0 [(0, f), (0, n), (0, g), (0, m), (9, 0), (9, 0)] [] _
  refine R_iload rfl rfl ?_
  refine R_i2l rfl ?_
  refine R_iload rfl rfl ?_
  refine R_i2l rfl ?_
  refine R_lmul rfl (by omega) (by omega) ?_
  refine R_iload rfl rfl ?_
  refine R_i2l rfl ?_
  refine R_iload rfl rfl ?_
  refine R_i2l rfl ?_
  refine R_lmul rfl (by omega) (by omega) ?_
  refine R_lsub rfl (by omega) (by omega) ?_
  refine R_lstore rfl rfl ?_
  refine R_lload rfl rfl ?_
  refine R_lload rfl rfl ?_
  refine R_lmul rfl (by omega) (by omega) ?_
  refine R_lret rfl ?_
  exact hE _ rfl
set_option maxRecDepth 20000 in
set_option maxHeartbeats 2000000 in
theorem sp_X10_areTwo (d : Nat) (hd : 1 ≤ d) (w : pW) (f n g m : Int) (hf : 0 ≤ f ∧ f ≤ 400) (hn : 0 ≤ n ∧ n ≤ 40) (hg : 0 ≤ g ∧ g ≤ 400) (hm : 0 ≤ m ∧ m ≤ 40) : Ev d 105 [(0, f), (0, n), (0, g), (0, m)] w (0, two f n g m) w := by
  obtain ⟨d, rfl⟩ : ∃ e, d = e + 1 := ⟨d - 1, by omega⟩
  have q1 := mul_bd hf hm
  have q2 := mul_bd hg hn
  have q3 := sq_bd (x := f * m - g * n) (A := 16000) ⟨by omega, by omega⟩
  have q4 := mul_bd (a := 4 * (f + g)) (A := 3200) ⟨by omega, by omega⟩ hn
  have q5 := mul_bd (A := 128000) ⟨q4.1, by omega⟩ hm
  refine evP (nL := 6) (code := k_X10_areTwo) rfl ⟨Nat.le_refl _, Nat.le_refl _⟩ rfl (fun E hE => ?_)
  show pCm (Ev d) k_X10_areTwo E 0 [(0, f), (0, n), (0, g), (0, m), (9, 0), (9, 0)] [] _
  refine R_iload rfl rfl ?_
  refine R_iload rfl rfl ?_
  refine R_mul rfl (by omega) (by omega) ?_
  refine R_iload rfl rfl ?_
  refine R_iload rfl rfl ?_
  refine R_mul rfl (by omega) (by omega) ?_
  refine R_sub rfl (by omega) (by omega) ?_
  refine R_i2l rfl ?_
  refine R_lstore rfl rfl ?_
  refine R_iload rfl rfl ?_
  refine R_push rfl ?_
  refine R_ic rfl (fun h12 => ?_) (fun h12 => ?_)
  · try simp only [ne_eq, b2i_e, b2i_1, Classical.not_not] at h12
    refine R_push rfl ?_
    refine R_zret rfl (by first | exact Or.inl rfl | exact Or.inr rfl | omega | grind) ?_
    exact hE _ (by
      unfold two
      congr 1
      first | rw [b2i_t (by omega)] | rw [b2i_f (by omega)])
  · try simp only [ne_eq, b2i_e, b2i_1, Classical.not_not] at h12
    refine R_iload rfl rfl ?_
    refine R_push rfl ?_
    refine R_ic rfl (fun h17 => ?_) (fun h17 => ?_)
    · try simp only [ne_eq, b2i_e, b2i_1, Classical.not_not] at h17
      refine R_push rfl ?_
      refine R_zret rfl (by first | exact Or.inl rfl | exact Or.inr rfl | omega | grind) ?_
      exact hE _ (by
        unfold two
        congr 1
        first | rw [b2i_t (by omega)] | rw [b2i_f (by omega)])
    · try simp only [ne_eq, b2i_e, b2i_1, Classical.not_not] at h17
      refine R_lload rfl rfl ?_
      refine R_lload rfl rfl ?_
      refine R_lmul rfl (by omega) (by omega) ?_
      refine R_push rfl ?_
      refine R_iload rfl rfl ?_
      refine R_iload rfl rfl ?_
      refine R_add rfl (by omega) (by omega) ?_
      refine R_i2l rfl ?_
      refine R_lmul rfl (by omega) (by omega) ?_
      refine R_iload rfl rfl ?_
      refine R_i2l rfl ?_
      refine R_lmul rfl (by omega) (by omega) ?_
      refine R_iload rfl rfl ?_
      refine R_i2l rfl ?_
      refine R_lmul rfl (by omega) (by omega) ?_
      refine R_lcmp rfl ?_
      have hl : (0 < pLcmp ((f * m - g * n) * (f * m - g * n)) (4 * (f + g) * n * m)) ↔ 4 * (f + g) * n * m < (f * m - g * n) * (f * m - g * n) := by unfold pLcmp; split <;> (try split) <;> omega
      refine R_if rfl (fun h40 => ?_) (fun h40 => ?_)
      · try simp only [ne_eq, b2i_e, b2i_1, Classical.not_not] at h40
        refine R_push rfl ?_
        refine R_zret rfl (by first | exact Or.inl rfl | exact Or.inr rfl | omega | grind) ?_
        exact hE _ (by
          unfold two
          congr 1
          first | rw [b2i_t (by omega)] | rw [b2i_f (by omega)])
      · try simp only [ne_eq, b2i_e, b2i_1, Classical.not_not] at h40
        refine R_push rfl ?_
        refine R_goto rfl ?_
        refine R_zret rfl (by first | exact Or.inl rfl | exact Or.inr rfl | omega | grind) ?_
        exact hE _ (by
          unfold two
          congr 1
          first | rw [b2i_t (by omega)] | rw [b2i_f (by omega)])
set_option maxRecDepth 20000 in
set_option maxHeartbeats 2000000 in
theorem sp_X3_areTwoHands (d : Nat) (hd : 2 ≤ d) (xs : List (Nat × Nat)) (t dd rr : Nat) (σ : Sg) (a b P : Int) (hP : σ 1 0 = P) (h0 : 0 ≤ P ∧ P ≤ 40) (hfa : ∀ p, 0 ≤ p → p < P → 0 ≤ σ 11 p ∧ σ 11 p ≤ 9) : Ev d 189 [(44, 0), (0, a), (0, b)] (Wd xs t dd rr σ) (0, two (sumZ (fun p => if σ 29 p = a then σ 11 p else 0) P) (sumZ (fun p => b2i (σ 29 p = a ∧ σ 30 p = p)) P) (sumZ (fun p => if σ 29 p = b then σ 11 p else 0) P) (sumZ (fun p => b2i (σ 29 p = b ∧ σ 30 p = p)) P)) (Wd xs t dd rr σ) := by
  obtain ⟨d, rfl⟩ : ∃ e, d = e + 1 := ⟨d - 1, by omega⟩
  have b1 := sumZ_bd (f := fun p => if σ 29 p = a then σ 11 p else 0) (c := 9) h0.1 (fun i i0 i1 => by have := hfa i i0 i1; split <;> omega)
  have b2 := sumZ_bd (f := fun p => if σ 29 p = b then σ 11 p else 0) (c := 9) h0.1 (fun i i0 i1 => by have := hfa i i0 i1; split <;> omega)
  have b3 := sumZ_bd (f := fun p => b2i (σ 29 p = a ∧ σ 30 p = p)) (c := 1) h0.1 (fun _ _ _ => b2i_bd)
  have b4 := sumZ_bd (f := fun p => b2i (σ 29 p = b ∧ σ 30 p = p)) (c := 1) h0.1 (fun _ _ _ => b2i_bd)
  refine evP (nL := 7) (code := k_X3_areTwoHands) rfl pb0 rfl (fun E hE => ?_)
  show pCm (Ev d) k_X3_areTwoHands E 0 [(44, 0), (0, a), (0, b), (9, 0), (9, 0), (9, 0), (9, 0)] [] _
  refine R_aload rfl rfl rfl ?_
  refine R_iload rfl rfl ?_
  refine R_invv rfl rfl rfl rfl rfl rfl (sp_X3_wholesIn d (by omega) xs t dd rr σ a P hP h0) rfl ?_
  show pCm _ _ _ 5 _ [(0, _)] _
  refine R_istore rfl rfl ?_
  refine R_aload rfl rfl rfl ?_
  refine R_iload rfl rfl ?_
  refine R_invv rfl rfl rfl rfl rfl rfl (sp_X3_wholesIn d (by omega) xs t dd rr σ b P hP h0) rfl ?_
  show pCm _ _ _ 11 _ [(0, _)] _
  refine R_istore rfl rfl ?_
  refine R_aload rfl rfl rfl ?_
  refine R_iload rfl rfl ?_
  refine R_invv rfl rfl rfl rfl rfl rfl (sp_X3_faultsIn d (by omega) xs t dd rr σ a P hP h0 hfa) rfl ?_
  show pCm _ _ _ 18 _ [(0, _)] _
  refine R_istore rfl rfl ?_
  refine R_aload rfl rfl rfl ?_
  refine R_iload rfl rfl ?_
  refine R_invv rfl rfl rfl rfl rfl rfl (sp_X3_faultsIn d (by omega) xs t dd rr σ b P hP h0 hfa) rfl ?_
  show pCm _ _ _ 25 _ [(0, _)] _
  refine R_istore rfl rfl ?_
  generalize hfe : sumZ (fun p => if σ 29 p = a then σ 11 p else 0) P = f at *
  generalize hge : sumZ (fun p => if σ 29 p = b then σ 11 p else 0) P = g at *
  generalize hne : sumZ (fun p => b2i (σ 29 p = a ∧ σ 30 p = p)) P = n at *
  generalize hme : sumZ (fun p => b2i (σ 29 p = b ∧ σ 30 p = p)) P = m at *
  have hf : 0 ≤ f ∧ f ≤ 400 := by omega
  have hg : 0 ≤ g ∧ g ≤ 400 := by omega
  have hn : 0 ≤ n ∧ n ≤ 40 := by omega
  have hm : 0 ≤ m ∧ m ≤ 40 := by omega
  have q1 := mul_bd hf hm
  have q2 := mul_bd hg hn
  have q3 := sq_bd (x := f * m - g * n) (A := 16000) ⟨by omega, by omega⟩
  have q4 := mul_bd (a := 4 * (f + g)) (A := 3200) ⟨by omega, by omega⟩ hn
  have q5 := mul_bd (A := 128000) ⟨q4.1, by omega⟩ hm
  refine R_iload rfl rfl ?_
  refine R_push rfl ?_
  refine R_ic rfl (fun h29 => ?_) (fun h29 => ?_)
  · try simp only [ne_eq, b2i_e, b2i_1, Classical.not_not] at h29
    refine R_push rfl ?_
    refine R_zret rfl (by first | exact Or.inl rfl | exact Or.inr rfl | omega | grind) ?_
    exact hE _ (by
      unfold two
      congr 1
      first | rw [b2i_t (by omega)] | rw [b2i_f (by omega)])
  · try simp only [ne_eq, b2i_e, b2i_1, Classical.not_not] at h29
    refine R_iload rfl rfl ?_
    refine R_push rfl ?_
    refine R_ic rfl (fun h35 => ?_) (fun h35 => ?_)
    · try simp only [ne_eq, b2i_e, b2i_1, Classical.not_not] at h35
      refine R_push rfl ?_
      refine R_zret rfl (by first | exact Or.inl rfl | exact Or.inr rfl | omega | grind) ?_
      exact hE _ (by
        unfold two
        congr 1
        first | rw [b2i_t (by omega)] | rw [b2i_f (by omega)])
    · try simp only [ne_eq, b2i_e, b2i_1, Classical.not_not] at h35
      refine R_iload rfl rfl ?_
      refine R_iload rfl rfl ?_
      refine R_iload rfl rfl ?_
      refine R_iload rfl rfl ?_
      refine R_inv rfl rfl rfl rfl rfl (sp_X3_way d (by omega) _ f n g m hf hn hg hm) rfl ?_
      show pCm _ _ _ 48 _ [(1, _)] _
      refine R_push rfl ?_
      refine R_iload rfl rfl ?_
      refine R_iload rfl rfl ?_
      refine R_add rfl (by omega) (by omega) ?_
      refine R_i2l rfl ?_
      refine R_lmul rfl (by omega) (by omega) ?_
      refine R_iload rfl rfl ?_
      refine R_i2l rfl ?_
      refine R_lmul rfl (by omega) (by omega) ?_
      refine R_iload rfl rfl ?_
      refine R_i2l rfl ?_
      refine R_lmul rfl (by omega) (by omega) ?_
      refine R_lcmp rfl ?_
      have hl : (0 < pLcmp ((f * m - g * n) * (f * m - g * n)) (4 * (f + g) * n * m)) ↔ 4 * (f + g) * n * m < (f * m - g * n) * (f * m - g * n) := by unfold pLcmp; split <;> (try split) <;> omega
      refine R_if rfl (fun h66 => ?_) (fun h66 => ?_)
      · try simp only [ne_eq, b2i_e, b2i_1, Classical.not_not] at h66
        refine R_push rfl ?_
        refine R_zret rfl (by first | exact Or.inl rfl | exact Or.inr rfl | omega | grind) ?_
        exact hE _ (by
          unfold two
          congr 1
          first | rw [b2i_t (by omega)] | rw [b2i_f (by omega)])
      · try simp only [ne_eq, b2i_e, b2i_1, Classical.not_not] at h66
        refine R_push rfl ?_
        refine R_goto rfl ?_
        refine R_zret rfl (by first | exact Or.inl rfl | exact Or.inr rfl | omega | grind) ?_
        exact hE _ (by
          unfold two
          congr 1
          first | rw [b2i_t (by omega)] | rw [b2i_f (by omega)])
set_option maxRecDepth 20000 in
set_option maxHeartbeats 2000000 in
theorem sp_X9_hands (d : Nat) (hd : 3 ≤ d) (xs : List (Nat × Nat)) (t dd rr : Nat) (σ : Sg) (a b P : Int) (hP : σ 1 0 = P) (h0 : 0 ≤ P ∧ P ≤ 40) (hfa : ∀ p, 0 ≤ p → p < P → 0 ≤ σ 11 p ∧ σ 11 p ≤ 9) : Ev d 22 [(16, 0), (0, a), (0, b)] (Wd xs t dd rr σ) (0, if ((0 ≤ a ∧ a < P) ∧ (0 ≤ b ∧ b < P)) ∧ σ 29 a ≠ σ 29 b then two (sumZ (fun p => if σ 29 p = σ 29 a then σ 11 p else 0) P) (sumZ (fun p => b2i (σ 29 p = σ 29 a ∧ σ 30 p = p)) P) (sumZ (fun p => if σ 29 p = σ 29 b then σ 11 p else 0) P) (sumZ (fun p => b2i (σ 29 p = σ 29 b ∧ σ 30 p = p)) P) else -1) (Wd xs t dd rr σ) := by
  obtain ⟨d, rfl⟩ : ∃ e, d = e + 1 := ⟨d - 1, by omega⟩
  refine evP (nL := 3) (code := k_X9_hands) rfl pb0 rfl (fun E hE => ?_)
  show pCm (Ev d) k_X9_hands E 0 [(16, 0), (0, a), (0, b)] [] _
  refine R_aload rfl rfl rfl ?_
  refine T_getr (v := 17) rfl rfl rfl rfl ?_
  refine R_iload rfl rfl ?_
  refine R_invv rfl rfl rfl rfl rfl rfl (sp_X6_has d (by omega) xs t dd rr σ a P hP) rfl ?_
  show pCm _ _ _ 8 _ [(0, _)] _
  refine R_if rfl (fun h8 => ?_) (fun h8 => ?_)
  · try simp only [ne_eq, b2i_e, b2i_1, Classical.not_not] at h8
    refine R_push rfl ?_
    refine R_iret rfl ?_
    first
    | exact hE _ (by rw [if_neg (by omega)])
    | exact hE _ (by rw [if_pos (by omega)]; congr 1; omega)
  · try simp only [ne_eq, b2i_e, b2i_1, Classical.not_not] at h8
    refine R_aload rfl rfl rfl ?_
    refine T_getr (v := 17) rfl rfl rfl rfl ?_
    refine R_iload rfl rfl ?_
    refine R_invv rfl rfl rfl rfl rfl rfl (sp_X6_has d (by omega) xs t dd rr σ b P hP) rfl ?_
    show pCm _ _ _ 19 _ [(0, _)] _
    refine R_if rfl (fun h19 => ?_) (fun h19 => ?_)
    · try simp only [ne_eq, b2i_e, b2i_1, Classical.not_not] at h19
      refine R_push rfl ?_
      refine R_iret rfl ?_
      first
      | exact hE _ (by rw [if_neg (by omega)])
      | exact hE _ (by rw [if_pos (by omega)]; congr 1; omega)
    · try simp only [ne_eq, b2i_e, b2i_1, Classical.not_not] at h19
      refine R_aload rfl rfl rfl ?_
      refine T_getr (v := 44) rfl rfl rfl rfl ?_
      refine T_getr (v := 45) rfl rfl rfl rfl ?_
      refine R_iload rfl rfl ?_
      refine T_ald rfl rfl (by omega) (by omega) ?_
      refine R_aload rfl rfl rfl ?_
      refine T_getr (v := 44) rfl rfl rfl rfl ?_
      refine T_getr (v := 45) rfl rfl rfl rfl ?_
      refine R_iload rfl rfl ?_
      refine T_ald rfl rfl (by omega) (by omega) ?_
      refine R_ic rfl (fun h40 => ?_) (fun h40 => ?_)
      · try simp only [ne_eq, b2i_e, b2i_1, Classical.not_not] at h40
        refine R_aload rfl rfl rfl ?_
        refine T_getr (v := 44) rfl rfl rfl rfl ?_
        refine R_aload rfl rfl rfl ?_
        refine T_getr (v := 44) rfl rfl rfl rfl ?_
        refine T_getr (v := 45) rfl rfl rfl rfl ?_
        refine R_iload rfl rfl ?_
        refine T_ald rfl rfl (by omega) (by omega) ?_
        refine R_aload rfl rfl rfl ?_
        refine T_getr (v := 44) rfl rfl rfl rfl ?_
        refine T_getr (v := 45) rfl rfl rfl rfl ?_
        refine R_iload rfl rfl ?_
        refine T_ald rfl rfl (by omega) (by omega) ?_
        have htw := two_bd (f := sumZ (fun p => if σ 29 p = σ 29 a then σ 11 p else 0) P) (n := sumZ (fun p => b2i (σ 29 p = σ 29 a ∧ σ 30 p = p)) P) (g := sumZ (fun p => if σ 29 p = σ 29 b then σ 11 p else 0) P) (m := sumZ (fun p => b2i (σ 29 p = σ 29 b ∧ σ 30 p = p)) P)
        refine R_invv rfl rfl rfl rfl rfl rfl (sp_X3_areTwoHands d (by omega) xs t dd rr σ (σ 29 a) (σ 29 b) P hP h0 hfa) rfl ?_
        show pCm _ _ _ 70 _ [(0, _)] _
        refine R_if rfl (fun h70 => ?_) (fun h70 => ?_)
        · try simp only [ne_eq, b2i_e, b2i_1, Classical.not_not] at h70
          refine R_push rfl ?_
          refine R_iret rfl ?_
          first
          | exact hE _ (by rw [if_neg (by omega)])
          | exact hE _ (by rw [if_pos (by omega)]; congr 1; omega)
        · try simp only [ne_eq, b2i_e, b2i_1, Classical.not_not] at h70
          refine R_push rfl ?_
          refine R_goto rfl ?_
          refine R_iret rfl ?_
          first
          | exact hE _ (by rw [if_neg (by omega)])
          | exact hE _ (by rw [if_pos (by omega)]; congr 1; omega)
      · try simp only [ne_eq, b2i_e, b2i_1, Classical.not_not] at h40
        refine R_push rfl ?_
        refine R_iret rfl ?_
        first
        | exact hE _ (by rw [if_neg (by omega)])
        | exact hE _ (by rw [if_pos (by omega)]; congr 1; omega)
set_option maxRecDepth 20000 in
set_option maxHeartbeats 2000000 in
theorem sp_X10_hands (d : Nat) (hd : 4 ≤ d) (xs : List (Nat × Nat)) (t dd rr : Nat) (σ : Sg) (a b : Int) (P J : Int) (hM : MB σ P J) (hfa : ∀ p, 0 ≤ p → p < P → 0 ≤ σ 97 p ∧ σ 97 p ≤ 9) : ∃ σ', Ev d 107 [(87, 0), (0, a), (0, b)] (Wd xs t dd rr σ) (0, if ((0 ≤ a ∧ a < P) ∧ (0 ≤ b ∧ b < P)) ∧ cobM σ P J a ≠ cobM σ P J b then two (sumZ (fun p => if cobM σ P J p = cobM σ P J a then σ 97 p else 0) P) (sumZ (fun p => b2i (cobM σ P J p = cobM σ P J a ∧ whoM σ P J p = p)) P) (sumZ (fun p => if cobM σ P J p = cobM σ P J b then σ 97 p else 0) P) (sumZ (fun p => b2i (cobM σ P J p = cobM σ P J b ∧ whoM σ P J p = p)) P) else -1) (Wd xs t dd rr σ') ∧ Fr [107, 111, 112] [(71, 0)] σ σ' := by
  obtain ⟨d, rfl⟩ : ∃ e, d = e + 1 := ⟨d - 1, by omega⟩
  have hM0 := hM
  obtain ⟨h26, h43, hP0, hJ0, hAB⟩ := hM
  have hPJ : 0 ≤ P ∧ P ≤ 40 ∧ 0 ≤ J ∧ J ≤ 80 := ⟨hP0.1, hP0.2, hJ0.1, hJ0.2⟩
  clear hP0 hJ0
  refine evS (nL := 5) (code := k_X10_hands) rfl dc_X10_hands rfl (fun E hE => ?_)
  show pCm (Ev d) k_X10_hands E 0 [(87, 0), (0, a), (0, b), (9, 0), (9, 0)] [] _
  refine R_aload rfl rfl rfl ?_
  refine R_push rfl ?_
  refine T_puti rfl rfl rfl ?_
  generalize hs1 : up2 σ 71 0 0 = s1
  have hF1 : Fr [] [(71, 0)] σ s1 := by rw [← hs1]; exact Fr.rf.up rfl
  clear hs1
  have e26 := hF1.at 71 26 rfl
  have e43 := hF1.at 71 43 rfl
  refine R_aload rfl rfl rfl ?_
  refine R_iload rfl rfl ?_
  refine R_invv rfl rfl rfl rfl rfl rfl (sp_X10_isPiece d (by omega) xs t dd rr s1 a P (by omega)) rfl ?_
  show pCm _ _ _ 10 _ [(0, _)] _
  refine R_if rfl (fun h10 => ?_) (fun h10 => ?_)
  · try simp only [ne_eq, b2i_e, b2i_1, Classical.not_not] at h10
    refine R_push rfl ?_
    refine R_iret rfl ?_
    exact hE _ _ (by rw [if_neg (by omega)]) (hF1.tr (r2 := []) (s2 := []) Fr.rf rfl rfl)
  · try simp only [ne_eq, b2i_e, b2i_1, Classical.not_not] at h10
    refine R_aload rfl rfl rfl ?_
    refine R_iload rfl rfl ?_
    refine R_invv rfl rfl rfl rfl rfl rfl (sp_X10_isPiece d (by omega) xs t dd rr s1 b P (by omega)) rfl ?_
    show pCm _ _ _ 18 _ [(0, _)] _
    refine R_if rfl (fun h18 => ?_) (fun h18 => ?_)
    · try simp only [ne_eq, b2i_e, b2i_1, Classical.not_not] at h18
      refine R_aload rfl rfl rfl ?_
      obtain ⟨s2, hev, hFh, hc⟩ := sp_X10_findHeaps d (by omega) xs t dd rr s1 P J (MB_fr hM0 e26 e43 (hF1.fn 102 rfl) (hF1.fn 103 rfl))
      rw [cobM_fr (hF1.fn 106 rfl) (hF1.fn 102 rfl) (hF1.fn 103 rfl), whoM_fr (hF1.fn 99 rfl) (hF1.fn 106 rfl) (hF1.fn 102 rfl) (hF1.fn 103 rfl)] at hc
      have hF2 := hF1.tr (r3 := [107, 111, 112]) (s3 := [(71, 0)]) hFh rfl rfl
      have g26 := hF2.at 71 26 rfl
      have h97 : ∀ p, 0 ≤ p → p < P → 0 ≤ s2 97 p ∧ s2 97 p ≤ 9 := fun p p0 p1 => by rw [hF2.at 97 p rfl]; exact hfa p p0 p1
      have af : sumZ (fun p => if s2 111 p = cobM σ P J a then s2 97 p else 0) P = sumZ (fun p => if cobM σ P J p = cobM σ P J a then σ 97 p else 0) P := sumZ_congr (fun i i0 i1 => by rw [(hc i i0 i1).1, hF2.at 97 i rfl])
      have aw : sumZ (fun p => b2i (s2 111 p = cobM σ P J a ∧ s2 112 p = p)) P = sumZ (fun p => b2i (cobM σ P J p = cobM σ P J a ∧ whoM σ P J p = p)) P := sumZ_congr (fun i i0 i1 => by rw [(hc i i0 i1).1, (hc i i0 i1).2])
      have bf : sumZ (fun p => if s2 111 p = cobM σ P J b then s2 97 p else 0) P = sumZ (fun p => if cobM σ P J p = cobM σ P J b then σ 97 p else 0) P := sumZ_congr (fun i i0 i1 => by rw [(hc i i0 i1).1, hF2.at 97 i rfl])
      have bw : sumZ (fun p => b2i (s2 111 p = cobM σ P J b ∧ s2 112 p = p)) P = sumZ (fun p => b2i (cobM σ P J p = cobM σ P J b ∧ whoM σ P J p = p)) P := sumZ_congr (fun i i0 i1 => by rw [(hc i i0 i1).1, (hc i i0 i1).2])
      have a1 := sumZ_bd (f := fun p => if cobM σ P J p = cobM σ P J a then σ 97 p else 0) (c := 9) hPJ.1 (fun i i0 i1 => by have := hfa i i0 i1; split <;> omega)
      have a2 := sumZ_bd (f := fun p => b2i (cobM σ P J p = cobM σ P J a ∧ whoM σ P J p = p)) (c := 1) hPJ.1 (fun _ _ _ => b2i_bd)
      have b1 := sumZ_bd (f := fun p => if cobM σ P J p = cobM σ P J b then σ 97 p else 0) (c := 9) hPJ.1 (fun i i0 i1 => by have := hfa i i0 i1; split <;> omega)
      have b2 := sumZ_bd (f := fun p => b2i (cobM σ P J p = cobM σ P J b ∧ whoM σ P J p = p)) (c := 1) hPJ.1 (fun _ _ _ => b2i_bd)
      have htw := two_bd (f := sumZ (fun p => if cobM σ P J p = cobM σ P J a then σ 97 p else 0) P) (n := sumZ (fun p => b2i (cobM σ P J p = cobM σ P J a ∧ whoM σ P J p = p)) P) (g := sumZ (fun p => if cobM σ P J p = cobM σ P J b then σ 97 p else 0) P) (m := sumZ (fun p => b2i (cobM σ P J p = cobM σ P J b ∧ whoM σ P J p = p)) P)
      refine R_invv rfl rfl rfl rfl rfl rfl (hev) rfl ?_
      show pCm _ _ _ 27 _ [] _
      have ca := (hc a (by omega) (by omega)).1
      have cb := (hc b (by omega) (by omega)).1
      refine R_aload rfl rfl rfl ?_
      refine T_getr (v := 127) rfl rfl rfl rfl ?_
      refine R_iload rfl rfl ?_
      refine T_ald rfl rfl (by omega) (by omega) ?_
      rw [ca]
      refine R_istore rfl rfl ?_
      refine R_aload rfl rfl rfl ?_
      refine T_getr (v := 127) rfl rfl rfl rfl ?_
      refine R_iload rfl rfl ?_
      refine T_ald rfl rfl (by omega) (by omega) ?_
      rw [cb]
      refine R_istore rfl rfl ?_
      refine R_iload rfl rfl ?_
      refine R_iload rfl rfl ?_
      refine R_ic rfl (fun h45 => ?_) (fun h45 => ?_)
      · try simp only [ne_eq, b2i_e, b2i_1, Classical.not_not] at h45
        refine R_aload rfl rfl rfl ?_
        refine R_iload rfl rfl ?_
        refine R_invv rfl rfl rfl rfl rfl rfl (sp_X10_faultsOf d (by omega) xs t dd rr s2 _ P (by omega) ⟨hPJ.1, hPJ.2.1⟩ h97) rfl ?_
        show pCm _ _ _ 57 _ [(0, _)] _
        rw [af]
        refine R_aload rfl rfl rfl ?_
        refine R_iload rfl rfl ?_
        refine R_invv rfl rfl rfl rfl rfl rfl (sp_X10_wholesOf d (by omega) xs t dd rr s2 _ P (by omega) ⟨hPJ.1, hPJ.2.1⟩) rfl ?_
        show pCm _ _ _ 62 _ [(0, _), (0, _)] _
        rw [aw]
        refine R_aload rfl rfl rfl ?_
        refine R_iload rfl rfl ?_
        refine R_invv rfl rfl rfl rfl rfl rfl (sp_X10_faultsOf d (by omega) xs t dd rr s2 _ P (by omega) ⟨hPJ.1, hPJ.2.1⟩ h97) rfl ?_
        show pCm _ _ _ 68 _ [(0, _), (0, _), (0, _)] _
        rw [bf]
        refine R_aload rfl rfl rfl ?_
        refine R_iload rfl rfl ?_
        refine R_invv rfl rfl rfl rfl rfl rfl (sp_X10_wholesOf d (by omega) xs t dd rr s2 _ P (by omega) ⟨hPJ.1, hPJ.2.1⟩) rfl ?_
        show pCm _ _ _ 74 _ [(0, _), (0, _), (0, _), (0, _)] _
        rw [bw]
        refine R_inv rfl rfl rfl rfl rfl (sp_X10_areTwo d (by omega) _ _ _ _ _ (by omega) (by omega) (by omega) (by omega)) rfl ?_
        show pCm _ _ _ 77 _ [(0, _)] _
        refine R_if rfl (fun h77 => ?_) (fun h77 => ?_)
        · try simp only [ne_eq, b2i_e, b2i_1, Classical.not_not] at h77
          refine R_push rfl ?_
          refine R_iret rfl ?_
          first
          | exact hE _ _ (by rw [if_neg (by omega)]) hF2
          | exact hE _ _ (by rw [if_pos (by omega)]; congr 1; omega) hF2
        · try simp only [ne_eq, b2i_e, b2i_1, Classical.not_not] at h77
          refine R_push rfl ?_
          refine R_goto rfl ?_
          refine R_iret rfl ?_
          first
          | exact hE _ _ (by rw [if_neg (by omega)]) hF2
          | exact hE _ _ (by rw [if_pos (by omega)]; congr 1; omega) hF2
      · try simp only [ne_eq, b2i_e, b2i_1, Classical.not_not] at h45
        refine R_push rfl ?_
        refine R_goto rfl ?_
        refine R_iret rfl ?_
        first
        | exact hE _ _ (by rw [if_neg (by omega)]) hF2
        | exact hE _ _ (by rw [if_pos (by omega)]; congr 1; omega) hF2
    · try simp only [ne_eq, b2i_e, b2i_1, Classical.not_not] at h18
      refine R_push rfl ?_
      refine R_iret rfl ?_
      exact hE _ _ (by rw [if_neg (by omega)]) (hF1.tr (r2 := []) (s2 := []) Fr.rf rfl rfl)

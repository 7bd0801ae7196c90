-- the members of texts
theorem k3 {k : Int} (h : 0 ≤ k ∧ k < 3) : k = 0 ∨ k = 1 ∨ k = 2 := by omega
theorem sLn_b {k : Int} (h : 0 ≤ k ∧ k < 3) : 0 < sLn k ∧ sLn k ≤ 100 := by rcases k3 h with rfl | rfl | rfl <;> decide +kernel
theorem sShr {k : Int} (h : 0 ≤ k ∧ k < 3) : pShr (sLn k) 0 = sLn k := by rcases k3 h with rfl | rfl | rfl <;> decide +kernel
theorem sBt_fin : ∀ k : Fin 3, ∀ i : Fin 100, (i.val : Int) < sLn (k.val : Int) → 1 ≤ sBt (k.val : Int) (i.val : Int) ∧ sBt (k.val : Int) (i.val : Int) ≤ 127 := by decide +kernel
theorem sBt_b {k i : Int} (h : 0 ≤ k ∧ k < 3) (h0 : 0 ≤ i) (h1 : i < sLn k) : 1 ≤ sBt k i ∧ sBt k i ≤ 127 := by
  have hb := sLn_b h
  have := sBt_fin ⟨k.toNat, by omega⟩ ⟨i.toNat, by omega⟩
  dsimp only at this
  rw [Int.toNat_of_nonneg h.1, Int.toNat_of_nonneg h0] at this
  exact this h1
theorem bc_fin : ∀ x : Fin 128, pI2c (x.val : Int) = (x.val : Int) ∧ pI2b (x.val : Int) = (x.val : Int) := by decide +kernel
theorem bc_of {x : Int} (h0 : 0 ≤ x) (h1 : x ≤ 127) : pI2c x = x ∧ pI2b x = x := by
  have h := bc_fin ⟨x.toNat, by omega⟩
  dsimp only at h
  rw [Int.toNat_of_nonneg h0] at h
  exact h
theorem fnd_is {r : Int → Int} {v n i : Int} (h0 : 0 ≤ i) (h1 : i < n) (hv : r i = v) (hn : ∀ j, 0 ≤ j → j < i → r j ≠ v) : fnd r v n = i := by
  rcases fnd_bd (r := r) (v := v) (n := n) (by omega) with q | q
  · exact absurd hv (q.2 i h0 h1)
  · by_cases a : fnd r v n < i
    · exact absurd q.2.2.1 (hn _ q.1 a)
    · by_cases b : i < fnd r v n
      · exact absurd hv (q.2.2.2 i h0 b)
      · omega
theorem fnd_no {r : Int → Int} {v n : Int} (h0 : 0 ≤ n) (hn : ∀ j, 0 ≤ j → j < n → r j ≠ v) : fnd r v n = -1 := by
  rcases fnd_bd (r := r) (v := v) (n := n) h0 with q | q
  · exact q.1
  · exact absurd q.2.2.1 (hn _ q.1 q.2.1)
set_option maxRecDepth 20000 in
set_option maxHeartbeats 2000000 in
theorem sp_J0_coder_7d493 (d : Nat) (hd : 1 ≤ d) (w : pW) (k : Int) (hk : 0 ≤ k ∧ k < 3)  : Ev d 248 [(5, k)] w (0, 0) w := by
  obtain ⟨d, rfl⟩ : ∃ e, d = e + 1 := ⟨d - 1, by omega⟩
  refine evP (nL := 1) (code := k_J0_coder_7d493) rfl ⟨Nat.le_refl _, Nat.le_refl _⟩ rfl (fun E hE => ?_)
  show pCm (Ev d) k_J0_coder_7d493 E 0 [(5, k)] [] _
  refine R_push rfl ?_
  refine R_if rfl (fun h3 => absurd h3 (by omega)) (fun _ => ?_)
  refine R_aload rfl rfl rfl ?_
  refine R_scod rfl (by omega) (by omega) ?_
  refine R_goto rfl ?_
  refine R_nret rfl (by omega) (by omega) ?_
  exact hE _ rfl
set_option maxRecDepth 20000 in
set_option maxHeartbeats 2000000 in
theorem sp_J0_length_8abf5 (d : Nat) (hd : 2 ≤ d) (w : pW) (k : Int) (hk : 0 ≤ k ∧ k < 3)  : Ev d 247 [(5, k)] w (0, sLn k) w := by
  obtain ⟨d, rfl⟩ : ∃ e, d = e + 1 := ⟨d - 1, by omega⟩
  refine evP (nL := 1) (code := k_J0_length_8abf5) rfl ⟨Nat.le_refl _, Nat.le_refl _⟩ rfl (fun E hE => ?_)
  show pCm (Ev d) k_J0_length_8abf5 E 0 [(5, k)] [] _
  refine R_aload rfl rfl rfl ?_
  refine R_sval rfl (by omega) (by omega) ?_
  refine R_slen rfl (by omega) (by omega) ?_
  refine R_aload rfl rfl rfl ?_
  refine R_invS rfl rfl rfl rfl rfl (by omega) (by omega) (sp_J0_coder_7d493 d (by omega) w k hk) rfl ?_
  show pCm _ _ _ 9 _ [(0, _), (0, _)] _
  refine R_bin rfl ?_
  refine R_iret rfl ?_
  exact hE _ (by rw [sShr hk])
set_option maxRecDepth 20000 in
set_option maxHeartbeats 2000000 in
theorem sp_J0_isLatin1_aae02 (d : Nat) (hd : 1 ≤ d) (w : pW) (k : Int) (hk : 0 ≤ k ∧ k < 3)  : Ev d 250 [(5, k)] w (0, 1) w := by
  obtain ⟨d, rfl⟩ : ∃ e, d = e + 1 := ⟨d - 1, by omega⟩
  refine evP (nL := 1) (code := k_J0_isLatin1_aae02) rfl ⟨Nat.le_refl _, Nat.le_refl _⟩ rfl (fun E hE => ?_)
  show pCm (Ev d) k_J0_isLatin1_aae02 E 0 [(5, k)] [] _
  refine R_push rfl ?_
  refine R_if rfl (fun h3 => absurd h3 (by omega)) (fun _ => ?_)
  refine R_aload rfl rfl rfl ?_
  refine R_scod rfl (by omega) (by omega) ?_
  refine R_if rfl (fun h10 => absurd h10 (by omega)) (fun _ => ?_)
  refine R_push rfl ?_
  refine R_goto rfl ?_
  refine R_zret rfl (by first | exact Or.inl rfl | exact Or.inr rfl | omega | (unfold b2i; split <;> simp; done) | grind) ?_
  exact hE _ rfl
set_option maxRecDepth 20000 in
set_option maxHeartbeats 2000000 in
theorem sp_J3_checkIndex_2 (d : Nat) (hd : 1 ≤ d) (w : pW) (i n : Int) (g0 : 0 ≤ i) (g1 : i < n)  : Ev d 258 [(0, i), (0, n), (2, 0)] w (0, i) w := by
  obtain ⟨d, rfl⟩ : ∃ e, d = e + 1 := ⟨d - 1, by omega⟩
  refine evP (nL := 3) (code := k_J3_checkIndex_8e157) rfl ⟨Nat.le_refl _, Nat.le_refl _⟩ rfl (fun E hE => ?_)
  show pCm (Ev d) k_J3_checkIndex_8e157 E 0 [(0, i), (0, n), (2, 0)] [] _
  refine R_iload rfl rfl ?_
  refine R_if rfl (fun h1 => absurd h1 (by omega)) (fun _ => ?_)
  refine R_iload rfl rfl ?_
  refine R_iload rfl rfl ?_
  refine R_ic rfl (fun _ => ?_) (fun h6 => absurd (by omega) h6)
  refine R_iload rfl rfl ?_
  refine R_iret rfl ?_
  exact hE _ rfl
set_option maxRecDepth 20000 in
set_option maxHeartbeats 2000000 in
theorem sp_J3_checkIndex_4 (d : Nat) (hd : 1 ≤ d) (w : pW) (i n : Int) (g0 : 0 ≤ i) (g1 : i < n)  : Ev d 258 [(0, i), (0, n), (4, 0)] w (0, i) w := by
  obtain ⟨d, rfl⟩ : ∃ e, d = e + 1 := ⟨d - 1, by omega⟩
  refine evP (nL := 3) (code := k_J3_checkIndex_8e157) rfl ⟨Nat.le_refl _, Nat.le_refl _⟩ rfl (fun E hE => ?_)
  show pCm (Ev d) k_J3_checkIndex_8e157 E 0 [(0, i), (0, n), (4, 0)] [] _
  refine R_iload rfl rfl ?_
  refine R_if rfl (fun h1 => absurd h1 (by omega)) (fun _ => ?_)
  refine R_iload rfl rfl ?_
  refine R_iload rfl rfl ?_
  refine R_ic rfl (fun _ => ?_) (fun h6 => absurd (by omega) h6)
  refine R_iload rfl rfl ?_
  refine R_iret rfl ?_
  exact hE _ rfl
theorem sp_J0_checkIndex_df160 (d : Nat) (hd : 2 ≤ d) (w : pW) (i n : Int) (g0 : 0 ≤ i) (g1 : i < n) : Ev d 253 [(0, i), (0, n)] w (8, 0) w := by
  obtain ⟨d, rfl⟩ : ∃ e, d = e + 1 := ⟨d - 1, by omega⟩
  refine evP (nL := 2) (code := k_J0_checkIndex_df160) rfl ⟨Nat.le_refl _, Nat.le_refl _⟩ rfl (fun E hE => ?_)
  show pCm (Ev d) k_J0_checkIndex_df160 E 0 [(0, i), (0, n)] [] _
  refine R_iload rfl rfl ?_
  refine R_iload rfl rfl ?_
  refine R_gq rfl ?_ ?_
  · refine R_inv rfl rfl rfl rfl rfl (sp_J3_checkIndex_2 d (by omega) w i n g0 g1) rfl ?_
    show pCm _ _ _ 8 _ [(0, _)] _
    refine R_pop rfl rfl ?_
    refine R_vret rfl ?_
    exact hE _ rfl
  · refine R_inv rfl rfl rfl rfl rfl (sp_J3_checkIndex_4 d (by omega) w i n g0 g1) rfl ?_
    show pCm _ _ _ 8 _ [(0, _)] _
    refine R_pop rfl rfl ?_
    refine R_vret rfl ?_
    exact hE _ rfl
set_option maxRecDepth 20000 in
set_option maxHeartbeats 2000000 in
theorem sp_J1_charAt_3b067 (d : Nat) (hd : 3 ≤ d) (w : pW) (k i : Int) (hk : 0 ≤ k ∧ k < 3) (g0 : 0 ≤ i) (g1 : i < sLn k)  : Ev d 254 [(6, k), (0, i)] w (0, sBt k i) w := by
  obtain ⟨d, rfl⟩ : ∃ e, d = e + 1 := ⟨d - 1, by omega⟩
  have hb := sBt_b hk g0 g1
  have hc := bc_of (x := sBt k i) (by omega) (by omega)
  have ha : pAnd (sBt k i) 255 = sBt k i := by rw [pAnd255]; omega
  refine evP (nL := 2) (code := k_J1_charAt_3b067) rfl ⟨Nat.le_refl _, Nat.le_refl _⟩ rfl (fun E hE => ?_)
  show pCm (Ev d) k_J1_charAt_3b067 E 0 [(6, k), (0, i)] [] _
  refine R_iload rfl rfl ?_
  refine R_aload rfl rfl rfl ?_
  refine R_slen rfl (by omega) (by omega) ?_
  refine R_inv rfl rfl rfl rfl rfl (sp_J0_checkIndex_df160 d (by omega) w i (sLn k) g0 g1) rfl ?_
  show pCm _ _ _ 6 _ [] _
  refine R_aload rfl rfl rfl ?_
  refine R_iload rfl rfl ?_
  refine R_sbl rfl (by omega) (by omega) (by omega) (by omega) ?_
  refine R_push rfl ?_
  refine R_bin rfl ?_
  rw [ha]
  refine R_i2c rfl ?_
  rw [hc.1]
  refine R_nret rfl (by omega) (by omega) ?_
  exact hE _ rfl
set_option maxRecDepth 20000 in
set_option maxHeartbeats 2000000 in
theorem sp_J0_charAt_5068e (d : Nat) (hd : 4 ≤ d) (w : pW) (k i : Int) (hk : 0 ≤ k ∧ k < 3) (g0 : 0 ≤ i) (g1 : i < sLn k)  : Ev d 249 [(5, k), (0, i)] w (0, sBt k i) w := by
  obtain ⟨d, rfl⟩ : ∃ e, d = e + 1 := ⟨d - 1, by omega⟩
  have hb := sBt_b hk g0 g1
  refine evP (nL := 2) (code := k_J0_charAt_5068e) rfl ⟨Nat.le_refl _, Nat.le_refl _⟩ rfl (fun E hE => ?_)
  show pCm (Ev d) k_J0_charAt_5068e E 0 [(5, k), (0, i)] [] _
  refine R_aload rfl rfl rfl ?_
  refine R_invS rfl rfl rfl rfl rfl (by omega) (by omega) (sp_J0_isLatin1_aae02 d (by omega) w k hk) rfl ?_
  show pCm _ _ _ 4 _ [(0, _)] _
  refine R_if rfl (fun h4 => absurd h4 (by omega)) (fun _ => ?_)
  refine R_aload rfl rfl rfl ?_
  refine R_sval rfl (by omega) (by omega) ?_
  refine R_iload rfl rfl ?_
  refine R_inv rfl rfl rfl rfl rfl (sp_J1_charAt_3b067 d (by omega) w k i hk g0 g1) rfl ?_
  show pCm _ _ _ 15 _ [(0, _)] _
  refine R_nret rfl (by omega) (by omega) ?_
  exact hE _ rfl
set_option maxRecDepth 20000 in
set_option maxHeartbeats 2000000 in
theorem sp_J1_canEncode_9a6ad (d : Nat) (hd : 1 ≤ d) (w : pW) (c : Int) (g0 : 0 ≤ c) (g1 : c ≤ 127)  : Ev d 255 [(0, c)] w (0, 1) w := by
  obtain ⟨d, rfl⟩ : ∃ e, d = e + 1 := ⟨d - 1, by omega⟩
  refine evP (nL := 1) (code := k_J1_canEncode_9a6ad) rfl ⟨Nat.le_refl _, Nat.le_refl _⟩ rfl (fun E hE => ?_)
  show pCm (Ev d) k_J1_canEncode_9a6ad E 0 [(0, c)] [] _
  refine R_iload rfl rfl ?_
  refine R_if rfl (fun h1 => absurd h1 (by omega)) (fun _ => ?_)
  refine R_iload rfl rfl ?_
  refine R_push rfl ?_
  refine R_ic rfl (fun h8 => absurd h8 (by omega)) (fun _ => ?_)
  refine R_push rfl ?_
  refine R_goto rfl ?_
  refine R_zret rfl (by first | exact Or.inl rfl | exact Or.inr rfl | omega | (unfold b2i; split <;> simp; done) | grind) ?_
  exact hE _ rfl
set_option maxRecDepth 20000 in
set_option maxHeartbeats 2000000 in
theorem sp_J1_indexOfChar_4cfef (d : Nat) (hd : 1 ≤ d) (w : pW) (k c : Int) (hk : 0 ≤ k ∧ k < 3) (g0 : 0 ≤ c) (g1 : c ≤ 127)  : Ev d 257 [(6, k), (0, c), (0, 0), (0, sLn k)] w (0, fnd (sBt k) c (sLn k)) w := by
  obtain ⟨d, rfl⟩ : ∃ e, d = e + 1 := ⟨d - 1, by omega⟩
  have hb := sLn_b hk
  have hc := bc_of g0 g1
  refine evP (nL := 6) (code := k_J1_indexOfChar_4cfef) rfl ⟨Nat.le_refl _, Nat.le_refl _⟩ rfl (fun E hE => ?_)
  show pCm (Ev d) k_J1_indexOfChar_4cfef E 0 [(6, k), (0, c), (0, 0), (0, sLn k), (9, 0), (9, 0)] [] _
  refine R_iload rfl rfl ?_
  refine R_i2b rfl ?_
  rw [hc.2]
  refine R_istore rfl rfl ?_
  refine R_iload rfl rfl ?_
  refine R_istore rfl rfl ?_
  refine loop (pc := 7) (α := Int) (fun x => (sLn k - x).toNat) (fun x => ([(6, k), (0, c), (0, 0), (0, sLn k), (0, c), (0, x)], w)) (fun x => (0 ≤ x ∧ x ≤ sLn k) ∧ ∀ j, 0 ≤ j → j < x → sBt k j ≠ c) ?_ 0 ?_
  · intro i ⟨hi, hj⟩ ih
    dsimp only at hi hj ⊢
    refine R_iload rfl rfl ?_
    refine R_iload rfl rfl ?_
    refine R_ic rfl (fun h10 => ?_) (fun h10 => ?_)
    · try simp only [ne_eq, b2i_e, b2i_1, Classical.not_not] at h10
      refine R_push rfl ?_
      refine R_iret rfl ?_
      exact hE _ (by rw [fnd_no (by omega) (fun j j0 j1 => hj j j0 (by omega))])
    · try simp only [ne_eq, b2i_e, b2i_1, Classical.not_not] at h10
      refine R_aload rfl rfl rfl ?_
      refine R_iload rfl rfl ?_
      refine R_sbl rfl (by omega) (by omega) (by omega) (by omega) ?_
      refine R_iload rfl rfl ?_
      refine R_ic rfl (fun h19 => ?_) (fun h19 => ?_)
      · try simp only [ne_eq, b2i_e, b2i_1, Classical.not_not] at h19
        refine R_inc rfl rfl (by omega) (by omega) ?_
        refine R_goto rfl ?_
        refine ih (i + 1) ⟨by omega, fun j j0 j1 => ?_⟩ (by omega)
        by_cases z : j = i
        · rw [z]; first | exact h19 | exact fun y => h19 y.symm | (intro y; omega)
        · exact hj j j0 (by omega)
      · try simp only [ne_eq, b2i_e, b2i_1, Classical.not_not] at h19
        refine R_iload rfl rfl ?_
        refine R_iret rfl ?_
        exact hE _ (by rw [fnd_is hi.1 (by omega) (by omega) hj])
  · exact ⟨⟨Int.le_refl _, by omega⟩, fun j j0 j1 => by omega⟩
set_option maxRecDepth 20000 in
set_option maxHeartbeats 2000000 in
theorem sp_J1_indexOf_4cfef (d : Nat) (hd : 2 ≤ d) (w : pW) (k c : Int) (hk : 0 ≤ k ∧ k < 3) (g0 : 0 ≤ c) (g1 : c ≤ 127)  : Ev d 256 [(6, k), (0, c), (0, 0), (0, sLn k)] w (0, fnd (sBt k) c (sLn k)) w := by
  obtain ⟨d, rfl⟩ : ∃ e, d = e + 1 := ⟨d - 1, by omega⟩
  have hb := sLn_b hk
  have e1 : max (0 : Int) 0 = 0 := by omega
  have e2 : min (sLn k) (sLn k) = sLn k := by omega
  refine evP (nL := 4) (code := k_J1_indexOf_4cfef) rfl ⟨Nat.le_refl _, Nat.le_refl _⟩ rfl (fun E hE => ?_)
  show pCm (Ev d) k_J1_indexOf_4cfef E 0 [(6, k), (0, c), (0, 0), (0, sLn k)] [] _
  refine R_iload rfl rfl ?_
  refine R_inv rfl rfl rfl rfl rfl (sp_J1_canEncode_9a6ad d (by omega) w c g0 g1) rfl ?_
  show pCm _ _ _ 4 _ [(0, _)] _
  refine R_if rfl (fun _ => ?_) (fun h4 => absurd (by omega) h4)
  refine R_iload rfl rfl ?_
  refine R_push rfl ?_
  refine R_inv rfl rfl rfl rfl rfl (sp_J9_max_7cf53 d (by omega) w 0 0) rfl ?_
  show pCm _ _ _ 14 _ [(0, _)] _
  rw [e1]
  refine R_istore rfl rfl ?_
  refine R_iload rfl rfl ?_
  refine R_aload rfl rfl rfl ?_
  refine R_slen rfl (by omega) (by omega) ?_
  refine R_inv rfl rfl rfl rfl rfl (sp_J9_min_7cf53 d (by omega) w (sLn k) (sLn k)) rfl ?_
  show pCm _ _ _ 21 _ [(0, _)] _
  rw [e2]
  refine R_istore rfl rfl ?_
  refine R_iload rfl rfl ?_
  refine R_iload rfl rfl ?_
  refine R_ic rfl (fun _ => ?_) (fun h24 => absurd (by omega) h24)
  refine R_aload rfl rfl rfl ?_
  refine R_iload rfl rfl ?_
  refine R_iload rfl rfl ?_
  refine R_iload rfl rfl ?_
  refine R_inv rfl rfl rfl rfl rfl (sp_J1_indexOfChar_4cfef d (by omega) w k c hk g0 g1) rfl ?_
  show pCm _ _ _ 36 _ [(0, _)] _
  refine R_iret rfl ?_
  exact hE _ rfl
set_option maxRecDepth 20000 in
set_option maxHeartbeats 2000000 in
theorem sp_J0_indexOf_7cf53 (d : Nat) (hd : 3 ≤ d) (w : pW) (k c : Int) (hk : 0 ≤ k ∧ k < 3) (g0 : 0 ≤ c) (g1 : c ≤ 127)  : Ev d 252 [(5, k), (0, c), (0, 0)] w (0, fnd (sBt k) c (sLn k)) w := by
  obtain ⟨d, rfl⟩ : ∃ e, d = e + 1 := ⟨d - 1, by omega⟩
  have hb := sLn_b hk
  refine evP (nL := 3) (code := k_J0_indexOf_7cf53) rfl ⟨Nat.le_refl _, Nat.le_refl _⟩ rfl (fun E hE => ?_)
  show pCm (Ev d) k_J0_indexOf_7cf53 E 0 [(5, k), (0, c), (0, 0)] [] _
  refine R_aload rfl rfl rfl ?_
  refine R_invS rfl rfl rfl rfl rfl (by omega) (by omega) (sp_J0_isLatin1_aae02 d (by omega) w k hk) rfl ?_
  show pCm _ _ _ 4 _ [(0, _)] _
  refine R_if rfl (fun h4 => absurd h4 (by omega)) (fun _ => ?_)
  refine R_aload rfl rfl rfl ?_
  refine R_sval rfl (by omega) (by omega) ?_
  refine R_iload rfl rfl ?_
  refine R_iload rfl rfl ?_
  refine R_aload rfl rfl rfl ?_
  refine R_invS rfl rfl rfl rfl rfl (by omega) (by omega) (sp_J0_length_8abf5 d (by omega) w k hk) rfl ?_
  show pCm _ _ _ 17 _ [(0, _), (0, _), (0, _), (6, _)] _
  refine R_inv rfl rfl rfl rfl rfl (sp_J1_indexOf_4cfef d (by omega) w k c hk g0 g1) rfl ?_
  show pCm _ _ _ 20 _ [(0, _)] _
  refine R_goto rfl ?_
  refine R_iret rfl ?_
  exact hE _ rfl
set_option maxRecDepth 20000 in
set_option maxHeartbeats 2000000 in
theorem sp_J0_indexOf_0f7a4 (d : Nat) (hd : 4 ≤ d) (w : pW) (k c : Int) (hk : 0 ≤ k ∧ k < 3) (g0 : 0 ≤ c) (g1 : c ≤ 127)  : Ev d 251 [(5, k), (0, c)] w (0, fnd (sBt k) c (sLn k)) w := by
  obtain ⟨d, rfl⟩ : ∃ e, d = e + 1 := ⟨d - 1, by omega⟩
  refine evP (nL := 2) (code := k_J0_indexOf_0f7a4) rfl ⟨Nat.le_refl _, Nat.le_refl _⟩ rfl (fun E hE => ?_)
  show pCm (Ev d) k_J0_indexOf_0f7a4 E 0 [(5, k), (0, c)] [] _
  refine R_aload rfl rfl rfl ?_
  refine R_iload rfl rfl ?_
  refine R_push rfl ?_
  refine R_invS rfl rfl rfl rfl rfl (by omega) (by omega) (sp_J0_indexOf_7cf53 d (by omega) w k c hk g0 g1) rfl ?_
  show pCm _ _ _ 6 _ [(0, _)] _
  refine R_iret rfl ?_
  exact hE _ rfl
theorem sig_t : sLn 2 = 8 ∧ sBt 2 0 = 40 ∧ sBt 2 1 = 41 ∧ sBt 2 2 = 60 ∧ sBt 2 3 = 61 ∧ sBt 2 4 = 43 ∧ sBt 2 5 = 45 ∧ sBt 2 6 = 42 ∧ sBt 2 7 = 59 := by decide +kernel
/-- a sign is one of the text's -/
theorem sig_e {x : Int} : 0 ≤ fnd (sBt 2) x (sLn 2) ↔ isG x = 1 := by
  obtain ⟨e, t0, t1, t2, t3, t4, t5, t6, t7⟩ := sig_t
  rw [e]
  have hg : isG x = 1 ↔ (x = 40 ∨ x = 41 ∨ x = 59 ∨ x = 61 ∨ x = 60 ∨ x = 43 ∨ x = 45 ∨ x = 42) := by unfold isG b2i; split <;> simp_all
  rw [hg]
  rcases fnd_bd (r := sBt 2) (v := x) (n := 8) (by omega) with q | q
  · have h0 := q.2 0 (by omega) (by omega)
    have h1 := q.2 1 (by omega) (by omega)
    have h2 := q.2 2 (by omega) (by omega)
    have h3 := q.2 3 (by omega) (by omega)
    have h4 := q.2 4 (by omega) (by omega)
    have h5 := q.2 5 (by omega) (by omega)
    have h6 := q.2 6 (by omega) (by omega)
    have h7 := q.2 7 (by omega) (by omega)
    constructor
    · intro z; omega
    · intro z; omega
  · refine ⟨fun _ => ?_, fun _ => q.1⟩
    have h := q.2.2.1
    have hc : fnd (sBt 2) x 8 = 0 ∨ fnd (sBt 2) x 8 = 1 ∨ fnd (sBt 2) x 8 = 2 ∨ fnd (sBt 2) x 8 = 3 ∨ fnd (sBt 2) x 8 = 4 ∨ fnd (sBt 2) x 8 = 5 ∨ fnd (sBt 2) x 8 = 6 ∨ fnd (sBt 2) x 8 = 7 := by omega
    rcases hc with z | z | z | z | z | z | z | z <;> rw [z] at h <;> omega

/-- what the part words are worth of a piece, and of a meeting -/
def kPc (co gr sp bu sz : Int → Int) (p i : Int) : Int := if i = 7 then co p else if i = 8 then gr p else if i = 9 then sp p else if i = 10 then bu p else if i = 11 then sz p else 0
def kMt (so sz X Y ly bu co gr sp : Int → Int) (a b gap i : Int) : Int :=
  if i = 0 then gap
  else if i = 1 then (if (if so a = 3 then sz (a / 8) < sz (b / 8) else so a = 1) then sz (a / 8) else sz (b / 8))
  else if i = 2 then (if (if so a = 3 then sz (a / 8) < sz (b / 8) else so a = 1) then sz (b / 8) else sz (a / 8))
  else if i = 3 then max (dst (X (a / 8)) (X (b / 8))) (dst (Y (a / 8)) (Y (b / 8)))
  else if i = 4 then dst (ly (a / 8)) (ly (b / 8))
  else if i = 5 then bu (a / 8) + bu (b / 8)
  else if i = 6 then b2i (so a = 3)
  else if i = 7 then dst (co (a / 8)) (co (b / 8))
  else if i = 8 then dst (gr (a / 8)) (gr (b / 8))
  else if i = 9 then dst (sp (a / 8)) (sp (b / 8))
  else if i = 10 then bu (a / 8) + bu (b / 8)
  else dst (sz (a / 8)) (sz (b / 8))
set_option maxRecDepth 20000 in
set_option maxHeartbeats 2000000 in
theorem sp_X5_sortsMeet (d : Nat) (hd : 1 ≤ d) (w : pW) (a b : Int) : Ev d 202 [(0, a), (0, b)] w (0, b2i (a = 0 ∧ b = 1 ∨ a = 1 ∧ b = 0 ∨ a = 3 ∧ b = 3)) w := by
  obtain ⟨d, rfl⟩ : ∃ e, d = e + 1 := ⟨d - 1, by omega⟩
  refine evP (nL := 2) (code := k_X5_sortsMeet) rfl ⟨Nat.le_refl _, Nat.le_refl _⟩ rfl (fun E hE => ?_)
  show pCm (Ev d) k_X5_sortsMeet E 0 [(0, a), (0, b)] [] _
  refine R_iload rfl rfl ?_
  refine R_if rfl (fun h1 => ?_) (fun h1 => ?_)
  · try simp only [ne_eq, b2i_e, b2i_1, Classical.not_not] at h1
    refine R_iload rfl rfl ?_
    refine R_push rfl ?_
    refine R_ic rfl (fun h11 => ?_) (fun h11 => ?_)
    · try simp only [ne_eq, b2i_e, b2i_1, Classical.not_not] at h11
      refine R_iload rfl rfl ?_
      refine R_push rfl ?_
      refine R_ic rfl (fun h20 => ?_) (fun h20 => ?_)
      · try simp only [ne_eq, b2i_e, b2i_1, Classical.not_not] at h20
        refine R_push rfl ?_
        refine R_zret rfl (by first | exact Or.inl rfl | exact Or.inr rfl | omega | grind) ?_
        exact hE _ (by first | (exfalso; omega) | rfl | (congr 1; first | rw [b2i_t (by omega)] | rw [b2i_f (by omega)]))
      · try simp only [ne_eq, b2i_e, b2i_1, Classical.not_not] at h20
        refine R_iload rfl rfl ?_
        refine R_push rfl ?_
        refine R_ic rfl (fun h25 => ?_) (fun h25 => ?_)
        · try simp only [ne_eq, b2i_e, b2i_1, Classical.not_not] at h25
          refine R_push rfl ?_
          refine R_zret rfl (by first | exact Or.inl rfl | exact Or.inr rfl | omega | grind) ?_
          exact hE _ (by first | (exfalso; omega) | rfl | (congr 1; first | rw [b2i_t (by omega)] | rw [b2i_f (by omega)]))
        · try simp only [ne_eq, b2i_e, b2i_1, Classical.not_not] at h25
          refine R_push rfl ?_
          refine R_goto rfl ?_
          refine R_zret rfl (by first | exact Or.inl rfl | exact Or.inr rfl | omega | grind) ?_
          exact hE _ (by first | (exfalso; omega) | rfl | (congr 1; first | rw [b2i_t (by omega)] | rw [b2i_f (by omega)]))
    · try simp only [ne_eq, b2i_e, b2i_1, Classical.not_not] at h11
      refine R_iload rfl rfl ?_
      refine R_if rfl (fun h15 => ?_) (fun h15 => ?_)
      · try simp only [ne_eq, b2i_e, b2i_1, Classical.not_not] at h15
        refine R_push rfl ?_
        refine R_goto rfl ?_
        refine R_zret rfl (by first | exact Or.inl rfl | exact Or.inr rfl | omega | grind) ?_
        exact hE _ (by first | (exfalso; omega) | rfl | (congr 1; first | rw [b2i_t (by omega)] | rw [b2i_f (by omega)]))
      · try simp only [ne_eq, b2i_e, b2i_1, Classical.not_not] at h15
        refine R_iload rfl rfl ?_
        refine R_push rfl ?_
        refine R_ic rfl (fun h20 => ?_) (fun h20 => ?_)
        · try simp only [ne_eq, b2i_e, b2i_1, Classical.not_not] at h20
          refine R_push rfl ?_
          refine R_zret rfl (by first | exact Or.inl rfl | exact Or.inr rfl | omega | grind) ?_
          exact hE _ (by first | (exfalso; omega) | rfl | (congr 1; first | rw [b2i_t (by omega)] | rw [b2i_f (by omega)]))
        · try simp only [ne_eq, b2i_e, b2i_1, Classical.not_not] at h20
          refine R_iload rfl rfl ?_
          refine R_push rfl ?_
          refine R_ic rfl (fun h25 => ?_) (fun h25 => ?_)
          · try simp only [ne_eq, b2i_e, b2i_1, Classical.not_not] at h25
            refine R_push rfl ?_
            refine R_zret rfl (by first | exact Or.inl rfl | exact Or.inr rfl | omega | grind) ?_
            exact hE _ (by first | (exfalso; omega) | rfl | (congr 1; first | rw [b2i_t (by omega)] | rw [b2i_f (by omega)]))
          · try simp only [ne_eq, b2i_e, b2i_1, Classical.not_not] at h25
            refine R_push rfl ?_
            refine R_goto rfl ?_
            refine R_zret rfl (by first | exact Or.inl rfl | exact Or.inr rfl | omega | grind) ?_
            exact hE _ (by first | (exfalso; omega) | rfl | (congr 1; first | rw [b2i_t (by omega)] | rw [b2i_f (by omega)]))
  · try simp only [ne_eq, b2i_e, b2i_1, Classical.not_not] at h1
    refine R_iload rfl rfl ?_
    refine R_push rfl ?_
    refine R_ic rfl (fun h6 => ?_) (fun h6 => ?_)
    · try simp only [ne_eq, b2i_e, b2i_1, Classical.not_not] at h6
      refine R_push rfl ?_
      refine R_goto rfl ?_
      refine R_zret rfl (by first | exact Or.inl rfl | exact Or.inr rfl | omega | grind) ?_
      exact hE _ (by first | (exfalso; omega) | rfl | (congr 1; first | rw [b2i_t (by omega)] | rw [b2i_f (by omega)]))
    · try simp only [ne_eq, b2i_e, b2i_1, Classical.not_not] at h6
      refine R_iload rfl rfl ?_
      refine R_push rfl ?_
      refine R_ic rfl (fun h11 => ?_) (fun h11 => ?_)
      · try simp only [ne_eq, b2i_e, b2i_1, Classical.not_not] at h11
        refine R_iload rfl rfl ?_
        refine R_push rfl ?_
        refine R_ic rfl (fun h20 => ?_) (fun h20 => ?_)
        · try simp only [ne_eq, b2i_e, b2i_1, Classical.not_not] at h20
          refine R_push rfl ?_
          refine R_zret rfl (by first | exact Or.inl rfl | exact Or.inr rfl | omega | grind) ?_
          exact hE _ (by first | (exfalso; omega) | rfl | (congr 1; first | rw [b2i_t (by omega)] | rw [b2i_f (by omega)]))
        · try simp only [ne_eq, b2i_e, b2i_1, Classical.not_not] at h20
          refine R_iload rfl rfl ?_
          refine R_push rfl ?_
          refine R_ic rfl (fun h25 => ?_) (fun h25 => ?_)
          · try simp only [ne_eq, b2i_e, b2i_1, Classical.not_not] at h25
            refine R_push rfl ?_
            refine R_zret rfl (by first | exact Or.inl rfl | exact Or.inr rfl | omega | grind) ?_
            exact hE _ (by first | (exfalso; omega) | rfl | (congr 1; first | rw [b2i_t (by omega)] | rw [b2i_f (by omega)]))
          · try simp only [ne_eq, b2i_e, b2i_1, Classical.not_not] at h25
            refine R_push rfl ?_
            refine R_goto rfl ?_
            refine R_zret rfl (by first | exact Or.inl rfl | exact Or.inr rfl | omega | grind) ?_
            exact hE _ (by first | (exfalso; omega) | rfl | (congr 1; first | rw [b2i_t (by omega)] | rw [b2i_f (by omega)]))
      · try simp only [ne_eq, b2i_e, b2i_1, Classical.not_not] at h11
        refine R_iload rfl rfl ?_
        refine R_if rfl (fun h15 => ?_) (fun h15 => ?_)
        · try simp only [ne_eq, b2i_e, b2i_1, Classical.not_not] at h15
          refine R_push rfl ?_
          refine R_goto rfl ?_
          refine R_zret rfl (by first | exact Or.inl rfl | exact Or.inr rfl | omega | grind) ?_
          exact hE _ (by first | (exfalso; omega) | rfl | (congr 1; first | rw [b2i_t (by omega)] | rw [b2i_f (by omega)]))
        · try simp only [ne_eq, b2i_e, b2i_1, Classical.not_not] at h15
          refine R_iload rfl rfl ?_
          refine R_push rfl ?_
          refine R_ic rfl (fun h20 => ?_) (fun h20 => ?_)
          · try simp only [ne_eq, b2i_e, b2i_1, Classical.not_not] at h20
            refine R_push rfl ?_
            refine R_zret rfl (by first | exact Or.inl rfl | exact Or.inr rfl | omega | grind) ?_
            exact hE _ (by first | (exfalso; omega) | rfl | (congr 1; first | rw [b2i_t (by omega)] | rw [b2i_f (by omega)]))
          · try simp only [ne_eq, b2i_e, b2i_1, Classical.not_not] at h20
            refine R_iload rfl rfl ?_
            refine R_push rfl ?_
            refine R_ic rfl (fun h25 => ?_) (fun h25 => ?_)
            · try simp only [ne_eq, b2i_e, b2i_1, Classical.not_not] at h25
              refine R_push rfl ?_
              refine R_zret rfl (by first | exact Or.inl rfl | exact Or.inr rfl | omega | grind) ?_
              exact hE _ (by first | (exfalso; omega) | rfl | (congr 1; first | rw [b2i_t (by omega)] | rw [b2i_f (by omega)]))
            · try simp only [ne_eq, b2i_e, b2i_1, Classical.not_not] at h25
              refine R_push rfl ?_
              refine R_goto rfl ?_
              refine R_zret rfl (by first | exact Or.inl rfl | exact Or.inr rfl | omega | grind) ?_
              exact hE _ (by first | (exfalso; omega) | rfl | (congr 1; first | rw [b2i_t (by omega)] | rw [b2i_f (by omega)]))
set_option maxRecDepth 20000 in
set_option maxHeartbeats 2000000 in
theorem sp_X5_stonesMeet (d : Nat) (hd : 1 ≤ d) (w : pW) (a b : Int) : Ev d 203 [(0, a), (0, b)] w (0, b2i (a = b ∨ a = -1 ∨ b = -1)) w := by
  obtain ⟨d, rfl⟩ : ∃ e, d = e + 1 := ⟨d - 1, by omega⟩
  refine evP (nL := 2) (code := k_X5_stonesMeet) rfl ⟨Nat.le_refl _, Nat.le_refl _⟩ rfl (fun E hE => ?_)
  show pCm (Ev d) k_X5_stonesMeet E 0 [(0, a), (0, b)] [] _
  refine R_iload rfl rfl ?_
  refine R_iload rfl rfl ?_
  refine R_ic rfl (fun h2 => ?_) (fun h2 => ?_)
  · try simp only [ne_eq, b2i_e, b2i_1, Classical.not_not] at h2
    refine R_push rfl ?_
    refine R_goto rfl ?_
    refine R_zret rfl (by first | exact Or.inl rfl | exact Or.inr rfl | omega | grind) ?_
    exact hE _ (by first | (exfalso; omega) | rfl | (congr 1; first | rw [b2i_t (by omega)] | rw [b2i_f (by omega)]))
  · try simp only [ne_eq, b2i_e, b2i_1, Classical.not_not] at h2
    refine R_iload rfl rfl ?_
    refine R_push rfl ?_
    refine R_ic rfl (fun h7 => ?_) (fun h7 => ?_)
    · try simp only [ne_eq, b2i_e, b2i_1, Classical.not_not] at h7
      refine R_push rfl ?_
      refine R_goto rfl ?_
      refine R_zret rfl (by first | exact Or.inl rfl | exact Or.inr rfl | omega | grind) ?_
      exact hE _ (by first | (exfalso; omega) | rfl | (congr 1; first | rw [b2i_t (by omega)] | rw [b2i_f (by omega)]))
    · try simp only [ne_eq, b2i_e, b2i_1, Classical.not_not] at h7
      refine R_iload rfl rfl ?_
      refine R_push rfl ?_
      refine R_ic rfl (fun h12 => ?_) (fun h12 => ?_)
      · try simp only [ne_eq, b2i_e, b2i_1, Classical.not_not] at h12
        refine R_push rfl ?_
        refine R_zret rfl (by first | exact Or.inl rfl | exact Or.inr rfl | omega | grind) ?_
        exact hE _ (by first | (exfalso; omega) | rfl | (congr 1; first | rw [b2i_t (by omega)] | rw [b2i_f (by omega)]))
      · try simp only [ne_eq, b2i_e, b2i_1, Classical.not_not] at h12
        refine R_push rfl ?_
        refine R_goto rfl ?_
        refine R_zret rfl (by first | exact Or.inl rfl | exact Or.inr rfl | omega | grind) ?_
        exact hE _ (by first | (exfalso; omega) | rfl | (congr 1; first | rw [b2i_t (by omega)] | rw [b2i_f (by omega)]))
set_option maxRecDepth 20000 in
set_option maxHeartbeats 2000000 in
theorem sp_X5_tellSizes (d : Nat) (hd : 1 ≤ d) (xs : List (Nat × Nat)) (t dd rr : Nat) (σ : Sg) (s p q : Int) : Ev d 208 [(52, 0), (0, s), (0, p), (0, q)] (Wd xs t dd rr σ) (8, 0) (Wd xs t dd rr (up2 (up2 σ 51 1 (if (if s = 3 then p < q else s = 1) then p else q)) 51 2 (if (if s = 3 then p < q else s = 1) then q else p))) := by
  obtain ⟨d, rfl⟩ : ∃ e, d = e + 1 := ⟨d - 1, by omega⟩
  refine evP (nL := 5) (code := k_X5_tellSizes) rfl pb0 rfl (fun E hE => ?_)
  show pCm (Ev d) k_X5_tellSizes E 0 [(52, 0), (0, s), (0, p), (0, q), (9, 0)] [] _
  have J28 : ∀ v : Int, v = b2i (s = 3 ∧ p < q ∨ s ≠ 3 ∧ s = 1) → pCm (Ev d) k_X5_tellSizes E 28 [(52, 0), (0, s), (0, p), (0, q), (9, 0)] [(0, v)] (Wd xs t dd rr σ) := by
    intro v hv
    have hv : v = 1 ∧ (s = 3 ∧ p < q ∨ s ≠ 3 ∧ s = 1) ∨ v = 0 ∧ ¬ (s = 3 ∧ p < q ∨ s ≠ 3 ∧ s = 1) := by
      rw [hv]; unfold b2i; split <;> omega
    refine R_istore rfl rfl ?_
    have J45 : ∀ u : Int, u = (if (if s = 3 then p < q else s = 1) then p else q) → pCm (Ev d) k_X5_tellSizes E 45 [(52, 0), (0, s), (0, p), (0, q), (0, v)] [(0, u), (0, 1), (67, 0)] (Wd xs t dd rr σ) := by
      intro u hu
      rw [hu]
      refine T_iast rfl rfl (by omega) (by omega) ?_
      have J61 : ∀ u : Int, u = (if (if s = 3 then p < q else s = 1) then q else p) → pCm (Ev d) k_X5_tellSizes E 61 [(52, 0), (0, s), (0, p), (0, q), (0, v)] [(0, u), (0, 2), (67, 0)] (Wd xs t dd rr (up2 σ 51 1 (if (if s = 3 then p < q else s = 1) then p else q))) := by
        intro u hu2
        rw [hu2]
        refine T_iast rfl rfl (by omega) (by omega) ?_
        refine R_vret rfl ?_
        exact hE _ rfl
      refine R_aload rfl rfl rfl ?_
      refine T_getr (v := 67) rfl rfl rfl rfl ?_
      refine R_push rfl ?_
      refine R_iload rfl rfl ?_
      refine R_if rfl (fun h53 => ?_) (fun h53 => ?_)
      · try simp only [ne_eq, b2i_e, b2i_1, Classical.not_not] at h53
        refine R_iload rfl rfl ?_
        exact J61 _ (by repeat' split <;> omega)
      · try simp only [ne_eq, b2i_e, b2i_1, Classical.not_not] at h53
        refine R_iload rfl rfl ?_
        refine R_goto rfl ?_
        exact J61 _ (by repeat' split <;> omega)
    refine R_aload rfl rfl rfl ?_
    refine T_getr (v := 67) rfl rfl rfl rfl ?_
    refine R_push rfl ?_
    refine R_iload rfl rfl ?_
    refine R_if rfl (fun h37 => ?_) (fun h37 => ?_)
    · try simp only [ne_eq, b2i_e, b2i_1, Classical.not_not] at h37
      refine R_iload rfl rfl ?_
      exact J45 _ (by repeat' split <;> omega)
    · try simp only [ne_eq, b2i_e, b2i_1, Classical.not_not] at h37
      refine R_iload rfl rfl ?_
      refine R_goto rfl ?_
      exact J45 _ (by repeat' split <;> omega)
  refine R_iload rfl rfl ?_
  refine R_push rfl ?_
  refine R_ic rfl (fun h2 => ?_) (fun h2 => ?_)
  · try simp only [ne_eq, b2i_e, b2i_1, Classical.not_not] at h2
    refine R_iload rfl rfl ?_
    refine R_push rfl ?_
    refine R_ic rfl (fun h20 => ?_) (fun h20 => ?_)
    · try simp only [ne_eq, b2i_e, b2i_1, Classical.not_not] at h20
      refine R_push rfl ?_
      exact J28 _ (by first | rw [b2i_t (by omega)] | rw [b2i_f (by omega)])
    · try simp only [ne_eq, b2i_e, b2i_1, Classical.not_not] at h20
      refine R_push rfl ?_
      refine R_goto rfl ?_
      exact J28 _ (by first | rw [b2i_t (by omega)] | rw [b2i_f (by omega)])
  · try simp only [ne_eq, b2i_e, b2i_1, Classical.not_not] at h2
    refine R_iload rfl rfl ?_
    refine R_iload rfl rfl ?_
    refine R_ic rfl (fun h7 => ?_) (fun h7 => ?_)
    · try simp only [ne_eq, b2i_e, b2i_1, Classical.not_not] at h7
      refine R_push rfl ?_
      refine R_goto rfl ?_
      exact J28 _ (by first | rw [b2i_t (by omega)] | rw [b2i_f (by omega)])
    · try simp only [ne_eq, b2i_e, b2i_1, Classical.not_not] at h7
      refine R_push rfl ?_
      refine R_goto rfl ?_
      exact J28 _ (by first | rw [b2i_t (by omega)] | rw [b2i_f (by omega)])
set_option maxRecDepth 20000 in
set_option maxHeartbeats 2000000 in
theorem sp_X5_tellPiece (d : Nat) (hd : 1 ≤ d) (xs : List (Nat × Nat)) (t dd rr : Nat) (σ : Sg) (p : Int) (hp : 0 ≤ p ∧ p < 40) : ∃ σ', Ev d 206 [(52, 0), (0, p)] (Wd xs t dd rr σ) (8, 0) (Wd xs t dd rr σ') ∧ Fr [51] [] σ σ' ∧ ∀ i, 0 ≤ i → i < 12 → σ' 51 i = kPc (σ 7) (σ 8) (σ 9) (σ 10) (σ 3) p i := by
  obtain ⟨d, rfl⟩ : ∃ e, d = e + 1 := ⟨d - 1, by omega⟩
  refine evS (nL := 3) (code := k_X5_tellPiece) rfl dc_X5_tellPiece rfl (fun E hE => ?_)
  show pCm (Ev d) k_X5_tellPiece E 0 [(52, 0), (0, p), (9, 0)] [] _
  refine R_push rfl ?_
  refine R_istore rfl rfl ?_
  refine loop (pc := 2) (α := Int × Sg) (fun x => (12 - x.1).toNat) (fun x => ([(52, 0), (0, p), (0, x.1)], Wd xs t dd rr x.2)) (fun x => (0 ≤ x.1 ∧ x.1 ≤ 12) ∧ Fr [51] [] σ x.2 ∧ ∀ i, 0 ≤ i → i < x.1 → x.2 51 i = 0) ?_ (0, σ) ?_
  · intro ⟨k, s0⟩ ⟨hk, F0, hv⟩ ih
    dsimp only at hk F0 hv ⊢
    refine R_iload rfl rfl ?_
    refine R_push rfl ?_
    refine R_ic rfl (fun h5 => ?_) (fun h5 => ?_)
    · try simp only [ne_eq, b2i_e, b2i_1, Classical.not_not] at h5
      refine R_aload rfl rfl rfl ?_
      refine T_getr (v := 67) rfl rfl rfl rfl ?_
      refine R_push rfl ?_
      refine R_aload rfl rfl rfl ?_
      refine T_getr (v := 17) rfl rfl rfl rfl ?_
      refine T_getr (v := 23) rfl rfl rfl rfl ?_
      refine R_iload rfl rfl ?_
      refine T_ald rfl rfl (by omega) (by omega) ?_
      rw [F0.row 7 rfl]
      refine T_iast rfl rfl (by omega) (by omega) ?_
      generalize hs1 : up2 s0 51 _ _ = s1
      have F1 : Fr [51] [] σ s1 := by rw [← hs1]; exact F0.upr rfl
      refine R_aload rfl rfl rfl ?_
      refine T_getr (v := 67) rfl rfl rfl rfl ?_
      refine R_push rfl ?_
      refine R_aload rfl rfl rfl ?_
      refine T_getr (v := 17) rfl rfl rfl rfl ?_
      refine T_getr (v := 24) rfl rfl rfl rfl ?_
      refine R_iload rfl rfl ?_
      refine T_ald rfl rfl (by omega) (by omega) ?_
      rw [F1.row 8 rfl]
      refine T_iast rfl rfl (by omega) (by omega) ?_
      generalize hs2 : up2 s1 51 _ _ = s2
      have F2 : Fr [51] [] σ s2 := by rw [← hs2]; exact F1.upr rfl
      refine R_aload rfl rfl rfl ?_
      refine T_getr (v := 67) rfl rfl rfl rfl ?_
      refine R_push rfl ?_
      refine R_aload rfl rfl rfl ?_
      refine T_getr (v := 17) rfl rfl rfl rfl ?_
      refine T_getr (v := 25) rfl rfl rfl rfl ?_
      refine R_iload rfl rfl ?_
      refine T_ald rfl rfl (by omega) (by omega) ?_
      rw [F2.row 9 rfl]
      refine T_iast rfl rfl (by omega) (by omega) ?_
      generalize hs3 : up2 s2 51 _ _ = s3
      have F3 : Fr [51] [] σ s3 := by rw [← hs3]; exact F2.upr rfl
      refine R_aload rfl rfl rfl ?_
      refine T_getr (v := 67) rfl rfl rfl rfl ?_
      refine R_push rfl ?_
      refine R_aload rfl rfl rfl ?_
      refine T_getr (v := 17) rfl rfl rfl rfl ?_
      refine T_getr (v := 26) rfl rfl rfl rfl ?_
      refine R_iload rfl rfl ?_
      refine T_ald rfl rfl (by omega) (by omega) ?_
      rw [F3.row 10 rfl]
      refine T_iast rfl rfl (by omega) (by omega) ?_
      generalize hs4 : up2 s3 51 _ _ = s4
      have F4 : Fr [51] [] σ s4 := by rw [← hs4]; exact F3.upr rfl
      refine R_aload rfl rfl rfl ?_
      refine T_getr (v := 67) rfl rfl rfl rfl ?_
      refine R_push rfl ?_
      refine R_aload rfl rfl rfl ?_
      refine T_getr (v := 17) rfl rfl rfl rfl ?_
      refine T_getr (v := 19) rfl rfl rfl rfl ?_
      refine R_iload rfl rfl ?_
      refine T_ald rfl rfl (by omega) (by omega) ?_
      rw [F4.row 3 rfl]
      refine T_iast rfl rfl (by omega) (by omega) ?_
      generalize hs5 : up2 s4 51 _ _ = s5
      have F5 : Fr [51] [] σ s5 := by rw [← hs5]; exact F4.upr rfl
      refine R_vret rfl ?_
      refine hE _ _ rfl ⟨F5, fun i i0 i1 => ?_⟩
      have z := hv i i0 (by omega)
      rw [← hs5, ← hs4, ← hs3, ← hs2, ← hs1]
      unfold kPc
      simp only [up2, true_and]
      repeat' split
      all_goals first | rfl | omega | exact z
    · try simp only [ne_eq, b2i_e, b2i_1, Classical.not_not] at h5
      refine R_aload rfl rfl rfl ?_
      refine T_getr (v := 67) rfl rfl rfl rfl ?_
      refine R_iload rfl rfl ?_
      refine R_push rfl ?_
      refine T_iast rfl rfl (by omega) (by omega) ?_
      refine R_inc rfl rfl (by omega) (by omega) ?_
      refine R_goto rfl ?_
      generalize hs3 : up2 s0 51 k _ = s3
      refine ih (k + 1, s3) ⟨by dsimp only; omega, by rw [← hs3]; exact F0.upr rfl, fun i i0 i1 => ?_⟩ (by dsimp only; omega)
      dsimp only at i1 ⊢
      rw [← hs3]
      by_cases q : i = k
      · rw [q, up_s]
      · rw [up_i q]; exact hv i i0 (by omega)
  · exact ⟨by dsimp only; omega, Fr.rf, fun i i0 i1 => by dsimp only at i1; omega⟩
/-- the class's pieces are in their bounds -/
def PBs (σ : Sg) (P : Int) : Prop := ∀ p, 0 ≤ p → p < P → (1 ≤ σ 3 p ∧ σ 3 p ≤ 200) ∧ (0 ≤ σ 4 p ∧ σ 4 p ≤ 999) ∧ (0 ≤ σ 5 p ∧ σ 5 p ≤ 999) ∧ (0 ≤ σ 6 p ∧ σ 6 p ≤ 4) ∧ (0 ≤ σ 7 p ∧ σ 7 p ≤ 99) ∧ (0 ≤ σ 8 p ∧ σ 8 p ≤ 99) ∧ (0 ≤ σ 9 p ∧ σ 9 p ≤ 9) ∧ (0 ≤ σ 10 p ∧ σ 10 p ≤ 1) ∧ (0 ≤ σ 11 p ∧ σ 11 p ≤ 9)
set_option maxRecDepth 20000 in
set_option maxHeartbeats 2000000 in
theorem sp_X5_tellMeeting (d : Nat) (hd : 2 ≤ d) (xs : List (Nat × Nat)) (t dd rr : Nat) (σ : Sg) (a b gap P : Int) (h0 : P ≤ 40) (hB : PBs σ P) (ha : 0 ≤ a ∧ a / 8 < P) (hb : 0 ≤ b ∧ b / 8 < P) : ∃ σ', Ev d 207 [(52, 0), (0, a), (0, b), (0, gap)] (Wd xs t dd rr σ) (8, 0) (Wd xs t dd rr σ') ∧ Fr [51] [] σ σ' ∧ ∀ i, 0 ≤ i → i < 12 → σ' 51 i = kMt (σ 14) (σ 3) (σ 4) (σ 5) (σ 6) (σ 10) (σ 7) (σ 8) (σ 9) a b gap i := by
  obtain ⟨d, rfl⟩ : ∃ e, d = e + 1 := ⟨d - 1, by omega⟩
  have F0 : Fr [51] [] σ σ := Fr.rf
  have ba := hB (a / 8) (by omega) ha.2
  have bb := hB (b / 8) (by omega) hb.2
  refine evS (nL := 6) (code := k_X5_tellMeeting) rfl dc_X5_tellMeeting rfl (fun E hE => ?_)
  show pCm (Ev d) k_X5_tellMeeting E 0 [(52, 0), (0, a), (0, b), (0, gap), (9, 0), (9, 0)] [] _
  refine R_iload rfl rfl ?_
  refine R_push rfl ?_
  refine R_dv rfl (by omega) (by omega) (by omega) ?_
  refine R_istore rfl rfl ?_
  refine R_iload rfl rfl ?_
  refine R_push rfl ?_
  refine R_dv rfl (by omega) (by omega) (by omega) ?_
  refine R_istore rfl rfl ?_
  refine R_aload rfl rfl rfl ?_
  refine T_getr (v := 67) rfl rfl rfl rfl ?_
  refine R_push rfl ?_
  refine R_iload rfl rfl ?_
  refine T_iast rfl rfl (by omega) (by omega) ?_
  generalize hs1 : up2 σ 51 _ _ = s1
  have F1 : Fr [51] [] σ s1 := by rw [← hs1]; exact F0.upr rfl
  refine R_aload rfl rfl rfl ?_
  refine T_getr (v := 67) rfl rfl rfl rfl ?_
  refine R_push rfl ?_
  refine R_aload rfl rfl rfl ?_
  refine T_getr (v := 17) rfl rfl rfl rfl ?_
  refine T_getr (v := 20) rfl rfl rfl rfl ?_
  refine R_iload rfl rfl ?_
  refine T_ald rfl rfl (by omega) (by omega) ?_
  rw [F1.row 4 rfl]
  refine R_aload rfl rfl rfl ?_
  refine T_getr (v := 17) rfl rfl rfl rfl ?_
  refine T_getr (v := 20) rfl rfl rfl rfl ?_
  refine R_iload rfl rfl ?_
  refine T_ald rfl rfl (by omega) (by omega) ?_
  rw [F1.row 4 rfl]
  refine R_inv rfl rfl rfl rfl rfl (sp_X9_apart d (by omega) _ _ _ ⟨by omega, by omega⟩ ⟨by omega, by omega⟩) rfl ?_
  show pCm _ _ _ 47 _ [(0, _), (0, _), (67, 0)] _
  show pCm _ _ _ _ _ ((0, dst _ _) :: _) _
  refine R_aload rfl rfl rfl ?_
  refine T_getr (v := 17) rfl rfl rfl rfl ?_
  refine T_getr (v := 21) rfl rfl rfl rfl ?_
  refine R_iload rfl rfl ?_
  refine T_ald rfl rfl (by omega) (by omega) ?_
  rw [F1.row 5 rfl]
  refine R_aload rfl rfl rfl ?_
  refine T_getr (v := 17) rfl rfl rfl rfl ?_
  refine T_getr (v := 21) rfl rfl rfl rfl ?_
  refine R_iload rfl rfl ?_
  refine T_ald rfl rfl (by omega) (by omega) ?_
  rw [F1.row 5 rfl]
  refine R_inv rfl rfl rfl rfl rfl (sp_X9_apart d (by omega) _ _ _ ⟨by omega, by omega⟩ ⟨by omega, by omega⟩) rfl ?_
  show pCm _ _ _ 70 _ [(0, _), (0, _), (0, _), (67, 0)] _
  show pCm _ _ _ _ _ ((0, dst _ _) :: _) _
  refine R_inv rfl rfl rfl rfl rfl (sp_J9_max_7cf53 d (by omega) _ _ _) rfl ?_
  show pCm _ _ _ 73 _ [(0, _), (0, _), (67, 0)] _
  refine T_iast rfl rfl (by omega) (by omega) ?_
  generalize hs2 : up2 s1 51 _ _ = s2
  have F2 : Fr [51] [] σ s2 := by rw [← hs2]; exact F1.upr rfl
  refine R_aload rfl rfl rfl ?_
  refine T_getr (v := 67) rfl rfl rfl rfl ?_
  refine R_push rfl ?_
  refine R_aload rfl rfl rfl ?_
  refine T_getr (v := 17) rfl rfl rfl rfl ?_
  refine T_getr (v := 22) rfl rfl rfl rfl ?_
  refine R_iload rfl rfl ?_
  refine T_ald rfl rfl (by omega) (by omega) ?_
  rw [F2.row 6 rfl]
  refine R_aload rfl rfl rfl ?_
  refine T_getr (v := 17) rfl rfl rfl rfl ?_
  refine T_getr (v := 22) rfl rfl rfl rfl ?_
  refine R_iload rfl rfl ?_
  refine T_ald rfl rfl (by omega) (by omega) ?_
  rw [F2.row 6 rfl]
  refine R_inv rfl rfl rfl rfl rfl (sp_X9_apart d (by omega) _ _ _ ⟨by omega, by omega⟩ ⟨by omega, by omega⟩) rfl ?_
  show pCm _ _ _ 102 _ [(0, _), (0, _), (67, 0)] _
  show pCm _ _ _ _ _ ((0, dst _ _) :: _) _
  refine T_iast rfl rfl (by omega) (by omega) ?_
  generalize hs3 : up2 s2 51 _ _ = s3
  have F3 : Fr [51] [] σ s3 := by rw [← hs3]; exact F2.upr rfl
  refine R_aload rfl rfl rfl ?_
  refine T_getr (v := 67) rfl rfl rfl rfl ?_
  refine R_push rfl ?_
  refine R_aload rfl rfl rfl ?_
  refine T_getr (v := 17) rfl rfl rfl rfl ?_
  refine T_getr (v := 26) rfl rfl rfl rfl ?_
  refine R_iload rfl rfl ?_
  refine T_ald rfl rfl (by omega) (by omega) ?_
  rw [F3.row 10 rfl]
  refine R_aload rfl rfl rfl ?_
  refine T_getr (v := 17) rfl rfl rfl rfl ?_
  refine T_getr (v := 26) rfl rfl rfl rfl ?_
  refine R_iload rfl rfl ?_
  refine T_ald rfl rfl (by omega) (by omega) ?_
  rw [F3.row 10 rfl]
  refine R_add rfl (by omega) (by omega) ?_
  refine T_iast rfl rfl (by omega) (by omega) ?_
  generalize hs4 : up2 s3 51 _ _ = s4
  have F4 : Fr [51] [] σ s4 := by rw [← hs4]; exact F3.upr rfl
  have J154 : ∀ v : Int, v = b2i (σ 14 a = 3) → pCm (Ev d) k_X5_tellMeeting E 154 [(52, 0), (0, a), (0, b), (0, gap), (0, a / 8), (0, b / 8)] [(0, v), (0, 6), (67, 0)] (Wd xs t dd rr s4) := by
    intro v hv
    rw [hv]
    refine T_iast rfl rfl (by omega) (by omega) ?_
    generalize hs5 : up2 s4 51 _ _ = s5
    have F5 : Fr [51] [] σ s5 := by rw [← hs5]; exact F4.upr rfl
    refine R_aload rfl rfl rfl ?_
    refine T_getr (v := 67) rfl rfl rfl rfl ?_
    refine R_push rfl ?_
    refine R_aload rfl rfl rfl ?_
    refine T_getr (v := 17) rfl rfl rfl rfl ?_
    refine T_getr (v := 23) rfl rfl rfl rfl ?_
    refine R_iload rfl rfl ?_
    refine T_ald rfl rfl (by omega) (by omega) ?_
    rw [F5.row 7 rfl]
    refine R_aload rfl rfl rfl ?_
    refine T_getr (v := 17) rfl rfl rfl rfl ?_
    refine T_getr (v := 23) rfl rfl rfl rfl ?_
    refine R_iload rfl rfl ?_
    refine T_ald rfl rfl (by omega) (by omega) ?_
    rw [F5.row 7 rfl]
    refine R_inv rfl rfl rfl rfl rfl (sp_X9_apart d (by omega) _ _ _ ⟨by omega, by omega⟩ ⟨by omega, by omega⟩) rfl ?_
    show pCm _ _ _ 184 _ [(0, _), (0, _), (67, 0)] _
    show pCm _ _ _ _ _ ((0, dst _ _) :: _) _
    refine T_iast rfl rfl (by omega) (by omega) ?_
    generalize hs6 : up2 s5 51 _ _ = s6
    have F6 : Fr [51] [] σ s6 := by rw [← hs6]; exact F5.upr rfl
    refine R_aload rfl rfl rfl ?_
    refine T_getr (v := 67) rfl rfl rfl rfl ?_
    refine R_push rfl ?_
    refine R_aload rfl rfl rfl ?_
    refine T_getr (v := 17) rfl rfl rfl rfl ?_
    refine T_getr (v := 24) rfl rfl rfl rfl ?_
    refine R_iload rfl rfl ?_
    refine T_ald rfl rfl (by omega) (by omega) ?_
    rw [F6.row 8 rfl]
    refine R_aload rfl rfl rfl ?_
    refine T_getr (v := 17) rfl rfl rfl rfl ?_
    refine T_getr (v := 24) rfl rfl rfl rfl ?_
    refine R_iload rfl rfl ?_
    refine T_ald rfl rfl (by omega) (by omega) ?_
    rw [F6.row 8 rfl]
    refine R_inv rfl rfl rfl rfl rfl (sp_X9_apart d (by omega) _ _ _ ⟨by omega, by omega⟩ ⟨by omega, by omega⟩) rfl ?_
    show pCm _ _ _ 214 _ [(0, _), (0, _), (67, 0)] _
    show pCm _ _ _ _ _ ((0, dst _ _) :: _) _
    refine T_iast rfl rfl (by omega) (by omega) ?_
    generalize hs7 : up2 s6 51 _ _ = s7
    have F7 : Fr [51] [] σ s7 := by rw [← hs7]; exact F6.upr rfl
    refine R_aload rfl rfl rfl ?_
    refine T_getr (v := 67) rfl rfl rfl rfl ?_
    refine R_push rfl ?_
    refine R_aload rfl rfl rfl ?_
    refine T_getr (v := 17) rfl rfl rfl rfl ?_
    refine T_getr (v := 25) rfl rfl rfl rfl ?_
    refine R_iload rfl rfl ?_
    refine T_ald rfl rfl (by omega) (by omega) ?_
    rw [F7.row 9 rfl]
    refine R_aload rfl rfl rfl ?_
    refine T_getr (v := 17) rfl rfl rfl rfl ?_
    refine T_getr (v := 25) rfl rfl rfl rfl ?_
    refine R_iload rfl rfl ?_
    refine T_ald rfl rfl (by omega) (by omega) ?_
    rw [F7.row 9 rfl]
    refine R_inv rfl rfl rfl rfl rfl (sp_X9_apart d (by omega) _ _ _ ⟨by omega, by omega⟩ ⟨by omega, by omega⟩) rfl ?_
    show pCm _ _ _ 244 _ [(0, _), (0, _), (67, 0)] _
    show pCm _ _ _ _ _ ((0, dst _ _) :: _) _
    refine T_iast rfl rfl (by omega) (by omega) ?_
    generalize hs8 : up2 s7 51 _ _ = s8
    have F8 : Fr [51] [] σ s8 := by rw [← hs8]; exact F7.upr rfl
    refine R_aload rfl rfl rfl ?_
    refine T_getr (v := 67) rfl rfl rfl rfl ?_
    refine R_push rfl ?_
    refine R_aload rfl rfl rfl ?_
    refine T_getr (v := 67) rfl rfl rfl rfl ?_
    refine R_push rfl ?_
    refine T_ald rfl rfl (by omega) (by omega) ?_
    rw [show s8 51 5 = σ 10 (a / 8) + σ 10 (b / 8) by rw [← hs8, ← hs7, ← hs6, ← hs5, ← hs4]; simp [up2]]
    refine T_iast rfl rfl (by omega) (by omega) ?_
    generalize hs9 : up2 s8 51 _ _ = s9
    have F9 : Fr [51] [] σ s9 := by rw [← hs9]; exact F8.upr rfl
    refine R_aload rfl rfl rfl ?_
    refine T_getr (v := 67) rfl rfl rfl rfl ?_
    refine R_push rfl ?_
    refine R_aload rfl rfl rfl ?_
    refine T_getr (v := 17) rfl rfl rfl rfl ?_
    refine T_getr (v := 19) rfl rfl rfl rfl ?_
    refine R_iload rfl rfl ?_
    refine T_ald rfl rfl (by omega) (by omega) ?_
    rw [F9.row 3 rfl]
    refine R_aload rfl rfl rfl ?_
    refine T_getr (v := 17) rfl rfl rfl rfl ?_
    refine T_getr (v := 19) rfl rfl rfl rfl ?_
    refine R_iload rfl rfl ?_
    refine T_ald rfl rfl (by omega) (by omega) ?_
    rw [F9.row 3 rfl]
    refine R_inv rfl rfl rfl rfl rfl (sp_X9_apart d (by omega) _ _ _ ⟨by omega, by omega⟩ ⟨by omega, by omega⟩) rfl ?_
    show pCm _ _ _ 287 _ [(0, _), (0, _), (67, 0)] _
    show pCm _ _ _ _ _ ((0, dst _ _) :: _) _
    refine T_iast rfl rfl (by omega) (by omega) ?_
    generalize hs10 : up2 s9 51 _ _ = s10
    have F10 : Fr [51] [] σ s10 := by rw [← hs10]; exact F9.upr rfl
    refine R_aload rfl rfl rfl ?_
    refine R_aload rfl rfl rfl ?_
    refine T_getr (v := 28) rfl rfl rfl rfl ?_
    refine T_getr (v := 30) rfl rfl rfl rfl ?_
    refine R_iload rfl rfl ?_
    refine T_ald rfl rfl (by omega) (by omega) ?_
    rw [F10.row 14 rfl]
    refine R_aload rfl rfl rfl ?_
    refine T_getr (v := 17) rfl rfl rfl rfl ?_
    refine T_getr (v := 19) rfl rfl rfl rfl ?_
    refine R_iload rfl rfl ?_
    refine T_ald rfl rfl (by omega) (by omega) ?_
    rw [F10.row 3 rfl]
    refine R_aload rfl rfl rfl ?_
    refine T_getr (v := 17) rfl rfl rfl rfl ?_
    refine T_getr (v := 19) rfl rfl rfl rfl ?_
    refine R_iload rfl rfl ?_
    refine T_ald rfl rfl (by omega) (by omega) ?_
    rw [F10.row 3 rfl]
    refine R_invv rfl rfl rfl rfl rfl rfl (sp_X5_tellSizes d (by omega) xs t dd rr s10 _ _ _) rfl ?_
    show pCm _ _ _ 321 _ [] _
    refine R_vret rfl ?_
    refine hE _ _ rfl ⟨(F10.upr rfl).upr rfl, fun i i0 i1 => ?_⟩
    rw [← hs10, ← hs9, ← hs8, ← hs7, ← hs6, ← hs5, ← hs4, ← hs3, ← hs2, ← hs1]
    unfold kMt
    simp only [up2, true_and]
    have : i = 0 ∨ i = 1 ∨ i = 2 ∨ i = 3 ∨ i = 4 ∨ i = 5 ∨ i = 6 ∨ i = 7 ∨ i = 8 ∨ i = 9 ∨ i = 10 ∨ i = 11 := by omega
    rcases this with e | e | e | e | e | e | e | e | e | e | e | e <;> subst e <;> rfl
  refine R_aload rfl rfl rfl ?_
  refine T_getr (v := 67) rfl rfl rfl rfl ?_
  refine R_push rfl ?_
  refine R_aload rfl rfl rfl ?_
  refine T_getr (v := 28) rfl rfl rfl rfl ?_
  refine T_getr (v := 30) rfl rfl rfl rfl ?_
  refine R_iload rfl rfl ?_
  refine T_ald rfl rfl (by omega) (by omega) ?_
  rw [F4.row 14 rfl]
  refine R_push rfl ?_
  refine R_ic rfl (fun h146 => ?_) (fun h146 => ?_)
  · try simp only [ne_eq, b2i_e, b2i_1, Classical.not_not] at h146
    refine R_push rfl ?_
    exact J154 _ (by first | rw [b2i_t (by omega)] | rw [b2i_f (by omega)])
  · try simp only [ne_eq, b2i_e, b2i_1, Classical.not_not] at h146
    refine R_push rfl ?_
    refine R_goto rfl ?_
    exact J154 _ (by first | rw [b2i_t (by omega)] | rw [b2i_f (by omega)])

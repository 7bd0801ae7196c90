set_option maxRecDepth 20000 in
set_option maxHeartbeats 2000000 in
theorem sp_X1_cutWeight (d : Nat) (hd : 1 ≤ d) (xs : List (Nat × Nat)) (t dd rr : Nat) (σ : Sg) (f k : Int) (hf : 0 ≤ f ∧ f < 320) (hk : 0 ≤ k ∧ k < 8) : Ev d 158 [(28, 0), (0, f), (0, k)] (Wd xs t dd rr σ) (0, nib (σ 18 f) k) (Wd xs t dd rr σ) := by
  obtain ⟨d, rfl⟩ : ∃ e, d = e + 1 := ⟨d - 1, by omega⟩
  refine evP (nL := 3) (code := k_X1_cutWeight) rfl pb0 rfl (fun E hE => ?_)
  show pCm (Ev d) k_X1_cutWeight E 0 [(28, 0), (0, f), (0, k)] [] _
  refine R_aload rfl rfl rfl ?_
  refine T_getr (v := 34) rfl rfl rfl rfl ?_
  refine R_iload rfl rfl ?_
  refine T_ald rfl rfl (by omega) (by omega) ?_
  refine R_push rfl ?_
  refine R_iload rfl rfl ?_
  refine R_mul rfl (by omega) (by omega) ?_
  refine R_bin rfl ?_
  refine R_push rfl ?_
  refine R_bin rfl ?_
  refine R_iret rfl ?_
  exact hE _ rfl
set_option maxRecDepth 20000 in
set_option maxHeartbeats 2000000 in
theorem sp_X1_setCut (d : Nat) (hd : 1 ≤ d) (xs : List (Nat × Nat)) (t dd rr : Nat) (σ : Sg) (f k w : Int) (hf : 0 ≤ f ∧ f < 320) (hk : 0 ≤ k ∧ k < 8) : Ev d 160 [(28, 0), (0, f), (0, k), (0, w)] (Wd xs t dd rr σ) (8, 0) (Wd xs t dd rr (up2 σ 18 f (nibSet (σ 18 f) k w))) := by
  obtain ⟨d, rfl⟩ : ∃ e, d = e + 1 := ⟨d - 1, by omega⟩
  refine evP (nL := 5) (code := k_X1_setCut) rfl pb0 rfl (fun E hE => ?_)
  show pCm (Ev d) k_X1_setCut E 0 [(28, 0), (0, f), (0, k), (0, w), (9, 0)] [] _
  refine R_push rfl ?_
  refine R_iload rfl rfl ?_
  refine R_mul rfl (by omega) (by omega) ?_
  refine R_istore rfl rfl ?_
  refine R_aload rfl rfl rfl ?_
  refine T_getr (v := 34) rfl rfl rfl rfl ?_
  refine R_iload rfl rfl ?_
  refine R_aload rfl rfl rfl ?_
  refine T_getr (v := 34) rfl rfl rfl rfl ?_
  refine R_iload rfl rfl ?_
  refine T_ald rfl rfl (by omega) (by omega) ?_
  refine R_push rfl ?_
  refine R_iload rfl rfl ?_
  refine R_bin rfl ?_
  refine R_push rfl ?_
  refine R_bin rfl ?_
  refine R_bin rfl ?_
  refine R_iload rfl rfl ?_
  refine R_iload rfl rfl ?_
  refine R_bin rfl ?_
  refine R_bin rfl ?_
  refine T_iast rfl rfl (by omega) (by omega) ?_
  refine R_vret rfl ?_
  exact hE _ rfl
set_option maxRecDepth 20000 in
set_option maxHeartbeats 2000000 in
theorem sp_X1_tellCut (d : Nat) (hd : 2 ≤ d) (xs : List (Nat × Nat)) (t dd rr : Nat) (σ : Sg) (a b w : Int) (ha : 0 ≤ a ∧ a < 320) (hb : 0 ≤ b ∧ b < 320) (hab : b ≠ a) : Ev d 159 [(28, 0), (0, a), (0, b), (0, w)] (Wd xs t dd rr σ) (8, 0) (Wd xs t dd rr (up2 (up2 (σ) 18 (a) (nibSet (σ 18 a) (b % 8) w)) 18 (b) (nibSet (σ 18 b) (a % 8) 0))) := by
  obtain ⟨d, rfl⟩ : ∃ e, d = e + 1 := ⟨d - 1, by omega⟩
  refine evP (nL := 4) (code := k_X1_tellCut) rfl pb0 rfl (fun E hE => ?_)
  show pCm (Ev d) k_X1_tellCut E 0 [(28, 0), (0, a), (0, b), (0, w)] [] _
  refine R_aload rfl rfl rfl ?_
  refine R_iload rfl rfl ?_
  refine R_iload rfl rfl ?_
  refine R_push rfl ?_
  refine R_rm rfl (by omega) (by omega) (by omega) ?_
  refine R_iload rfl rfl ?_
  refine R_invv rfl rfl rfl rfl rfl rfl (sp_X1_setCut d (by omega) xs t dd rr _ _ _ _ ⟨by omega, by omega⟩ ⟨by omega, by omega⟩) rfl ?_
  show pCm _ _ _ 10 _ [] _
  refine R_aload rfl rfl rfl ?_
  refine R_iload rfl rfl ?_
  refine R_iload rfl rfl ?_
  refine R_push rfl ?_
  refine R_rm rfl (by omega) (by omega) (by omega) ?_
  refine R_push rfl ?_
  refine R_invv rfl rfl rfl rfl rfl rfl (sp_X1_setCut d (by omega) xs t dd rr _ _ _ _ ⟨by omega, by omega⟩ ⟨by omega, by omega⟩) rfl ?_
  show pCm _ _ _ 20 _ [] _
  rw [show up2 σ 18 a (nibSet (σ 18 a) (b % 8) w) 18 b = σ 18 b by simp [up2, hab]]
  refine R_vret rfl ?_
  exact hE _ rfl
set_option maxRecDepth 20000 in
set_option maxHeartbeats 2000000 in
theorem sp_X1_cutsTold (d : Nat) (hd : 2 ≤ d) (xs : List (Nat × Nat)) (t dd rr : Nat) (σ : Sg)  : Ev d 161 [(28, 0)] (Wd xs t dd rr σ) (0, sumZ (fun f => sumZ (fun k => b2i (0 < nib (σ 18 f) k)) 8) 320) (Wd xs t dd rr σ) := by
  obtain ⟨d, rfl⟩ : ∃ e, d = e + 1 := ⟨d - 1, by omega⟩
  refine evP (nL := 4) (code := k_X1_cutsTold) rfl pb0 rfl (fun E hE => ?_)
  show pCm (Ev d) k_X1_cutsTold E 0 [(28, 0), (9, 0), (9, 0), (9, 0)] [] _
  refine R_push rfl ?_
  refine R_istore rfl rfl ?_
  refine R_push rfl ?_
  refine R_istore rfl rfl ?_
  refine fgt wc_X1_cutsTold [1, 1, 1, 0] ?_
  refine loop (pc := 4) (α := Int × Int) (fun x => (320 - x.2).toNat) (fun x => ([(28, 0), (0, x.1), (0, x.2), (9, 0)], Wd xs t dd rr σ)) (fun x => (0 ≤ x.2 ∧ x.2 ≤ 320) ∧ x.1 = sumZ (fun f => sumZ (fun k => b2i (0 < nib (σ 18 f) k)) 8) x.2) ?_ (0, 0) ?_
  · intro ⟨n, f⟩ ⟨hf, hn⟩ ih
    dsimp only at hf hn ⊢
    have hsb := sumZ_bd (f := fun f => sumZ (fun k => b2i (0 < nib (σ 18 f) k)) 8) (c := 8) hf.1 (fun i _ _ => by have := sumZ_bd (f := fun k => b2i (0 < nib (σ 18 i) k)) (c := 1) (n := 8) (by omega) (fun _ _ _ => b2i_bd); omega)
    refine R_iload rfl rfl ?_
    refine R_push rfl ?_
    refine R_ic rfl (fun h8 => ?_) (fun h8 => ?_)
    · try simp only [ne_eq, b2i_e, b2i_1, Classical.not_not] at h8
      refine R_iload rfl rfl ?_
      refine R_iret rfl ?_
      exact hE _ (by congr 1; rw [hn]; congr 1; omega)
    · try simp only [ne_eq, b2i_e, b2i_1, Classical.not_not] at h8
      refine R_push rfl ?_
      refine R_istore rfl rfl ?_
      refine loop (pc := 13) (α := Int × Int) (fun x => (8 - x.2).toNat) (fun x => ([(28, 0), (0, x.1), (0, f), (0, x.2)], Wd xs t dd rr σ)) (fun x => (0 ≤ x.2 ∧ x.2 ≤ 8) ∧ x.1 = n + sumZ (fun k => b2i (0 < nib (σ 18 f) k)) x.2) ?_ (n, 0) ?_
      · intro ⟨c, k⟩ ⟨hk, hc⟩ ih2
        dsimp only at hk hc ⊢
        have hsb2 := sumZ_bd (f := fun k => b2i (0 < nib (σ 18 f) k)) (c := 1) hk.1 (fun _ _ _ => b2i_bd)
        refine R_aload rfl rfl rfl ?_
        refine T_getr (v := 34) rfl rfl rfl rfl ?_
        refine R_iload rfl rfl ?_
        refine T_ald rfl rfl (by omega) (by omega) ?_
        refine R_if rfl (fun h19 => ?_) (fun h19 => ?_)
        · try simp only [ne_eq, b2i_e, b2i_1, Classical.not_not] at h19
          refine R_inc rfl rfl (by omega) (by omega) ?_
          refine R_goto rfl ?_
          refine fgt wc_X1_cutsTold [1, 1, 1, 0] ?_
          exact ih (c, f + 1) ⟨by dsimp only; omega, by
            dsimp only
            rw [sumZ_s hf.1, ← hn]
            first
            | (rw [hc, show k = 8 by omega])
            | (rw [hc]
               congr 1
               have z : ∀ m : Int, 0 ≤ m → m ≤ 8 → sumZ (fun k => b2i (0 < nib (σ 18 f) k)) m = 0 := fun m m0 m1 => by
                 rw [sumZ_congr (g := fun _ => 0) (fun i i0 i1 => by rw [show σ 18 f = 0 by omega, nib_0 i i0 (by omega)]; rfl)]
                 have := sumZ_bd (f := fun _ => (0 : Int)) (c := 0) m0 (fun _ _ _ => by omega)
                 omega
               rw [z k (by omega) (by omega), z 8 (by omega) (by omega)])⟩ (by dsimp only; omega)
        · try simp only [ne_eq, b2i_e, b2i_1, Classical.not_not] at h19
          refine R_iload rfl rfl ?_
          refine R_push rfl ?_
          refine R_ic rfl (fun h25 => ?_) (fun h25 => ?_)
          · try simp only [ne_eq, b2i_e, b2i_1, Classical.not_not] at h25
            refine R_inc rfl rfl (by omega) (by omega) ?_
            refine R_goto rfl ?_
            refine fgt wc_X1_cutsTold [1, 1, 1, 0] ?_
            exact ih (c, f + 1) ⟨by dsimp only; omega, by
              dsimp only
              rw [sumZ_s hf.1, ← hn]
              first
              | (rw [hc, show k = 8 by omega])
              | (rw [hc]
                 congr 1
                 have z : ∀ m : Int, 0 ≤ m → m ≤ 8 → sumZ (fun k => b2i (0 < nib (σ 18 f) k)) m = 0 := fun m m0 m1 => by
                   rw [sumZ_congr (g := fun _ => 0) (fun i i0 i1 => by rw [show σ 18 f = 0 by omega, nib_0 i i0 (by omega)]; rfl)]
                   have := sumZ_bd (f := fun _ => (0 : Int)) (c := 0) m0 (fun _ _ _ => by omega)
                   omega
                 rw [z k (by omega) (by omega), z 8 (by omega) (by omega)])⟩ (by dsimp only; omega)
          · try simp only [ne_eq, b2i_e, b2i_1, Classical.not_not] at h25
            refine R_iload rfl rfl ?_
            refine R_aload rfl rfl rfl ?_
            refine R_iload rfl rfl ?_
            refine R_iload rfl rfl ?_
            refine R_invv rfl rfl rfl rfl rfl rfl (sp_X1_cutWeight d (by omega) xs t dd rr σ f k ⟨by omega, by omega⟩ ⟨by omega, by omega⟩) rfl ?_
            show pCm _ _ _ 35 _ [(0, _), (0, _)] _
            refine R_if rfl (fun h35 => ?_) (fun h35 => ?_)
            · try simp only [ne_eq, b2i_e, b2i_1, Classical.not_not] at h35
              refine R_push rfl ?_
              refine R_add rfl (by omega) (by omega) ?_
              refine R_istore rfl rfl ?_
              refine R_inc rfl rfl (by omega) (by omega) ?_
              refine R_goto rfl ?_
              exact ih2 (_, k + 1) ⟨by dsimp only; omega, by dsimp only; rw [sumZ_s hk.1]; first | omega | (rw [b2i_t (by omega)]; omega) | (rw [b2i_f (by omega)]; omega) | (rw [if_pos (by omega)]; omega) | (rw [if_neg (by omega)]; omega)⟩ (by dsimp only; omega)
            · try simp only [ne_eq, b2i_e, b2i_1, Classical.not_not] at h35
              refine R_push rfl ?_
              refine R_goto rfl ?_
              refine R_add rfl (by omega) (by omega) ?_
              refine R_istore rfl rfl ?_
              refine R_inc rfl rfl (by omega) (by omega) ?_
              refine R_goto rfl ?_
              exact ih2 (_, k + 1) ⟨by dsimp only; omega, by dsimp only; rw [sumZ_s hk.1]; first | omega | (rw [b2i_t (by omega)]; omega) | (rw [b2i_f (by omega)]; omega) | (rw [if_pos (by omega)]; omega) | (rw [if_neg (by omega)]; omega)⟩ (by dsimp only; omega)
      · exact ⟨by dsimp only; omega, by dsimp only; rw [sumZ_0]; omega⟩
  · exact ⟨by dsimp only; omega, rfl⟩
theorem sumZ_nest {g : Int → Int} : ∀ n : Nat, sumZ g (8 * (n : Int)) = sumZ (fun f => sumZ (fun k => g (8 * f + k)) 8) n := by
  intro n
  induction n with
  | zero => rfl
  | succ n ih =>
    have e : sumZ (fun f => sumZ (fun k => g (8 * f + k)) 8) ((n + 1 : Nat) : Int) = _ := sumZ_s (n := n) (by omega)
    rw [e, ← ih]
    have key : ∀ m : Nat, sumZ g (8 * (n : Int) + m) = sumZ g (8 * (n : Int)) + sumZ (fun k => g (8 * (n : Int) + k)) m := by
      intro m
      induction m with
      | zero => simp [sumZ_0]
      | succ m ih2 =>
        have e1 : sumZ g (8 * (n : Int) + m + 1) = _ := sumZ_s (n := 8 * (n : Int) + m) (by omega)
        have e2 : sumZ (fun k => g (8 * (n : Int) + k)) ((m + 1 : Nat) : Int) = _ := sumZ_s (n := m) (by omega)
        rw [show 8 * (n : Int) + ((m + 1 : Nat) : Int) = 8 * (n : Int) + m + 1 by omega, e1, e2, ih2]
        omega
    have := key 8
    rw [show 8 * ((n + 1 : Nat) : Int) = 8 * (n : Int) + (8 : Nat) by omega, this]
    rfl
set_option maxRecDepth 20000 in
set_option maxHeartbeats 2000000 in
theorem sp_X9_cuts (d : Nat) (hd : 3 ≤ d) (xs : List (Nat × Nat)) (t dd rr : Nat) (σ : Sg) (a b w : Int) (ha : -2147483648 ≤ a ∧ a < 2147483648) (hb : -2147483648 ≤ b ∧ b < 2147483648)  : ∃ σ', Ev d 16 [(16, 0), (0, a), (0, b), (0, w)] (Wd xs t dd rr σ) (0, if ((0 ≤ a ∧ a < 320 ∧ a % 8 < σ 13 (a / 8)) ∧ (0 ≤ b ∧ b < 320 ∧ b % 8 < σ 13 (b / 8)) ∧ (0 ≤ w ∧ w ≤ 9)) ∧ a ≠ b ∧ a / 8 = b / 8 ∧ σ 14 a = 0 ∧ σ 14 b = 0 then 1 else 0) (Wd xs t dd rr σ') ∧ σ' = if ((0 ≤ a ∧ a < 320 ∧ a % 8 < σ 13 (a / 8)) ∧ (0 ≤ b ∧ b < 320 ∧ b % 8 < σ 13 (b / 8)) ∧ (0 ≤ w ∧ w ≤ 9)) ∧ a ≠ b ∧ a / 8 = b / 8 ∧ σ 14 a = 0 ∧ σ 14 b = 0 then up2 (up2 (up2 (σ) 18 (a) (nibSet (σ 18 a) (b % 8) w)) 18 (b) (nibSet (σ 18 b) (a % 8) 0)) 57 (4) (-1) else σ := by
  obtain ⟨d, rfl⟩ : ∃ e, d = e + 1 := ⟨d - 1, by omega⟩
  refine evS (nL := 4) (code := k_X9_cuts) rfl dc_X9_cuts rfl (fun E hE => ?_)
  show pCm (Ev d) k_X9_cuts E 0 [(16, 0), (0, a), (0, b), (0, w)] [] _
  refine R_aload rfl rfl rfl ?_
  refine T_getr (v := 28) rfl rfl rfl rfl ?_
  refine R_iload rfl rfl ?_
  refine R_invv rfl rfl rfl rfl rfl rfl (sp_X1_has d (by omega) xs t dd rr σ _ (by omega)) rfl ?_
  show pCm _ _ _ 8 _ [(0, _)] _
  refine R_if rfl (fun h8 => ?_) (fun h8 => ?_)
  · try simp only [ne_eq, b2i_e, b2i_1, Classical.not_not] at h8
    refine R_push rfl ?_
    refine R_zret rfl (by first | exact Or.inl rfl | exact Or.inr rfl | omega | grind) ?_
    first
    | exact hE _ _ (by rw [if_pos (by omega)]; try rfl; try (congr 1; simp [up2])) (by rw [if_pos (by omega)])
    | exact hE _ _ (by rw [if_neg (by omega)]) (by rw [if_neg (by omega)])
  · try simp only [ne_eq, b2i_e, b2i_1, Classical.not_not] at h8
    refine R_aload rfl rfl rfl ?_
    refine T_getr (v := 28) rfl rfl rfl rfl ?_
    refine R_iload rfl rfl ?_
    refine R_invv rfl rfl rfl rfl rfl rfl (sp_X1_has d (by omega) xs t dd rr σ _ (by omega)) rfl ?_
    show pCm _ _ _ 19 _ [(0, _)] _
    refine R_if rfl (fun h19 => ?_) (fun h19 => ?_)
    · try simp only [ne_eq, b2i_e, b2i_1, Classical.not_not] at h19
      refine R_push rfl ?_
      refine R_zret rfl (by first | exact Or.inl rfl | exact Or.inr rfl | omega | grind) ?_
      first
      | exact hE _ _ (by rw [if_pos (by omega)]; try rfl; try (congr 1; simp [up2])) (by rw [if_pos (by omega)])
      | exact hE _ _ (by rw [if_neg (by omega)]) (by rw [if_neg (by omega)])
    · try simp only [ne_eq, b2i_e, b2i_1, Classical.not_not] at h19
      refine R_iload rfl rfl ?_
      refine R_push rfl ?_
      refine R_push rfl ?_
      refine R_inv rfl rfl rfl rfl rfl (sp_X9_within d (by omega) _ _ _ _) rfl ?_
      show pCm _ _ _ 29 _ [(0, _)] _
      refine R_if rfl (fun h29 => ?_) (fun h29 => ?_)
      · try simp only [ne_eq, b2i_e, b2i_1, Classical.not_not] at h29
        refine R_iload rfl rfl ?_
        refine R_iload rfl rfl ?_
        refine R_ic rfl (fun h36 => ?_) (fun h36 => ?_)
        · try simp only [ne_eq, b2i_e, b2i_1, Classical.not_not] at h36
          refine R_push rfl ?_
          refine R_zret rfl (by first | exact Or.inl rfl | exact Or.inr rfl | omega | grind) ?_
          first
          | exact hE _ _ (by rw [if_pos (by omega)]; try rfl; try (congr 1; simp [up2])) (by rw [if_pos (by omega)])
          | exact hE _ _ (by rw [if_neg (by omega)]) (by rw [if_neg (by omega)])
        · try simp only [ne_eq, b2i_e, b2i_1, Classical.not_not] at h36
          refine R_iload rfl rfl ?_
          refine R_push rfl ?_
          refine R_dv rfl (by omega) (by omega) (by omega) ?_
          refine R_iload rfl rfl ?_
          refine R_push rfl ?_
          refine R_dv rfl (by omega) (by omega) (by omega) ?_
          refine R_ic rfl (fun h47 => ?_) (fun h47 => ?_)
          · try simp only [ne_eq, b2i_e, b2i_1, Classical.not_not] at h47
            refine R_push rfl ?_
            refine R_zret rfl (by first | exact Or.inl rfl | exact Or.inr rfl | omega | grind) ?_
            first
            | exact hE _ _ (by rw [if_pos (by omega)]; try rfl; try (congr 1; simp [up2])) (by rw [if_pos (by omega)])
            | exact hE _ _ (by rw [if_neg (by omega)]) (by rw [if_neg (by omega)])
          · try simp only [ne_eq, b2i_e, b2i_1, Classical.not_not] at h47
            refine R_aload rfl rfl rfl ?_
            refine T_getr (v := 28) rfl rfl rfl rfl ?_
            refine T_getr (v := 30) rfl rfl rfl rfl ?_
            refine R_iload rfl rfl ?_
            refine T_ald rfl rfl (by omega) (by omega) ?_
            refine R_if rfl (fun h59 => ?_) (fun h59 => ?_)
            · try simp only [ne_eq, b2i_e, b2i_1, Classical.not_not] at h59
              refine R_push rfl ?_
              refine R_zret rfl (by first | exact Or.inl rfl | exact Or.inr rfl | omega | grind) ?_
              first
              | exact hE _ _ (by rw [if_pos (by omega)]; try rfl; try (congr 1; simp [up2])) (by rw [if_pos (by omega)])
              | exact hE _ _ (by rw [if_neg (by omega)]) (by rw [if_neg (by omega)])
            · try simp only [ne_eq, b2i_e, b2i_1, Classical.not_not] at h59
              refine R_aload rfl rfl rfl ?_
              refine T_getr (v := 28) rfl rfl rfl rfl ?_
              refine T_getr (v := 30) rfl rfl rfl rfl ?_
              refine R_iload rfl rfl ?_
              refine T_ald rfl rfl (by omega) (by omega) ?_
              refine R_if rfl (fun h71 => ?_) (fun h71 => ?_)
              · try simp only [ne_eq, b2i_e, b2i_1, Classical.not_not] at h71
                refine R_aload rfl rfl rfl ?_
                refine T_getr (v := 28) rfl rfl rfl rfl ?_
                refine R_iload rfl rfl ?_
                refine R_iload rfl rfl ?_
                refine R_iload rfl rfl ?_
                refine R_invv rfl rfl rfl rfl rfl rfl (sp_X1_tellCut d (by omega) xs t dd rr σ a b w ⟨by omega, by omega⟩ ⟨by omega, by omega⟩ (by omega)) rfl ?_
                show pCm _ _ _ 86 _ [] _
                refine R_aload rfl rfl rfl ?_
                refine T_getr (v := 73) rfl rfl rfl rfl ?_
                refine R_invv rfl rfl rfl rfl rfl rfl (sp_X0_forget d (by omega) xs t dd rr _) rfl ?_
                show pCm _ _ _ 93 _ [] _
                refine R_push rfl ?_
                refine R_zret rfl (by first | exact Or.inl rfl | exact Or.inr rfl | omega | grind) ?_
                first
                | exact hE _ _ (by rw [if_pos (by omega)]; try rfl; try (congr 1; simp [up2])) (by rw [if_pos (by omega)])
                | exact hE _ _ (by rw [if_neg (by omega)]) (by rw [if_neg (by omega)])
              · try simp only [ne_eq, b2i_e, b2i_1, Classical.not_not] at h71
                refine R_push rfl ?_
                refine R_zret rfl (by first | exact Or.inl rfl | exact Or.inr rfl | omega | grind) ?_
                first
                | exact hE _ _ (by rw [if_pos (by omega)]; try rfl; try (congr 1; simp [up2])) (by rw [if_pos (by omega)])
                | exact hE _ _ (by rw [if_neg (by omega)]) (by rw [if_neg (by omega)])
      · try simp only [ne_eq, b2i_e, b2i_1, Classical.not_not] at h29
        refine R_push rfl ?_
        refine R_zret rfl (by first | exact Or.inl rfl | exact Or.inr rfl | omega | grind) ?_
        first
        | exact hE _ _ (by rw [if_pos (by omega)]; try rfl; try (congr 1; simp [up2])) (by rw [if_pos (by omega)])
        | exact hE _ _ (by rw [if_neg (by omega)]) (by rw [if_neg (by omega)])
set_option maxRecDepth 20000 in
set_option maxHeartbeats 2000000 in
theorem sp_X10_cuts (d : Nat) (hd : 3 ≤ d) (xs : List (Nat × Nat)) (t dd rr : Nat) (σ : Sg) (a b w P : Int) (hP : σ 71 26 = P) (h0 : 0 ≤ P ∧ P ≤ 40) (ha : -2147483648 ≤ a ∧ a < 2147483648) (hb : -2147483648 ≤ b ∧ b < 2147483648)  : ∃ σ', Ev d 102 [(87, 0), (0, a), (0, b), (0, w)] (Wd xs t dd rr σ) (0, if ((0 ≤ a ∧ a / 8 < P ∧ a % 8 < σ 98 (a / 8)) ∧ (0 ≤ b ∧ b / 8 < P ∧ b % 8 < σ 98 (b / 8)) ∧ (0 ≤ w ∧ w ≤ 9)) ∧ a ≠ b ∧ a / 8 = b / 8 ∧ σ 99 a = 0 ∧ σ 99 b = 0 then 1 else 0) (Wd xs t dd rr σ') ∧ σ' = if ((0 ≤ a ∧ a / 8 < P ∧ a % 8 < σ 98 (a / 8)) ∧ (0 ≤ b ∧ b / 8 < P ∧ b % 8 < σ 98 (b / 8)) ∧ (0 ≤ w ∧ w ≤ 9)) ∧ a ≠ b ∧ a / 8 = b / 8 ∧ σ 99 a = 0 ∧ σ 99 b = 0 then up2 (up2 (up2 (σ) 71 (0) (0)) 116 (8 * a + b % 8) (w)) 116 (8 * b + a % 8) (0) else up2 (σ) 71 (0) (0) := by
  obtain ⟨d, rfl⟩ : ∃ e, d = e + 1 := ⟨d - 1, by omega⟩
  refine evS (nL := 4) (code := k_X10_cuts) rfl dc_X10_cuts rfl (fun E hE => ?_)
  show pCm (Ev d) k_X10_cuts E 0 [(87, 0), (0, a), (0, b), (0, w)] [] _
  refine R_aload rfl rfl rfl ?_
  refine R_push rfl ?_
  refine T_puti rfl rfl rfl ?_
  generalize hs1 : up2 σ 71 0 0 = s1
  have hF : Fr [] [(71, 0)] σ s1 := by rw [← hs1]; exact Fr.rf.up rfl
  have e26 := hF.at 71 26 rfl
  have ea := hF.at 98 (a / 8) rfl
  have eb := hF.at 98 (b / 8) rfl
  have sa := hF.at 99 a rfl
  have sb := hF.at 99 b rfl
  refine R_aload rfl rfl rfl ?_
  refine R_iload rfl rfl ?_
  refine R_invv rfl rfl rfl rfl rfl rfl (sp_X10_isFace d (by omega) xs t dd rr s1 _ P (by omega) h0 (by omega)) rfl ?_
  show pCm _ _ _ 10 _ [(0, _)] _
  refine R_if rfl (fun h10 => ?_) (fun h10 => ?_)
  · try simp only [ne_eq, b2i_e, b2i_1, Classical.not_not] at h10
    refine R_push rfl ?_
    refine R_zret rfl (by first | exact Or.inl rfl | exact Or.inr rfl | omega | grind) ?_
    first
    | exact hE _ _ (by rw [if_pos (by omega)]) (by rw [if_pos (by omega), hs1])
    | exact hE _ _ (by rw [if_neg (by omega)]) (by rw [if_neg (by omega), hs1])
  · try simp only [ne_eq, b2i_e, b2i_1, Classical.not_not] at h10
    refine R_aload rfl rfl rfl ?_
    refine R_iload rfl rfl ?_
    refine R_invv rfl rfl rfl rfl rfl rfl (sp_X10_isFace d (by omega) xs t dd rr s1 _ P (by omega) h0 (by omega)) rfl ?_
    show pCm _ _ _ 18 _ [(0, _)] _
    refine R_if rfl (fun h18 => ?_) (fun h18 => ?_)
    · try simp only [ne_eq, b2i_e, b2i_1, Classical.not_not] at h18
      refine R_push rfl ?_
      refine R_zret rfl (by first | exact Or.inl rfl | exact Or.inr rfl | omega | grind) ?_
      first
      | exact hE _ _ (by rw [if_pos (by omega)]) (by rw [if_pos (by omega), hs1])
      | exact hE _ _ (by rw [if_neg (by omega)]) (by rw [if_neg (by omega), hs1])
    · try simp only [ne_eq, b2i_e, b2i_1, Classical.not_not] at h18
      refine R_iload rfl rfl ?_
      refine R_iload rfl rfl ?_
      refine R_ic rfl (fun h23 => ?_) (fun h23 => ?_)
      · try simp only [ne_eq, b2i_e, b2i_1, Classical.not_not] at h23
        refine R_push rfl ?_
        refine R_zret rfl (by first | exact Or.inl rfl | exact Or.inr rfl | omega | grind) ?_
        first
        | exact hE _ _ (by rw [if_pos (by omega)]) (by rw [if_pos (by omega), hs1])
        | exact hE _ _ (by rw [if_neg (by omega)]) (by rw [if_neg (by omega), hs1])
      · try simp only [ne_eq, b2i_e, b2i_1, Classical.not_not] at h23
        refine R_iload rfl rfl ?_
        refine R_push rfl ?_
        refine R_dv rfl (by omega) (by omega) (by omega) ?_
        refine R_iload rfl rfl ?_
        refine R_push rfl ?_
        refine R_dv rfl (by omega) (by omega) (by omega) ?_
        refine R_ic rfl (fun h34 => ?_) (fun h34 => ?_)
        · try simp only [ne_eq, b2i_e, b2i_1, Classical.not_not] at h34
          refine R_push rfl ?_
          refine R_zret rfl (by first | exact Or.inl rfl | exact Or.inr rfl | omega | grind) ?_
          first
          | exact hE _ _ (by rw [if_pos (by omega)]) (by rw [if_pos (by omega), hs1])
          | exact hE _ _ (by rw [if_neg (by omega)]) (by rw [if_neg (by omega), hs1])
        · try simp only [ne_eq, b2i_e, b2i_1, Classical.not_not] at h34
          refine R_aload rfl rfl rfl ?_
          refine T_getr (v := 115) rfl rfl rfl rfl ?_
          refine R_iload rfl rfl ?_
          refine T_ald rfl rfl (by omega) (by omega) ?_
          refine R_if rfl (fun h43 => ?_) (fun h43 => ?_)
          · try simp only [ne_eq, b2i_e, b2i_1, Classical.not_not] at h43
            refine R_push rfl ?_
            refine R_zret rfl (by first | exact Or.inl rfl | exact Or.inr rfl | omega | grind) ?_
            first
            | exact hE _ _ (by rw [if_pos (by omega)]) (by rw [if_pos (by omega), hs1])
            | exact hE _ _ (by rw [if_neg (by omega)]) (by rw [if_neg (by omega), hs1])
          · try simp only [ne_eq, b2i_e, b2i_1, Classical.not_not] at h43
            refine R_aload rfl rfl rfl ?_
            refine T_getr (v := 115) rfl rfl rfl rfl ?_
            refine R_iload rfl rfl ?_
            refine T_ald rfl rfl (by omega) (by omega) ?_
            refine R_if rfl (fun h52 => ?_) (fun h52 => ?_)
            · try simp only [ne_eq, b2i_e, b2i_1, Classical.not_not] at h52
              refine R_push rfl ?_
              refine R_zret rfl (by first | exact Or.inl rfl | exact Or.inr rfl | omega | grind) ?_
              first
              | exact hE _ _ (by rw [if_pos (by omega)]) (by rw [if_pos (by omega), hs1])
              | exact hE _ _ (by rw [if_neg (by omega)]) (by rw [if_neg (by omega), hs1])
            · try simp only [ne_eq, b2i_e, b2i_1, Classical.not_not] at h52
              refine R_iload rfl rfl ?_
              refine R_push rfl ?_
              refine R_push rfl ?_
              refine R_inv rfl rfl rfl rfl rfl (sp_X10_within d (by omega) _ _ _ _) rfl ?_
              show pCm _ _ _ 62 _ [(0, _)] _
              refine R_if rfl (fun h62 => ?_) (fun h62 => ?_)
              · try simp only [ne_eq, b2i_e, b2i_1, Classical.not_not] at h62
                refine R_aload rfl rfl rfl ?_
                refine T_getr (v := 132) rfl rfl rfl rfl ?_
                refine R_push rfl ?_
                refine R_iload rfl rfl ?_
                refine R_mul rfl (by omega) (by omega) ?_
                refine R_iload rfl rfl ?_
                refine R_push rfl ?_
                refine R_rm rfl (by omega) (by omega) (by omega) ?_
                refine R_add rfl (by omega) (by omega) ?_
                refine R_iload rfl rfl ?_
                refine T_iast rfl rfl (by omega) (by omega) ?_
                refine R_aload rfl rfl rfl ?_
                refine T_getr (v := 132) rfl rfl rfl rfl ?_
                refine R_push rfl ?_
                refine R_iload rfl rfl ?_
                refine R_mul rfl (by omega) (by omega) ?_
                refine R_iload rfl rfl ?_
                refine R_push rfl ?_
                refine R_rm rfl (by omega) (by omega) (by omega) ?_
                refine R_add rfl (by omega) (by omega) ?_
                refine R_push rfl ?_
                refine T_iast rfl rfl (by omega) (by omega) ?_
                refine R_push rfl ?_
                refine R_zret rfl (by first | exact Or.inl rfl | exact Or.inr rfl | omega | grind) ?_
                first
                | exact hE _ _ (by rw [if_pos (by omega)]) (by rw [if_pos (by omega), hs1])
                | exact hE _ _ (by rw [if_neg (by omega)]) (by rw [if_neg (by omega), hs1])
              · try simp only [ne_eq, b2i_e, b2i_1, Classical.not_not] at h62
                refine R_push rfl ?_
                refine R_zret rfl (by first | exact Or.inl rfl | exact Or.inr rfl | omega | grind) ?_
                first
                | exact hE _ _ (by rw [if_pos (by omega)]) (by rw [if_pos (by omega), hs1])
                | exact hE _ _ (by rw [if_neg (by omega)]) (by rw [if_neg (by omega), hs1])

/-- what a line's head leaves: a new name's letters may be written -/
def HDP (s' σ : Sg) (tk tw pl : Int → Int) (B : Nat) (m c0 k : Int) (S : PSt) : Prop := ∃ σ1, (σ1 = σ ∨ σ1 = up2 σ 56 (σ B 1) (ltC σ (pl S.1))) ∧ (k = 0 → (hdS tk tw pl (σ B 1) k S).2.1 = 0 → σ1 = up2 σ 56 (σ B 1) (ltC σ (pl S.1))) ∧ CSx s' σ1 tk tw pl B m c0 (hdS tk tw pl (σ B 1) k S)
theorem tsg_fe {tk pl : Int → Int} {ch : Int} {s : PSt} (h : s.2.1 ≠ 0) : tsg tk pl ch s = s := by unfold tsg; rw [if_pos h]
set_option maxRecDepth 20000 in
set_option maxHeartbeats 2000000 in
theorem hd_0_37 (d : Nat) (hd : 1 ≤ d) (xs : List (Nat × Nat)) (t dd rr : Nat) (σ s : Sg) (D : Nat) (hD : D + 2 ≤ d) (hr : rr = 53) (tk tw pl : Int → Int) (m c0 : Int) (S : PSt) (hM : 0 ≤ σ 37 1 ∧ σ 37 1 ≤ 8) (hA : ∀ v, ADV D rr (up2 σ 56 (σ 37 1) v) tk tw pl 37 m c0) (h : CSx s σ tk tw pl 37 m c0 S) (hf : S.2.1 = 0) (hd2 : 3 ≤ d)  : ∃ σ', Ev d 220 [(68, 0), (0, 128)] (Wd xs t dd rr s) (0, b2i ((hdS tk tw pl (σ 37 1) 0 S).2.1 = 0)) (Wd xs t dd rr σ') ∧ HDP σ' σ tk tw pl 37 m c0 0 S := by
  obtain ⟨d, rfl⟩ : ∃ e, d = e + 1 := ⟨d - 1, by omega⟩
  have hA0 : ADV D rr σ tk tw pl 37 m c0 := by have := hA (σ 56 (σ 37 1)); rw [up_id] at this; exact this
  refine evS (nL := 2) (code := k_X7_readHead) rfl dc_X7_readHead rfl (fun E hE => ?_)
  show pCm (Ev d) k_X7_readHead E 0 [(68, 0), (0, 128)] [] _
  refine R_iload rfl rfl ?_
  refine R_push rfl ?_
  refine R_ic rfl (fun h4 => absurd h4 (by omega)) (fun _ => ?_)
  refine R_aload rfl rfl rfl ?_
  obtain ⟨s1, hev1, hN1, hN2⟩ := sp_X7_readNewName_37 d (by omega) xs t dd rr σ s D (by omega) hr tk tw pl m c0 S hM hA h hf (by omega)
  refine R_invv rfl rfl rfl rfl rfl rfl (hev1) rfl ?_
  show pCm _ _ _ 11 _ [(0, _)] _
  refine R_if rfl (fun h11 => ?_) (fun h11 => ?_)
  · try simp only [ne_eq, b2i_e, b2i_1, Classical.not_not] at h11
    refine R_push rfl ?_
    refine R_zret rfl (by first | exact Or.inl rfl | exact Or.inr rfl | omega | (unfold b2i; split <;> simp; done) | grind) ?_
    have e : hdS tk tw pl (σ 37 1) 0 S = tsg tk pl 61 (tnn tk tw pl (σ 37 1) S) := by unfold hdS; rw [if_pos rfl]
    first
    | (have hn : (tnn tk tw pl (σ 37 1) S).2.1 ≠ 0 := by first | exact h11 | omega
       exact hE _ _ (by rw [e, tsg_fe hn, b2i_f hn]) ⟨σ, Or.inl rfl, fun _ w => absurd w (by rw [e, tsg_fe hn]; exact hn), by rw [e, tsg_fe hn]; exact hN2 hn⟩)
    | (have hn : (tsg tk pl 61 (tnn tk tw pl (σ 37 1) S)).2.1 = 0 := by first | exact h20 | omega
       exact hE _ _ (by rw [e, b2i_t hn]) ⟨_, Or.inr rfl, fun _ _ => rfl, by rw [e]; exact hC3⟩)
    | (have hn : (tsg tk pl 61 (tnn tk tw pl (σ 37 1) S)).2.1 ≠ 0 := by first | exact h20 | omega
       exact hE _ _ (by rw [e, b2i_f hn]) ⟨_, Or.inr rfl, fun _ _ => rfl, by rw [e]; exact hC3⟩)
  · try simp only [ne_eq, b2i_e, b2i_1, Classical.not_not] at h11
    refine R_aload rfl rfl rfl ?_
    refine R_push rfl ?_
    have hz : (tnn tk tw pl (σ 37 1) S).2.1 = 0 := by first | exact h11 | omega
    obtain ⟨s3, hev3, hC3⟩ := sp_X7_accept d (by omega) xs t dd rr _ s1 61 (by decide) D (by omega) tk tw pl 37 (by simp) m c0 (tnn tk tw pl (σ 37 1) S) (hA _) (hN1 hz) hz (by omega)
    refine R_invv rfl rfl rfl rfl rfl rfl (hev3) rfl ?_
    show pCm _ _ _ 20 _ [(0, _)] _
    refine R_if rfl (fun h20 => ?_) (fun h20 => ?_)
    · try simp only [ne_eq, b2i_e, b2i_1, Classical.not_not] at h20
      refine R_push rfl ?_
      refine R_zret rfl (by first | exact Or.inl rfl | exact Or.inr rfl | omega | (unfold b2i; split <;> simp; done) | grind) ?_
      have e : hdS tk tw pl (σ 37 1) 0 S = tsg tk pl 61 (tnn tk tw pl (σ 37 1) S) := by unfold hdS; rw [if_pos rfl]
      first
      | (have hn : (tnn tk tw pl (σ 37 1) S).2.1 ≠ 0 := by first | exact h11 | omega
         exact hE _ _ (by rw [e, tsg_fe hn, b2i_f hn]) ⟨σ, Or.inl rfl, fun _ w => absurd w (by rw [e, tsg_fe hn]; exact hn), by rw [e, tsg_fe hn]; exact hN2 hn⟩)
      | (have hn : (tsg tk pl 61 (tnn tk tw pl (σ 37 1) S)).2.1 = 0 := by first | exact h20 | omega
         exact hE _ _ (by rw [e, b2i_t hn]) ⟨_, Or.inr rfl, fun _ _ => rfl, by rw [e]; exact hC3⟩)
      | (have hn : (tsg tk pl 61 (tnn tk tw pl (σ 37 1) S)).2.1 ≠ 0 := by first | exact h20 | omega
         exact hE _ _ (by rw [e, b2i_f hn]) ⟨_, Or.inr rfl, fun _ _ => rfl, by rw [e]; exact hC3⟩)
    · try simp only [ne_eq, b2i_e, b2i_1, Classical.not_not] at h20
      refine R_push rfl ?_
      refine R_goto rfl ?_
      refine R_zret rfl (by first | exact Or.inl rfl | exact Or.inr rfl | omega | (unfold b2i; split <;> simp; done) | grind) ?_
      have e : hdS tk tw pl (σ 37 1) 0 S = tsg tk pl 61 (tnn tk tw pl (σ 37 1) S) := by unfold hdS; rw [if_pos rfl]
      first
      | (have hn : (tnn tk tw pl (σ 37 1) S).2.1 ≠ 0 := by first | exact h11 | omega
         exact hE _ _ (by rw [e, tsg_fe hn, b2i_f hn]) ⟨σ, Or.inl rfl, fun _ w => absurd w (by rw [e, tsg_fe hn]; exact hn), by rw [e, tsg_fe hn]; exact hN2 hn⟩)
      | (have hn : (tsg tk pl 61 (tnn tk tw pl (σ 37 1) S)).2.1 = 0 := by first | exact h20 | omega
         exact hE _ _ (by rw [e, b2i_t hn]) ⟨_, Or.inr rfl, fun _ _ => rfl, by rw [e]; exact hC3⟩)
      | (have hn : (tsg tk pl 61 (tnn tk tw pl (σ 37 1) S)).2.1 ≠ 0 := by first | exact h20 | omega
         exact hE _ _ (by rw [e, b2i_f hn]) ⟨_, Or.inr rfl, fun _ _ => rfl, by rw [e]; exact hC3⟩)
set_option maxRecDepth 20000 in
set_option maxHeartbeats 2000000 in
theorem hd_2_37 (d : Nat) (hd : 1 ≤ d) (xs : List (Nat × Nat)) (t dd rr : Nat) (σ s : Sg) (D : Nat) (hD : D + 2 ≤ d) (hr : rr = 53) (tk tw pl : Int → Int) (m c0 : Int) (S : PSt) (hM : 0 ≤ σ 37 1 ∧ σ 37 1 ≤ 8) (hA : ∀ v, ADV D rr (up2 σ 56 (σ 37 1) v) tk tw pl 37 m c0) (h : CSx s σ tk tw pl 37 m c0 S) (hf : S.2.1 = 0) (hd2 : 3 ≤ d)  : ∃ σ', Ev d 220 [(68, 0), (0, 130)] (Wd xs t dd rr s) (0, b2i ((hdS tk tw pl (σ 37 1) 2 S).2.1 = 0)) (Wd xs t dd rr σ') ∧ HDP σ' σ tk tw pl 37 m c0 2 S := by
  obtain ⟨d, rfl⟩ : ∃ e, d = e + 1 := ⟨d - 1, by omega⟩
  have hA0 : ADV D rr σ tk tw pl 37 m c0 := by have := hA (σ 56 (σ 37 1)); rw [up_id] at this; exact this
  refine evS (nL := 2) (code := k_X7_readHead) rfl dc_X7_readHead rfl (fun E hE => ?_)
  show pCm (Ev d) k_X7_readHead E 0 [(68, 0), (0, 130)] [] _
  refine R_iload rfl rfl ?_
  refine R_push rfl ?_
  refine R_ic rfl (fun _ => ?_) (fun h4 => absurd (by omega) h4)
  refine R_iload rfl rfl ?_
  refine R_push rfl ?_
  refine R_ic rfl (fun h33 => absurd h33 (by omega)) (fun _ => ?_)
  refine R_aload rfl rfl rfl ?_
  refine R_push rfl ?_
  refine R_push rfl ?_
  obtain ⟨s1, hev1, hN1⟩ := sp_X7_readNumber d (by omega) xs t dd rr σ s 1 99 D (by omega) tk tw pl 37 (by simp) m c0 S hA0 h hf (by omega)
  refine R_invv rfl rfl rfl rfl rfl rfl (hev1) rfl ?_
  show pCm _ _ _ 43 _ [(0, _)] _
  refine R_if rfl (fun h43 => ?_) (fun h43 => ?_)
  · try simp only [ne_eq, b2i_e, b2i_1, Classical.not_not] at h43
    refine R_push rfl ?_
    refine R_zret rfl (by first | exact Or.inl rfl | exact Or.inr rfl | omega | (unfold b2i; split <;> simp; done) | grind) ?_
    have e : hdS tk tw pl (σ 37 1) 2 S = tsg tk pl 132 (tnm tk tw pl 1 99 S) := by unfold hdS; rw [if_neg (by omega), if_pos rfl]
    first
    | (have hn : (tnm tk tw pl 1 99 S).2.1 ≠ 0 := by first | exact h43 | omega
       exact hE _ _ (by rw [e, tsg_fe hn, b2i_f hn]) ⟨σ, Or.inl rfl, fun w => absurd w (by omega), by rw [e, tsg_fe hn]; exact hN1⟩)
    | (have hn : (tsg tk pl 132 (tnm tk tw pl 1 99 S)).2.1 = 0 := by first | exact h53 | omega
       exact hE _ _ (by rw [e, b2i_t hn]) ⟨_, Or.inl rfl, fun w => absurd w (by omega), by rw [e]; exact hC3⟩)
    | (have hn : (tsg tk pl 132 (tnm tk tw pl 1 99 S)).2.1 ≠ 0 := by first | exact h53 | omega
       exact hE _ _ (by rw [e, b2i_f hn]) ⟨_, Or.inl rfl, fun w => absurd w (by omega), by rw [e]; exact hC3⟩)
  · try simp only [ne_eq, b2i_e, b2i_1, Classical.not_not] at h43
    refine R_aload rfl rfl rfl ?_
    refine R_push rfl ?_
    have hz : (tnm tk tw pl 1 99 S).2.1 = 0 := by first | exact h43 | omega
    obtain ⟨s3, hev3, hC3⟩ := sp_X7_accept d (by omega) xs t dd rr σ s1 132 (by decide) D (by omega) tk tw pl 37 (by simp) m c0 (tnm tk tw pl 1 99 S) hA0 hN1 hz (by omega)
    refine R_invv rfl rfl rfl rfl rfl rfl (hev3) rfl ?_
    show pCm _ _ _ 53 _ [(0, _)] _
    refine R_if rfl (fun h53 => ?_) (fun h53 => ?_)
    · try simp only [ne_eq, b2i_e, b2i_1, Classical.not_not] at h53
      refine R_push rfl ?_
      refine R_zret rfl (by first | exact Or.inl rfl | exact Or.inr rfl | omega | (unfold b2i; split <;> simp; done) | grind) ?_
      have e : hdS tk tw pl (σ 37 1) 2 S = tsg tk pl 132 (tnm tk tw pl 1 99 S) := by unfold hdS; rw [if_neg (by omega), if_pos rfl]
      first
      | (have hn : (tnm tk tw pl 1 99 S).2.1 ≠ 0 := by first | exact h43 | omega
         exact hE _ _ (by rw [e, tsg_fe hn, b2i_f hn]) ⟨σ, Or.inl rfl, fun w => absurd w (by omega), by rw [e, tsg_fe hn]; exact hN1⟩)
      | (have hn : (tsg tk pl 132 (tnm tk tw pl 1 99 S)).2.1 = 0 := by first | exact h53 | omega
         exact hE _ _ (by rw [e, b2i_t hn]) ⟨_, Or.inl rfl, fun w => absurd w (by omega), by rw [e]; exact hC3⟩)
      | (have hn : (tsg tk pl 132 (tnm tk tw pl 1 99 S)).2.1 ≠ 0 := by first | exact h53 | omega
         exact hE _ _ (by rw [e, b2i_f hn]) ⟨_, Or.inl rfl, fun w => absurd w (by omega), by rw [e]; exact hC3⟩)
    · try simp only [ne_eq, b2i_e, b2i_1, Classical.not_not] at h53
      refine R_push rfl ?_
      refine R_goto rfl ?_
      refine R_zret rfl (by first | exact Or.inl rfl | exact Or.inr rfl | omega | (unfold b2i; split <;> simp; done) | grind) ?_
      have e : hdS tk tw pl (σ 37 1) 2 S = tsg tk pl 132 (tnm tk tw pl 1 99 S) := by unfold hdS; rw [if_neg (by omega), if_pos rfl]
      first
      | (have hn : (tnm tk tw pl 1 99 S).2.1 ≠ 0 := by first | exact h43 | omega
         exact hE _ _ (by rw [e, tsg_fe hn, b2i_f hn]) ⟨σ, Or.inl rfl, fun w => absurd w (by omega), by rw [e, tsg_fe hn]; exact hN1⟩)
      | (have hn : (tsg tk pl 132 (tnm tk tw pl 1 99 S)).2.1 = 0 := by first | exact h53 | omega
         exact hE _ _ (by rw [e, b2i_t hn]) ⟨_, Or.inl rfl, fun w => absurd w (by omega), by rw [e]; exact hC3⟩)
      | (have hn : (tsg tk pl 132 (tnm tk tw pl 1 99 S)).2.1 ≠ 0 := by first | exact h53 | omega
         exact hE _ _ (by rw [e, b2i_f hn]) ⟨_, Or.inl rfl, fun w => absurd w (by omega), by rw [e]; exact hC3⟩)
set_option maxRecDepth 20000 in
set_option maxHeartbeats 2000000 in
theorem hd_3_37 (d : Nat) (hd : 1 ≤ d) (xs : List (Nat × Nat)) (t dd rr : Nat) (σ s : Sg) (D : Nat) (hD : D + 2 ≤ d) (hr : rr = 53) (tk tw pl : Int → Int) (m c0 : Int) (S : PSt) (hM : 0 ≤ σ 37 1 ∧ σ 37 1 ≤ 8) (hA : ∀ v, ADV D rr (up2 σ 56 (σ 37 1) v) tk tw pl 37 m c0) (h : CSx s σ tk tw pl 37 m c0 S) (hf : S.2.1 = 0) (hd2 : 3 ≤ d)  : ∃ σ', Ev d 220 [(68, 0), (0, 131)] (Wd xs t dd rr s) (0, b2i ((hdS tk tw pl (σ 37 1) 3 S).2.1 = 0)) (Wd xs t dd rr σ') ∧ HDP σ' σ tk tw pl 37 m c0 3 S := by
  obtain ⟨d, rfl⟩ : ∃ e, d = e + 1 := ⟨d - 1, by omega⟩
  have hA0 : ADV D rr σ tk tw pl 37 m c0 := by have := hA (σ 56 (σ 37 1)); rw [up_id] at this; exact this
  refine evS (nL := 2) (code := k_X7_readHead) rfl dc_X7_readHead rfl (fun E hE => ?_)
  show pCm (Ev d) k_X7_readHead E 0 [(68, 0), (0, 131)] [] _
  refine R_iload rfl rfl ?_
  refine R_push rfl ?_
  refine R_ic rfl (fun _ => ?_) (fun h4 => absurd (by omega) h4)
  refine R_iload rfl rfl ?_
  refine R_push rfl ?_
  refine R_ic rfl (fun _ => ?_) (fun h33 => absurd (by omega) h33)
  refine R_iload rfl rfl ?_
  refine R_push rfl ?_
  refine R_ic rfl (fun h66 => absurd h66 (by omega)) (fun _ => ?_)
  refine R_aload rfl rfl rfl ?_
  refine R_push rfl ?_
  refine R_push rfl ?_
  obtain ⟨s1, hev1, hN1⟩ := sp_X7_readNumber d (by omega) xs t dd rr σ s 0 7 D (by omega) tk tw pl 37 (by simp) m c0 S hA0 h hf (by omega)
  refine R_invv rfl rfl rfl rfl rfl rfl (hev1) rfl ?_
  show pCm _ _ _ 76 _ [(0, _)] _
  refine R_if rfl (fun h76 => ?_) (fun h76 => ?_)
  · try simp only [ne_eq, b2i_e, b2i_1, Classical.not_not] at h76
    refine R_push rfl ?_
    refine R_zret rfl (by first | exact Or.inl rfl | exact Or.inr rfl | omega | (unfold b2i; split <;> simp; done) | grind) ?_
    have e : hdS tk tw pl (σ 37 1) 3 S = tsg tk pl 132 (tnm tk tw pl 0 7 S) := by unfold hdS; rw [if_neg (by omega), if_neg (by omega), if_pos rfl]
    first
    | (have hn : (tnm tk tw pl 0 7 S).2.1 ≠ 0 := by first | exact h76 | omega
       exact hE _ _ (by rw [e, tsg_fe hn, b2i_f hn]) ⟨σ, Or.inl rfl, fun w => absurd w (by omega), by rw [e, tsg_fe hn]; exact hN1⟩)
    | (have hn : (tsg tk pl 132 (tnm tk tw pl 0 7 S)).2.1 = 0 := by first | exact h86 | omega
       exact hE _ _ (by rw [e, b2i_t hn]) ⟨_, Or.inl rfl, fun w => absurd w (by omega), by rw [e]; exact hC3⟩)
    | (have hn : (tsg tk pl 132 (tnm tk tw pl 0 7 S)).2.1 ≠ 0 := by first | exact h86 | omega
       exact hE _ _ (by rw [e, b2i_f hn]) ⟨_, Or.inl rfl, fun w => absurd w (by omega), by rw [e]; exact hC3⟩)
  · try simp only [ne_eq, b2i_e, b2i_1, Classical.not_not] at h76
    refine R_aload rfl rfl rfl ?_
    refine R_push rfl ?_
    have hz : (tnm tk tw pl 0 7 S).2.1 = 0 := by first | exact h76 | omega
    obtain ⟨s3, hev3, hC3⟩ := sp_X7_accept d (by omega) xs t dd rr σ s1 132 (by decide) D (by omega) tk tw pl 37 (by simp) m c0 (tnm tk tw pl 0 7 S) hA0 hN1 hz (by omega)
    refine R_invv rfl rfl rfl rfl rfl rfl (hev3) rfl ?_
    show pCm _ _ _ 86 _ [(0, _)] _
    refine R_if rfl (fun h86 => ?_) (fun h86 => ?_)
    · try simp only [ne_eq, b2i_e, b2i_1, Classical.not_not] at h86
      refine R_push rfl ?_
      refine R_zret rfl (by first | exact Or.inl rfl | exact Or.inr rfl | omega | (unfold b2i; split <;> simp; done) | grind) ?_
      have e : hdS tk tw pl (σ 37 1) 3 S = tsg tk pl 132 (tnm tk tw pl 0 7 S) := by unfold hdS; rw [if_neg (by omega), if_neg (by omega), if_pos rfl]
      first
      | (have hn : (tnm tk tw pl 0 7 S).2.1 ≠ 0 := by first | exact h76 | omega
         exact hE _ _ (by rw [e, tsg_fe hn, b2i_f hn]) ⟨σ, Or.inl rfl, fun w => absurd w (by omega), by rw [e, tsg_fe hn]; exact hN1⟩)
      | (have hn : (tsg tk pl 132 (tnm tk tw pl 0 7 S)).2.1 = 0 := by first | exact h86 | omega
         exact hE _ _ (by rw [e, b2i_t hn]) ⟨_, Or.inl rfl, fun w => absurd w (by omega), by rw [e]; exact hC3⟩)
      | (have hn : (tsg tk pl 132 (tnm tk tw pl 0 7 S)).2.1 ≠ 0 := by first | exact h86 | omega
         exact hE _ _ (by rw [e, b2i_f hn]) ⟨_, Or.inl rfl, fun w => absurd w (by omega), by rw [e]; exact hC3⟩)
    · try simp only [ne_eq, b2i_e, b2i_1, Classical.not_not] at h86
      refine R_push rfl ?_
      refine R_goto rfl ?_
      refine R_zret rfl (by first | exact Or.inl rfl | exact Or.inr rfl | omega | (unfold b2i; split <;> simp; done) | grind) ?_
      have e : hdS tk tw pl (σ 37 1) 3 S = tsg tk pl 132 (tnm tk tw pl 0 7 S) := by unfold hdS; rw [if_neg (by omega), if_neg (by omega), if_pos rfl]
      first
      | (have hn : (tnm tk tw pl 0 7 S).2.1 ≠ 0 := by first | exact h76 | omega
         exact hE _ _ (by rw [e, tsg_fe hn, b2i_f hn]) ⟨σ, Or.inl rfl, fun w => absurd w (by omega), by rw [e, tsg_fe hn]; exact hN1⟩)
      | (have hn : (tsg tk pl 132 (tnm tk tw pl 0 7 S)).2.1 = 0 := by first | exact h86 | omega
         exact hE _ _ (by rw [e, b2i_t hn]) ⟨_, Or.inl rfl, fun w => absurd w (by omega), by rw [e]; exact hC3⟩)
      | (have hn : (tsg tk pl 132 (tnm tk tw pl 0 7 S)).2.1 ≠ 0 := by first | exact h86 | omega
         exact hE _ _ (by rw [e, b2i_f hn]) ⟨_, Or.inl rfl, fun w => absurd w (by omega), by rw [e]; exact hC3⟩)
set_option maxRecDepth 20000 in
set_option maxHeartbeats 2000000 in
theorem hd_1_37 (d : Nat) (hd : 1 ≤ d) (xs : List (Nat × Nat)) (t dd rr : Nat) (σ s : Sg) (D : Nat) (hD : D + 2 ≤ d) (hr : rr = 53) (tk tw pl : Int → Int) (m c0 : Int) (S : PSt) (hM : 0 ≤ σ 37 1 ∧ σ 37 1 ≤ 8) (hA : ∀ v, ADV D rr (up2 σ 56 (σ 37 1) v) tk tw pl 37 m c0) (h : CSx s σ tk tw pl 37 m c0 S) (hf : S.2.1 = 0) (hd2 : 3 ≤ d)  : ∃ σ', Ev d 220 [(68, 0), (0, 129)] (Wd xs t dd rr s) (0, b2i ((hdS tk tw pl (σ 37 1) 1 S).2.1 = 0)) (Wd xs t dd rr σ') ∧ HDP σ' σ tk tw pl 37 m c0 1 S := by
  obtain ⟨d, rfl⟩ : ∃ e, d = e + 1 := ⟨d - 1, by omega⟩
  have hA0 : ADV D rr σ tk tw pl 37 m c0 := by have := hA (σ 56 (σ 37 1)); rw [up_id] at this; exact this
  refine evS (nL := 2) (code := k_X7_readHead) rfl dc_X7_readHead rfl (fun E hE => ?_)
  show pCm (Ev d) k_X7_readHead E 0 [(68, 0), (0, 129)] [] _
  refine R_iload rfl rfl ?_
  refine R_push rfl ?_
  refine R_ic rfl (fun _ => ?_) (fun h4 => absurd (by omega) h4)
  refine R_iload rfl rfl ?_
  refine R_push rfl ?_
  refine R_ic rfl (fun _ => ?_) (fun h33 => absurd (by omega) h33)
  refine R_iload rfl rfl ?_
  refine R_push rfl ?_
  refine R_ic rfl (fun _ => ?_) (fun h66 => absurd (by omega) h66)
  refine R_aload rfl rfl rfl ?_
  refine R_push rfl ?_
  obtain ⟨s3, hev3, hC3⟩ := sp_X7_accept d (by omega) xs t dd rr σ s 132 (by decide) D (by omega) tk tw pl 37 (by simp) m c0 (S) hA0 h hf (by omega)
  refine R_invv rfl rfl rfl rfl rfl rfl (hev3) rfl ?_
  show pCm _ _ _ 102 _ [(0, _)] _
  refine R_zret rfl (by first | exact Or.inl rfl | exact Or.inr rfl | omega | (unfold b2i; split <;> simp; done) | grind) ?_
  have e : hdS tk tw pl (σ 37 1) 1 S = tsg tk pl 132 S := by unfold hdS; rw [if_neg (by omega), if_neg (by omega), if_neg (by omega)]
  exact hE _ _ (by rw [e]) ⟨_, Or.inl rfl, fun w => absurd w (by omega), by rw [e]; exact hC3⟩
theorem sp_X7_readHead_37 (d : Nat) (hd : 1 ≤ d) (xs : List (Nat × Nat)) (t dd rr : Nat) (σ s : Sg) (k : Int) (hk : 0 ≤ k ∧ k ≤ 3) (D : Nat) (hD : D + 2 ≤ d) (hr : rr = 53) (tk tw pl : Int → Int) (m c0 : Int) (S : PSt) (hM : 0 ≤ σ 37 1 ∧ σ 37 1 ≤ 8) (hA : ∀ v, ADV D rr (up2 σ 56 (σ 37 1) v) tk tw pl 37 m c0) (h : CSx s σ tk tw pl 37 m c0 S) (hf : S.2.1 = 0) (hd2 : 3 ≤ d) : ∃ σ', Ev d 220 [(68, 0), (0, 128 + k)] (Wd xs t dd rr s) (0, b2i ((hdS tk tw pl (σ 37 1) k S).2.1 = 0)) (Wd xs t dd rr σ') ∧ HDP σ' σ tk tw pl 37 m c0 k S := by
  rcases (show k = 0 ∨ k = 1 ∨ k = 2 ∨ k = 3 by omega) with z | z | z | z <;> subst z
  · exact hd_0_37 d hd xs t dd rr σ s D hD hr tk tw pl m c0 S hM hA h hf hd2
  · exact hd_1_37 d hd xs t dd rr σ s D hD hr tk tw pl m c0 S hM hA h hf hd2
  · exact hd_2_37 d hd xs t dd rr σ s D hD hr tk tw pl m c0 S hM hA h hf hd2
  · exact hd_3_37 d hd xs t dd rr σ s D hD hr tk tw pl m c0 S hM hA h hf hd2
set_option maxRecDepth 20000 in
set_option maxHeartbeats 2000000 in
theorem hd_0_44 (d : Nat) (hd : 1 ≤ d) (xs : List (Nat × Nat)) (t dd rr : Nat) (σ s : Sg) (D : Nat) (hD : D + 2 ≤ d) (hr : rr = 60) (tk tw pl : Int → Int) (m c0 : Int) (S : PSt) (hM : 0 ≤ σ 44 1 ∧ σ 44 1 ≤ 8) (hA : ∀ v, ADV D rr (up2 σ 56 (σ 44 1) v) tk tw pl 44 m c0) (h : CSx s σ tk tw pl 44 m c0 S) (hf : S.2.1 = 0) (hd2 : 3 ≤ d)  : ∃ σ', Ev d 220 [(68, 0), (0, 128)] (Wd xs t dd rr s) (0, b2i ((hdS tk tw pl (σ 44 1) 0 S).2.1 = 0)) (Wd xs t dd rr σ') ∧ HDP σ' σ tk tw pl 44 m c0 0 S := by
  obtain ⟨d, rfl⟩ : ∃ e, d = e + 1 := ⟨d - 1, by omega⟩
  have hA0 : ADV D rr σ tk tw pl 44 m c0 := by have := hA (σ 56 (σ 44 1)); rw [up_id] at this; exact this
  refine evS (nL := 2) (code := k_X7_readHead) rfl dc_X7_readHead rfl (fun E hE => ?_)
  show pCm (Ev d) k_X7_readHead E 0 [(68, 0), (0, 128)] [] _
  refine R_iload rfl rfl ?_
  refine R_push rfl ?_
  refine R_ic rfl (fun h4 => absurd h4 (by omega)) (fun _ => ?_)
  refine R_aload rfl rfl rfl ?_
  obtain ⟨s1, hev1, hN1, hN2⟩ := sp_X7_readNewName_44 d (by omega) xs t dd rr σ s D (by omega) hr tk tw pl m c0 S hM hA h hf (by omega)
  refine R_invv rfl rfl rfl rfl rfl rfl (hev1) rfl ?_
  show pCm _ _ _ 11 _ [(0, _)] _
  refine R_if rfl (fun h11 => ?_) (fun h11 => ?_)
  · try simp only [ne_eq, b2i_e, b2i_1, Classical.not_not] at h11
    refine R_push rfl ?_
    refine R_zret rfl (by first | exact Or.inl rfl | exact Or.inr rfl | omega | (unfold b2i; split <;> simp; done) | grind) ?_
    have e : hdS tk tw pl (σ 44 1) 0 S = tsg tk pl 61 (tnn tk tw pl (σ 44 1) S) := by unfold hdS; rw [if_pos rfl]
    first
    | (have hn : (tnn tk tw pl (σ 44 1) S).2.1 ≠ 0 := by first | exact h11 | omega
       exact hE _ _ (by rw [e, tsg_fe hn, b2i_f hn]) ⟨σ, Or.inl rfl, fun _ w => absurd w (by rw [e, tsg_fe hn]; exact hn), by rw [e, tsg_fe hn]; exact hN2 hn⟩)
    | (have hn : (tsg tk pl 61 (tnn tk tw pl (σ 44 1) S)).2.1 = 0 := by first | exact h20 | omega
       exact hE _ _ (by rw [e, b2i_t hn]) ⟨_, Or.inr rfl, fun _ _ => rfl, by rw [e]; exact hC3⟩)
    | (have hn : (tsg tk pl 61 (tnn tk tw pl (σ 44 1) S)).2.1 ≠ 0 := by first | exact h20 | omega
       exact hE _ _ (by rw [e, b2i_f hn]) ⟨_, Or.inr rfl, fun _ _ => rfl, by rw [e]; exact hC3⟩)
  · try simp only [ne_eq, b2i_e, b2i_1, Classical.not_not] at h11
    refine R_aload rfl rfl rfl ?_
    refine R_push rfl ?_
    have hz : (tnn tk tw pl (σ 44 1) S).2.1 = 0 := by first | exact h11 | omega
    obtain ⟨s3, hev3, hC3⟩ := sp_X7_accept d (by omega) xs t dd rr _ s1 61 (by decide) D (by omega) tk tw pl 44 (by simp) m c0 (tnn tk tw pl (σ 44 1) S) (hA _) (hN1 hz) hz (by omega)
    refine R_invv rfl rfl rfl rfl rfl rfl (hev3) rfl ?_
    show pCm _ _ _ 20 _ [(0, _)] _
    refine R_if rfl (fun h20 => ?_) (fun h20 => ?_)
    · try simp only [ne_eq, b2i_e, b2i_1, Classical.not_not] at h20
      refine R_push rfl ?_
      refine R_zret rfl (by first | exact Or.inl rfl | exact Or.inr rfl | omega | (unfold b2i; split <;> simp; done) | grind) ?_
      have e : hdS tk tw pl (σ 44 1) 0 S = tsg tk pl 61 (tnn tk tw pl (σ 44 1) S) := by unfold hdS; rw [if_pos rfl]
      first
      | (have hn : (tnn tk tw pl (σ 44 1) S).2.1 ≠ 0 := by first | exact h11 | omega
         exact hE _ _ (by rw [e, tsg_fe hn, b2i_f hn]) ⟨σ, Or.inl rfl, fun _ w => absurd w (by rw [e, tsg_fe hn]; exact hn), by rw [e, tsg_fe hn]; exact hN2 hn⟩)
      | (have hn : (tsg tk pl 61 (tnn tk tw pl (σ 44 1) S)).2.1 = 0 := by first | exact h20 | omega
         exact hE _ _ (by rw [e, b2i_t hn]) ⟨_, Or.inr rfl, fun _ _ => rfl, by rw [e]; exact hC3⟩)
      | (have hn : (tsg tk pl 61 (tnn tk tw pl (σ 44 1) S)).2.1 ≠ 0 := by first | exact h20 | omega
         exact hE _ _ (by rw [e, b2i_f hn]) ⟨_, Or.inr rfl, fun _ _ => rfl, by rw [e]; exact hC3⟩)
    · try simp only [ne_eq, b2i_e, b2i_1, Classical.not_not] at h20
      refine R_push rfl ?_
      refine R_goto rfl ?_
      refine R_zret rfl (by first | exact Or.inl rfl | exact Or.inr rfl | omega | (unfold b2i; split <;> simp; done) | grind) ?_
      have e : hdS tk tw pl (σ 44 1) 0 S = tsg tk pl 61 (tnn tk tw pl (σ 44 1) S) := by unfold hdS; rw [if_pos rfl]
      first
      | (have hn : (tnn tk tw pl (σ 44 1) S).2.1 ≠ 0 := by first | exact h11 | omega
         exact hE _ _ (by rw [e, tsg_fe hn, b2i_f hn]) ⟨σ, Or.inl rfl, fun _ w => absurd w (by rw [e, tsg_fe hn]; exact hn), by rw [e, tsg_fe hn]; exact hN2 hn⟩)
      | (have hn : (tsg tk pl 61 (tnn tk tw pl (σ 44 1) S)).2.1 = 0 := by first | exact h20 | omega
         exact hE _ _ (by rw [e, b2i_t hn]) ⟨_, Or.inr rfl, fun _ _ => rfl, by rw [e]; exact hC3⟩)
      | (have hn : (tsg tk pl 61 (tnn tk tw pl (σ 44 1) S)).2.1 ≠ 0 := by first | exact h20 | omega
         exact hE _ _ (by rw [e, b2i_f hn]) ⟨_, Or.inr rfl, fun _ _ => rfl, by rw [e]; exact hC3⟩)
set_option maxRecDepth 20000 in
set_option maxHeartbeats 2000000 in
theorem hd_2_44 (d : Nat) (hd : 1 ≤ d) (xs : List (Nat × Nat)) (t dd rr : Nat) (σ s : Sg) (D : Nat) (hD : D + 2 ≤ d) (hr : rr = 60) (tk tw pl : Int → Int) (m c0 : Int) (S : PSt) (hM : 0 ≤ σ 44 1 ∧ σ 44 1 ≤ 8) (hA : ∀ v, ADV D rr (up2 σ 56 (σ 44 1) v) tk tw pl 44 m c0) (h : CSx s σ tk tw pl 44 m c0 S) (hf : S.2.1 = 0) (hd2 : 3 ≤ d)  : ∃ σ', Ev d 220 [(68, 0), (0, 130)] (Wd xs t dd rr s) (0, b2i ((hdS tk tw pl (σ 44 1) 2 S).2.1 = 0)) (Wd xs t dd rr σ') ∧ HDP σ' σ tk tw pl 44 m c0 2 S := by
  obtain ⟨d, rfl⟩ : ∃ e, d = e + 1 := ⟨d - 1, by omega⟩
  have hA0 : ADV D rr σ tk tw pl 44 m c0 := by have := hA (σ 56 (σ 44 1)); rw [up_id] at this; exact this
  refine evS (nL := 2) (code := k_X7_readHead) rfl dc_X7_readHead rfl (fun E hE => ?_)
  show pCm (Ev d) k_X7_readHead E 0 [(68, 0), (0, 130)] [] _
  refine R_iload rfl rfl ?_
  refine R_push rfl ?_
  refine R_ic rfl (fun _ => ?_) (fun h4 => absurd (by omega) h4)
  refine R_iload rfl rfl ?_
  refine R_push rfl ?_
  refine R_ic rfl (fun h33 => absurd h33 (by omega)) (fun _ => ?_)
  refine R_aload rfl rfl rfl ?_
  refine R_push rfl ?_
  refine R_push rfl ?_
  obtain ⟨s1, hev1, hN1⟩ := sp_X7_readNumber d (by omega) xs t dd rr σ s 1 99 D (by omega) tk tw pl 44 (by simp) m c0 S hA0 h hf (by omega)
  refine R_invv rfl rfl rfl rfl rfl rfl (hev1) rfl ?_
  show pCm _ _ _ 43 _ [(0, _)] _
  refine R_if rfl (fun h43 => ?_) (fun h43 => ?_)
  · try simp only [ne_eq, b2i_e, b2i_1, Classical.not_not] at h43
    refine R_push rfl ?_
    refine R_zret rfl (by first | exact Or.inl rfl | exact Or.inr rfl | omega | (unfold b2i; split <;> simp; done) | grind) ?_
    have e : hdS tk tw pl (σ 44 1) 2 S = tsg tk pl 132 (tnm tk tw pl 1 99 S) := by unfold hdS; rw [if_neg (by omega), if_pos rfl]
    first
    | (have hn : (tnm tk tw pl 1 99 S).2.1 ≠ 0 := by first | exact h43 | omega
       exact hE _ _ (by rw [e, tsg_fe hn, b2i_f hn]) ⟨σ, Or.inl rfl, fun w => absurd w (by omega), by rw [e, tsg_fe hn]; exact hN1⟩)
    | (have hn : (tsg tk pl 132 (tnm tk tw pl 1 99 S)).2.1 = 0 := by first | exact h53 | omega
       exact hE _ _ (by rw [e, b2i_t hn]) ⟨_, Or.inl rfl, fun w => absurd w (by omega), by rw [e]; exact hC3⟩)
    | (have hn : (tsg tk pl 132 (tnm tk tw pl 1 99 S)).2.1 ≠ 0 := by first | exact h53 | omega
       exact hE _ _ (by rw [e, b2i_f hn]) ⟨_, Or.inl rfl, fun w => absurd w (by omega), by rw [e]; exact hC3⟩)
  · try simp only [ne_eq, b2i_e, b2i_1, Classical.not_not] at h43
    refine R_aload rfl rfl rfl ?_
    refine R_push rfl ?_
    have hz : (tnm tk tw pl 1 99 S).2.1 = 0 := by first | exact h43 | omega
    obtain ⟨s3, hev3, hC3⟩ := sp_X7_accept d (by omega) xs t dd rr σ s1 132 (by decide) D (by omega) tk tw pl 44 (by simp) m c0 (tnm tk tw pl 1 99 S) hA0 hN1 hz (by omega)
    refine R_invv rfl rfl rfl rfl rfl rfl (hev3) rfl ?_
    show pCm _ _ _ 53 _ [(0, _)] _
    refine R_if rfl (fun h53 => ?_) (fun h53 => ?_)
    · try simp only [ne_eq, b2i_e, b2i_1, Classical.not_not] at h53
      refine R_push rfl ?_
      refine R_zret rfl (by first | exact Or.inl rfl | exact Or.inr rfl | omega | (unfold b2i; split <;> simp; done) | grind) ?_
      have e : hdS tk tw pl (σ 44 1) 2 S = tsg tk pl 132 (tnm tk tw pl 1 99 S) := by unfold hdS; rw [if_neg (by omega), if_pos rfl]
      first
      | (have hn : (tnm tk tw pl 1 99 S).2.1 ≠ 0 := by first | exact h43 | omega
         exact hE _ _ (by rw [e, tsg_fe hn, b2i_f hn]) ⟨σ, Or.inl rfl, fun w => absurd w (by omega), by rw [e, tsg_fe hn]; exact hN1⟩)
      | (have hn : (tsg tk pl 132 (tnm tk tw pl 1 99 S)).2.1 = 0 := by first | exact h53 | omega
         exact hE _ _ (by rw [e, b2i_t hn]) ⟨_, Or.inl rfl, fun w => absurd w (by omega), by rw [e]; exact hC3⟩)
      | (have hn : (tsg tk pl 132 (tnm tk tw pl 1 99 S)).2.1 ≠ 0 := by first | exact h53 | omega
         exact hE _ _ (by rw [e, b2i_f hn]) ⟨_, Or.inl rfl, fun w => absurd w (by omega), by rw [e]; exact hC3⟩)
    · try simp only [ne_eq, b2i_e, b2i_1, Classical.not_not] at h53
      refine R_push rfl ?_
      refine R_goto rfl ?_
      refine R_zret rfl (by first | exact Or.inl rfl | exact Or.inr rfl | omega | (unfold b2i; split <;> simp; done) | grind) ?_
      have e : hdS tk tw pl (σ 44 1) 2 S = tsg tk pl 132 (tnm tk tw pl 1 99 S) := by unfold hdS; rw [if_neg (by omega), if_pos rfl]
      first
      | (have hn : (tnm tk tw pl 1 99 S).2.1 ≠ 0 := by first | exact h43 | omega
         exact hE _ _ (by rw [e, tsg_fe hn, b2i_f hn]) ⟨σ, Or.inl rfl, fun w => absurd w (by omega), by rw [e, tsg_fe hn]; exact hN1⟩)
      | (have hn : (tsg tk pl 132 (tnm tk tw pl 1 99 S)).2.1 = 0 := by first | exact h53 | omega
         exact hE _ _ (by rw [e, b2i_t hn]) ⟨_, Or.inl rfl, fun w => absurd w (by omega), by rw [e]; exact hC3⟩)
      | (have hn : (tsg tk pl 132 (tnm tk tw pl 1 99 S)).2.1 ≠ 0 := by first | exact h53 | omega
         exact hE _ _ (by rw [e, b2i_f hn]) ⟨_, Or.inl rfl, fun w => absurd w (by omega), by rw [e]; exact hC3⟩)
set_option maxRecDepth 20000 in
set_option maxHeartbeats 2000000 in
theorem hd_3_44 (d : Nat) (hd : 1 ≤ d) (xs : List (Nat × Nat)) (t dd rr : Nat) (σ s : Sg) (D : Nat) (hD : D + 2 ≤ d) (hr : rr = 60) (tk tw pl : Int → Int) (m c0 : Int) (S : PSt) (hM : 0 ≤ σ 44 1 ∧ σ 44 1 ≤ 8) (hA : ∀ v, ADV D rr (up2 σ 56 (σ 44 1) v) tk tw pl 44 m c0) (h : CSx s σ tk tw pl 44 m c0 S) (hf : S.2.1 = 0) (hd2 : 3 ≤ d)  : ∃ σ', Ev d 220 [(68, 0), (0, 131)] (Wd xs t dd rr s) (0, b2i ((hdS tk tw pl (σ 44 1) 3 S).2.1 = 0)) (Wd xs t dd rr σ') ∧ HDP σ' σ tk tw pl 44 m c0 3 S := by
  obtain ⟨d, rfl⟩ : ∃ e, d = e + 1 := ⟨d - 1, by omega⟩
  have hA0 : ADV D rr σ tk tw pl 44 m c0 := by have := hA (σ 56 (σ 44 1)); rw [up_id] at this; exact this
  refine evS (nL := 2) (code := k_X7_readHead) rfl dc_X7_readHead rfl (fun E hE => ?_)
  show pCm (Ev d) k_X7_readHead E 0 [(68, 0), (0, 131)] [] _
  refine R_iload rfl rfl ?_
  refine R_push rfl ?_
  refine R_ic rfl (fun _ => ?_) (fun h4 => absurd (by omega) h4)
  refine R_iload rfl rfl ?_
  refine R_push rfl ?_
  refine R_ic rfl (fun _ => ?_) (fun h33 => absurd (by omega) h33)
  refine R_iload rfl rfl ?_
  refine R_push rfl ?_
  refine R_ic rfl (fun h66 => absurd h66 (by omega)) (fun _ => ?_)
  refine R_aload rfl rfl rfl ?_
  refine R_push rfl ?_
  refine R_push rfl ?_
  obtain ⟨s1, hev1, hN1⟩ := sp_X7_readNumber d (by omega) xs t dd rr σ s 0 7 D (by omega) tk tw pl 44 (by simp) m c0 S hA0 h hf (by omega)
  refine R_invv rfl rfl rfl rfl rfl rfl (hev1) rfl ?_
  show pCm _ _ _ 76 _ [(0, _)] _
  refine R_if rfl (fun h76 => ?_) (fun h76 => ?_)
  · try simp only [ne_eq, b2i_e, b2i_1, Classical.not_not] at h76
    refine R_push rfl ?_
    refine R_zret rfl (by first | exact Or.inl rfl | exact Or.inr rfl | omega | (unfold b2i; split <;> simp; done) | grind) ?_
    have e : hdS tk tw pl (σ 44 1) 3 S = tsg tk pl 132 (tnm tk tw pl 0 7 S) := by unfold hdS; rw [if_neg (by omega), if_neg (by omega), if_pos rfl]
    first
    | (have hn : (tnm tk tw pl 0 7 S).2.1 ≠ 0 := by first | exact h76 | omega
       exact hE _ _ (by rw [e, tsg_fe hn, b2i_f hn]) ⟨σ, Or.inl rfl, fun w => absurd w (by omega), by rw [e, tsg_fe hn]; exact hN1⟩)
    | (have hn : (tsg tk pl 132 (tnm tk tw pl 0 7 S)).2.1 = 0 := by first | exact h86 | omega
       exact hE _ _ (by rw [e, b2i_t hn]) ⟨_, Or.inl rfl, fun w => absurd w (by omega), by rw [e]; exact hC3⟩)
    | (have hn : (tsg tk pl 132 (tnm tk tw pl 0 7 S)).2.1 ≠ 0 := by first | exact h86 | omega
       exact hE _ _ (by rw [e, b2i_f hn]) ⟨_, Or.inl rfl, fun w => absurd w (by omega), by rw [e]; exact hC3⟩)
  · try simp only [ne_eq, b2i_e, b2i_1, Classical.not_not] at h76
    refine R_aload rfl rfl rfl ?_
    refine R_push rfl ?_
    have hz : (tnm tk tw pl 0 7 S).2.1 = 0 := by first | exact h76 | omega
    obtain ⟨s3, hev3, hC3⟩ := sp_X7_accept d (by omega) xs t dd rr σ s1 132 (by decide) D (by omega) tk tw pl 44 (by simp) m c0 (tnm tk tw pl 0 7 S) hA0 hN1 hz (by omega)
    refine R_invv rfl rfl rfl rfl rfl rfl (hev3) rfl ?_
    show pCm _ _ _ 86 _ [(0, _)] _
    refine R_if rfl (fun h86 => ?_) (fun h86 => ?_)
    · try simp only [ne_eq, b2i_e, b2i_1, Classical.not_not] at h86
      refine R_push rfl ?_
      refine R_zret rfl (by first | exact Or.inl rfl | exact Or.inr rfl | omega | (unfold b2i; split <;> simp; done) | grind) ?_
      have e : hdS tk tw pl (σ 44 1) 3 S = tsg tk pl 132 (tnm tk tw pl 0 7 S) := by unfold hdS; rw [if_neg (by omega), if_neg (by omega), if_pos rfl]
      first
      | (have hn : (tnm tk tw pl 0 7 S).2.1 ≠ 0 := by first | exact h76 | omega
         exact hE _ _ (by rw [e, tsg_fe hn, b2i_f hn]) ⟨σ, Or.inl rfl, fun w => absurd w (by omega), by rw [e, tsg_fe hn]; exact hN1⟩)
      | (have hn : (tsg tk pl 132 (tnm tk tw pl 0 7 S)).2.1 = 0 := by first | exact h86 | omega
         exact hE _ _ (by rw [e, b2i_t hn]) ⟨_, Or.inl rfl, fun w => absurd w (by omega), by rw [e]; exact hC3⟩)
      | (have hn : (tsg tk pl 132 (tnm tk tw pl 0 7 S)).2.1 ≠ 0 := by first | exact h86 | omega
         exact hE _ _ (by rw [e, b2i_f hn]) ⟨_, Or.inl rfl, fun w => absurd w (by omega), by rw [e]; exact hC3⟩)
    · try simp only [ne_eq, b2i_e, b2i_1, Classical.not_not] at h86
      refine R_push rfl ?_
      refine R_goto rfl ?_
      refine R_zret rfl (by first | exact Or.inl rfl | exact Or.inr rfl | omega | (unfold b2i; split <;> simp; done) | grind) ?_
      have e : hdS tk tw pl (σ 44 1) 3 S = tsg tk pl 132 (tnm tk tw pl 0 7 S) := by unfold hdS; rw [if_neg (by omega), if_neg (by omega), if_pos rfl]
      first
      | (have hn : (tnm tk tw pl 0 7 S).2.1 ≠ 0 := by first | exact h76 | omega
         exact hE _ _ (by rw [e, tsg_fe hn, b2i_f hn]) ⟨σ, Or.inl rfl, fun w => absurd w (by omega), by rw [e, tsg_fe hn]; exact hN1⟩)
      | (have hn : (tsg tk pl 132 (tnm tk tw pl 0 7 S)).2.1 = 0 := by first | exact h86 | omega
         exact hE _ _ (by rw [e, b2i_t hn]) ⟨_, Or.inl rfl, fun w => absurd w (by omega), by rw [e]; exact hC3⟩)
      | (have hn : (tsg tk pl 132 (tnm tk tw pl 0 7 S)).2.1 ≠ 0 := by first | exact h86 | omega
         exact hE _ _ (by rw [e, b2i_f hn]) ⟨_, Or.inl rfl, fun w => absurd w (by omega), by rw [e]; exact hC3⟩)
set_option maxRecDepth 20000 in
set_option maxHeartbeats 2000000 in
theorem hd_1_44 (d : Nat) (hd : 1 ≤ d) (xs : List (Nat × Nat)) (t dd rr : Nat) (σ s : Sg) (D : Nat) (hD : D + 2 ≤ d) (hr : rr = 60) (tk tw pl : Int → Int) (m c0 : Int) (S : PSt) (hM : 0 ≤ σ 44 1 ∧ σ 44 1 ≤ 8) (hA : ∀ v, ADV D rr (up2 σ 56 (σ 44 1) v) tk tw pl 44 m c0) (h : CSx s σ tk tw pl 44 m c0 S) (hf : S.2.1 = 0) (hd2 : 3 ≤ d)  : ∃ σ', Ev d 220 [(68, 0), (0, 129)] (Wd xs t dd rr s) (0, b2i ((hdS tk tw pl (σ 44 1) 1 S).2.1 = 0)) (Wd xs t dd rr σ') ∧ HDP σ' σ tk tw pl 44 m c0 1 S := by
  obtain ⟨d, rfl⟩ : ∃ e, d = e + 1 := ⟨d - 1, by omega⟩
  have hA0 : ADV D rr σ tk tw pl 44 m c0 := by have := hA (σ 56 (σ 44 1)); rw [up_id] at this; exact this
  refine evS (nL := 2) (code := k_X7_readHead) rfl dc_X7_readHead rfl (fun E hE => ?_)
  show pCm (Ev d) k_X7_readHead E 0 [(68, 0), (0, 129)] [] _
  refine R_iload rfl rfl ?_
  refine R_push rfl ?_
  refine R_ic rfl (fun _ => ?_) (fun h4 => absurd (by omega) h4)
  refine R_iload rfl rfl ?_
  refine R_push rfl ?_
  refine R_ic rfl (fun _ => ?_) (fun h33 => absurd (by omega) h33)
  refine R_iload rfl rfl ?_
  refine R_push rfl ?_
  refine R_ic rfl (fun _ => ?_) (fun h66 => absurd (by omega) h66)
  refine R_aload rfl rfl rfl ?_
  refine R_push rfl ?_
  obtain ⟨s3, hev3, hC3⟩ := sp_X7_accept d (by omega) xs t dd rr σ s 132 (by decide) D (by omega) tk tw pl 44 (by simp) m c0 (S) hA0 h hf (by omega)
  refine R_invv rfl rfl rfl rfl rfl rfl (hev3) rfl ?_
  show pCm _ _ _ 102 _ [(0, _)] _
  refine R_zret rfl (by first | exact Or.inl rfl | exact Or.inr rfl | omega | (unfold b2i; split <;> simp; done) | grind) ?_
  have e : hdS tk tw pl (σ 44 1) 1 S = tsg tk pl 132 S := by unfold hdS; rw [if_neg (by omega), if_neg (by omega), if_neg (by omega)]
  exact hE _ _ (by rw [e]) ⟨_, Or.inl rfl, fun w => absurd w (by omega), by rw [e]; exact hC3⟩
theorem sp_X7_readHead_44 (d : Nat) (hd : 1 ≤ d) (xs : List (Nat × Nat)) (t dd rr : Nat) (σ s : Sg) (k : Int) (hk : 0 ≤ k ∧ k ≤ 3) (D : Nat) (hD : D + 2 ≤ d) (hr : rr = 60) (tk tw pl : Int → Int) (m c0 : Int) (S : PSt) (hM : 0 ≤ σ 44 1 ∧ σ 44 1 ≤ 8) (hA : ∀ v, ADV D rr (up2 σ 56 (σ 44 1) v) tk tw pl 44 m c0) (h : CSx s σ tk tw pl 44 m c0 S) (hf : S.2.1 = 0) (hd2 : 3 ≤ d) : ∃ σ', Ev d 220 [(68, 0), (0, 128 + k)] (Wd xs t dd rr s) (0, b2i ((hdS tk tw pl (σ 44 1) k S).2.1 = 0)) (Wd xs t dd rr σ') ∧ HDP σ' σ tk tw pl 44 m c0 k S := by
  rcases (show k = 0 ∨ k = 1 ∨ k = 2 ∨ k = 3 by omega) with z | z | z | z <;> subst z
  · exact hd_0_44 d hd xs t dd rr σ s D hD hr tk tw pl m c0 S hM hA h hf hd2
  · exact hd_1_44 d hd xs t dd rr σ s D hD hr tk tw pl m c0 S hM hA h hf hd2
  · exact hd_2_44 d hd xs t dd rr σ s D hD hr tk tw pl m c0 S hM hA h hf hd2
  · exact hd_3_44 d hd xs t dd rr σ s D hD hr tk tw pl m c0 S hM hA h hf hd2
/-- what a line leaves in the class, when one begins -/
def LnC (σ σ' : Sg) (tk tw pl : Int → Int) (B : Nat) (m c0 i : Int) (L : PSt) : Prop := ∃ s10 σ1, (σ1 = σ ∨ σ1 = up2 σ 56 (σ B 1) (ltC σ (pl (i + 1)))) ∧ (tk i = 128 → L.2.1 = 0 → σ1 = up2 σ 56 (σ B 1) (ltC σ (pl (i + 1)))) ∧ CSx s10 σ1 tk tw pl B m c0 L ∧ (L.2.1 ≠ 0 → σ' = s10) ∧ (L.2.1 = 0 → Fr [B + 1, B + 2, B + 3] [(B, 0), (B, 1)] s10 σ' ∧ σ' B 0 = σ B 0 + 1 ∧ σ' B 1 = (if tk i = 128 then σ B 1 + 1 else σ B 1) ∧ (∀ y, σ' (B + 1) y = if y = σ B 0 then tk i else σ (B + 1) y) ∧ (∀ y, σ' (B + 2) y = if y = σ B 0 then lnN tk tw (σ B 1) i else σ (B + 2) y) ∧ ∀ y, σ' (B + 3) y = if y = σ B 0 + 1 then c0 + L.2.2.1 else σ (B + 3) y)
theorem lnN_e {tk tw pl : Int → Int} {N M i : Int} (hp : ∀ j, 0 ≤ pl j) (h : (lnP tk tw pl N M (S0x i)).2.1 = 0) (hm : ∀ S : PSt, (ch0 tk (prt tk tw pl 5) S).2.1 = 0 → S.2.1 = 0) : (if tk i = 128 then M else if tk (i + 1) = 2 then tw (i + 1) else 0) = lnN tk tw M i := by
  obtain ⟨h1, h2, h3⟩ := lnP_r hp h
  rw [h3] at h
  have h4 := hm _ (tsg_f h)
  unfold lnN
  by_cases a : tk i = 128
  · rw [if_pos a, if_pos a]
  · rw [if_neg a, if_neg a]
    have h1 : 128 ≤ tk i ∧ tk i ≤ 131 := h1
    have e1 : (S0x i).1 = i := rfl
    rw [e1] at h4
    unfold hdS at h4
    rw [if_neg (by omega)] at h4
    by_cases b : tk i = 130
    · rw [if_pos (by omega)] at h4
      obtain ⟨q1, q2, q3⟩ := tsg_r hp h4
      obtain ⟨p1, p2, p3⟩ := tnm_r hp q1
      have p2 : tk (i + 1) = 2 := p2
      rw [if_pos p2, if_pos (Or.inl b)]
    · rw [if_neg (by omega)] at h4
      by_cases c : tk i = 131
      · rw [if_pos (by omega)] at h4
        obtain ⟨q1, q2, q3⟩ := tsg_r hp h4
        obtain ⟨p1, p2, p3⟩ := tnm_r hp q1
        have p2 : tk (i + 1) = 2 := p2
        rw [if_pos p2, if_pos (Or.inr c)]
      · rw [if_neg (by omega)] at h4
        obtain ⟨q1, q2, q3⟩ := tsg_r hp h4
        have q2 : tk (i + 1) = 132 := q2
        rw [if_neg (by omega), if_neg (by omega)]
set_option maxRecDepth 20000 in
set_option maxHeartbeats 2000000 in
theorem sp_X7_readLine_37 (d : Nat) (hd : 3 ≤ d) (xs : List (Nat × Nat)) (t dd rr : Nat) (σ : Sg) (m c0 i : Int) (D : Nat) (hD : D + 40 ≤ d) (hr : rr = 53) (tk tw pl : Int → Int) (hk : CTk tk tw pl m) (hm : 0 ≤ i ∧ i ≤ m) (hM : 0 ≤ σ 37 1 ∧ σ 37 1 ≤ 8) (hN : 0 ≤ σ 37 0 ∧ σ 37 0 ≤ 24) (hA : ∀ v, ADV D rr (up2 σ 56 (σ 37 1) v) tk tw pl 37 m c0) (hc0 : 0 ≤ c0 ∧ c0 ≤ i) (h4 : σ 52 4 = tk i) (h5 : σ 52 5 = pl i) (hpl : pl i ≤ 1000) (h : 128 ≤ tk i → tk i ≤ 131 → CSx σ σ tk tw pl 37 m c0 (S0x i))  : ∃ σ', Ev d 219 [(68, 0)] (Wd xs t dd rr σ) (8, 0) (Wd xs t dd rr σ') ∧ ((¬ (128 ≤ tk i ∧ tk i ≤ 131 ∧ σ 37 0 ≠ 24) → Fr [] [(52, 3)] σ σ' ∧ σ' 52 3 = (lnP tk tw pl (σ 37 0) (σ 37 1) (S0x i)).2.1) ∧ (128 ≤ tk i ∧ tk i ≤ 131 ∧ σ 37 0 ≠ 24 → LnC σ σ' tk tw pl 37 m c0 i (lnP tk tw pl (σ 37 0) (σ 37 1) (S0x i)))) := by
  obtain ⟨d, rfl⟩ : ∃ e, d = e + 1 := ⟨d - 1, by omega⟩
  subst hr
  have hA0 : ADV D 53 σ tk tw pl 37 m c0 := by have := hA (σ 56 (σ 37 1)); rw [up_id] at this; exact this
  have hp0 := hk.2.2.2.2.1 i
  have hkm := hk.2.2.2.1
  have e4 : tk (S0x i).1 = tk i := rfl
  refine evS (nL := 3) (code := k_X7_readLine) rfl dc_X7_readLine rfl (fun E hE => ?_)
  show pCm (Ev d) k_X7_readLine E 0 [(68, 0), (9, 0), (9, 0)] [] _
  refine R_aload rfl rfl rfl ?_
  refine T_geti rfl rfl rfl ?_
  rw [h4]
  refine R_istore rfl rfl ?_
  show pCm _ _ _ _ [_, _, _] _ _
  refine R_iload rfl rfl ?_
  refine R_push rfl ?_
  refine R_push rfl ?_
  refine R_inv rfl rfl rfl rfl rfl (sp_X9_within d (by omega) _ _ _ _) rfl ?_
  show pCm _ _ _ 15 _ [(0, _)] _
  refine R_if rfl (fun h15 => ?_) (fun h15 => ?_)
  · try simp only [ne_eq, b2i_e, b2i_1, Classical.not_not] at h15
    refine R_aload rfl rfl rfl ?_
    refine T_getr (v := 53) rfl rfl rfl rfl ?_
    refine T_geti rfl rfl rfl ?_
    refine R_push rfl ?_
    refine R_ic rfl (fun h34 => ?_) (fun h34 => ?_)
    · try simp only [ne_eq, b2i_e, b2i_1, Classical.not_not] at h34
      refine R_aload rfl rfl rfl ?_
      have hc := h (by omega) (by omega)
      have hne : i ≠ m := fun z => by rw [z, hkm] at h15; omega
      obtain ⟨s1, hev1, hC1⟩ := hA0 d (by omega) xs t dd σ (S0x i) hc rfl (by omega)
      obtain ⟨p1, p2, p3, p4, p5, p6⟩ := id hC1
      obtain ⟨q1, q2, q3, q4, q5, q6⟩ := p6 rfl
      have q1 : s1 52 4 = tk (i + 1) := q1
      have q2 : s1 52 7 = tw (i + 1) := q2
      refine R_invv rfl rfl rfl rfl rfl rfl (hev1) rfl ?_
      show pCm _ _ _ 48 _ [] _
      have J64 : ∀ nb : Int, nb = (if tk (i + 1) = 2 then tw (i + 1) else 0) → pCm (Ev d) k_X7_readLine E 64 [(68, 0), (0, tk i), (9, 0)] [(0, nb)] (Wd xs t dd 53 s1) := by
        intro nb hnb
        refine R_istore rfl rfl ?_
        show pCm _ _ _ _ [_, _, _] _ _
        refine R_aload rfl rfl rfl ?_
        refine R_iload rfl rfl ?_
        have ekk : 128 + (tk i - 128) = tk i := by omega
        obtain ⟨s2, hev2, σ1, hσ1, hσ2, hC2⟩ := sp_X7_readHead_37 d (by omega) xs t dd 53 σ s1 (tk i - 128) (by omega) D (by omega) rfl tk tw pl m c0 (pAd (S0x i)) hM hA hC1 rfl (by omega)
        rw [ekk] at hev2
        have hA1 : ADV D 53 σ1 tk tw pl 37 m c0 := by
          rcases hσ1 with z | z
          · rw [z]; exact hA0
          · rw [z]; exact hA _
        have hlq : (hdS tk tw pl (σ 37 1) (tk i - 128) (pAd (S0x i))).2.2 = (pAd (S0x i)).2.2 := hdS_l
        have hl1 : (hdS tk tw pl (σ 37 1) (tk i - 128) (pAd (S0x i))).2.2.1 = 0 := by rw [hlq]; rfl
        refine R_invv rfl rfl rfl rfl rfl rfl (hev2) rfl ?_
        show pCm _ _ _ 70 _ [(0, _)] _
        refine R_if rfl (fun h70 => ?_) (fun h70 => ?_)
        · try simp only [ne_eq, b2i_e, b2i_1, Classical.not_not] at h70
          refine R_vret rfl ?_
          have eL : lnP tk tw pl (σ 37 0) (σ 37 1) (S0x i) = tsg tk pl 59 (ch0 tk (prt tk tw pl 5) (hdS tk tw pl (σ 37 1) (tk i - 128) (pAd (S0x i)))) := by unfold lnP; rw [e4, if_neg (by omega), if_neg (by omega)]
          first
          | (have hn : (hdS tk tw pl (σ 37 1) (tk i - 128) (pAd (S0x i))).2.1 ≠ 0 := by first | exact h70 | omega
             have eC : ch0 tk (prt tk tw pl 5) (hdS tk tw pl (σ 37 1) (tk i - 128) (pAd (S0x i))) = hdS tk tw pl (σ 37 1) (tk i - 128) (pAd (S0x i)) := (((ch0_k (prt_k (tk := tk) (tw := tw) (pl := pl) hkm (fun j _ _ => hk.2.2.2.2.1 j) 5) hkm).2.2.2) _).1 hn
             have eZ : lnP tk tw pl (σ 37 0) (σ 37 1) (S0x i) = hdS tk tw pl (σ 37 1) (tk i - 128) (pAd (S0x i)) := by rw [eL, eC, tsg_fe hn]
             exact hE _ _ rfl ⟨fun z => absurd z (by omega), fun _ => ⟨s2, σ1, hσ1, fun _ w => absurd w (by rw [eZ]; exact hn), by rw [eZ]; exact hC2, fun _ => rfl, fun w => absurd w (by rw [eZ]; exact hn)⟩⟩)
          | (have hn : (ch0 tk (prt tk tw pl 5) (hdS tk tw pl (σ 37 1) (tk i - 128) (pAd (S0x i)))).2.1 ≠ 0 := by first | exact h79 | omega
             have eZ : lnP tk tw pl (σ 37 0) (σ 37 1) (S0x i) = ch0 tk (prt tk tw pl 5) (hdS tk tw pl (σ 37 1) (tk i - 128) (pAd (S0x i))) := by rw [eL, tsg_fe hn]
             exact hE _ _ rfl ⟨fun z => absurd z (by omega), fun _ => ⟨s3, σ1, hσ1, fun _ w => absurd w (by rw [eZ]; exact hn), by rw [eZ]; exact hC3, fun _ => rfl, fun w => absurd w (by rw [eZ]; exact hn)⟩⟩)
          | (have hn : (tsg tk pl 59 (ch0 tk (prt tk tw pl 5) (hdS tk tw pl (σ 37 1) (tk i - 128) (pAd (S0x i))))).2.1 ≠ 0 := by first | exact h88 | omega
             exact hE _ _ rfl ⟨fun z => absurd z (by omega), fun _ => ⟨s4, σ1, hσ1, fun _ w => absurd w (by rw [eL]; exact hn), by rw [eL]; exact hC4, fun _ => rfl, fun w => absurd w (by rw [eL]; exact hn)⟩⟩)
          | (refine hE _ _ rfl ⟨fun z => absurd z (by omega), fun _ => ⟨s4, σ1, hσ1, fun w _ => hσ2 (by omega) hz1, by rw [eL]; exact hC4, fun w => absurd (by rw [eL]; exact hz3) w, fun _ => ⟨j1, by omega, by rw [j3, g1], fun y => by rw [j4, g0, r1], fun y => ?_, fun y => by rw [j6, g0, r3, g2, eL]⟩⟩⟩
             have hln := lnN_e (tk := tk) (tw := tw) (pl := pl) (N := σ 37 0) (M := σ 37 1) (i := i) hk.2.2.2.2.1 (by rw [eL]; exact hz3) (fun S w => by
               by_cases o : S.2.1 = 0
               · exact o
               · rw [(((ch0_k (prt_k (tk := tk) (tw := tw) (pl := pl) hkm (fun j _ _ => hk.2.2.2.2.1 j) 5) hkm).2.2.2) S).1 o] at w; exact w)
             rw [j5, g0, g1, r2, ← hln, hnb])
        · try simp only [ne_eq, b2i_e, b2i_1, Classical.not_not] at h70
          refine R_aload rfl rfl rfl ?_
          refine R_push rfl ?_
          refine R_push rfl ?_
          have hz1 : (hdS tk tw pl (σ 37 1) (tk i - 128) (pAd (S0x i))).2.1 = 0 := by first | exact h70 | omega
          have hr1 : c0 + (hdS tk tw pl (σ 37 1) (tk i - 128) (pAd (S0x i))).2.2.1 ≤ (hdS tk tw pl (σ 37 1) (tk i - 128) (pAd (S0x i))).1 := by
            have := (hdS_r (m := m) hk.2.2.2.2.1 hkm (show (pAd (S0x i)).1 ≤ m by show i + 1 ≤ m; omega) hz1).1.1
            have : i + 1 ≤ (hdS tk tw pl (σ 37 1) (tk i - 128) (pAd (S0x i))).1 := this
            omega
          obtain ⟨s3, hev3, hC3⟩ := (CM_all_37 rfl hk hc0.1 hA1 5 (by omega)).2 d (by omega) xs t dd s2 _ hC2 hz1 hr1
          refine R_invv rfl rfl rfl rfl rfl rfl (hev3) rfl ?_
          show pCm _ _ _ 79 _ [(0, _)] _
          refine R_if rfl (fun h79 => ?_) (fun h79 => ?_)
          · try simp only [ne_eq, b2i_e, b2i_1, Classical.not_not] at h79
            refine R_vret rfl ?_
            have eL : lnP tk tw pl (σ 37 0) (σ 37 1) (S0x i) = tsg tk pl 59 (ch0 tk (prt tk tw pl 5) (hdS tk tw pl (σ 37 1) (tk i - 128) (pAd (S0x i)))) := by unfold lnP; rw [e4, if_neg (by omega), if_neg (by omega)]
            first
            | (have hn : (hdS tk tw pl (σ 37 1) (tk i - 128) (pAd (S0x i))).2.1 ≠ 0 := by first | exact h70 | omega
               have eC : ch0 tk (prt tk tw pl 5) (hdS tk tw pl (σ 37 1) (tk i - 128) (pAd (S0x i))) = hdS tk tw pl (σ 37 1) (tk i - 128) (pAd (S0x i)) := (((ch0_k (prt_k (tk := tk) (tw := tw) (pl := pl) hkm (fun j _ _ => hk.2.2.2.2.1 j) 5) hkm).2.2.2) _).1 hn
               have eZ : lnP tk tw pl (σ 37 0) (σ 37 1) (S0x i) = hdS tk tw pl (σ 37 1) (tk i - 128) (pAd (S0x i)) := by rw [eL, eC, tsg_fe hn]
               exact hE _ _ rfl ⟨fun z => absurd z (by omega), fun _ => ⟨s2, σ1, hσ1, fun _ w => absurd w (by rw [eZ]; exact hn), by rw [eZ]; exact hC2, fun _ => rfl, fun w => absurd w (by rw [eZ]; exact hn)⟩⟩)
            | (have hn : (ch0 tk (prt tk tw pl 5) (hdS tk tw pl (σ 37 1) (tk i - 128) (pAd (S0x i)))).2.1 ≠ 0 := by first | exact h79 | omega
               have eZ : lnP tk tw pl (σ 37 0) (σ 37 1) (S0x i) = ch0 tk (prt tk tw pl 5) (hdS tk tw pl (σ 37 1) (tk i - 128) (pAd (S0x i))) := by rw [eL, tsg_fe hn]
               exact hE _ _ rfl ⟨fun z => absurd z (by omega), fun _ => ⟨s3, σ1, hσ1, fun _ w => absurd w (by rw [eZ]; exact hn), by rw [eZ]; exact hC3, fun _ => rfl, fun w => absurd w (by rw [eZ]; exact hn)⟩⟩)
            | (have hn : (tsg tk pl 59 (ch0 tk (prt tk tw pl 5) (hdS tk tw pl (σ 37 1) (tk i - 128) (pAd (S0x i))))).2.1 ≠ 0 := by first | exact h88 | omega
               exact hE _ _ rfl ⟨fun z => absurd z (by omega), fun _ => ⟨s4, σ1, hσ1, fun _ w => absurd w (by rw [eL]; exact hn), by rw [eL]; exact hC4, fun _ => rfl, fun w => absurd w (by rw [eL]; exact hn)⟩⟩)
            | (refine hE _ _ rfl ⟨fun z => absurd z (by omega), fun _ => ⟨s4, σ1, hσ1, fun w _ => hσ2 (by omega) hz1, by rw [eL]; exact hC4, fun w => absurd (by rw [eL]; exact hz3) w, fun _ => ⟨j1, by omega, by rw [j3, g1], fun y => by rw [j4, g0, r1], fun y => ?_, fun y => by rw [j6, g0, r3, g2, eL]⟩⟩⟩
               have hln := lnN_e (tk := tk) (tw := tw) (pl := pl) (N := σ 37 0) (M := σ 37 1) (i := i) hk.2.2.2.2.1 (by rw [eL]; exact hz3) (fun S w => by
                 by_cases o : S.2.1 = 0
                 · exact o
                 · rw [(((ch0_k (prt_k (tk := tk) (tw := tw) (pl := pl) hkm (fun j _ _ => hk.2.2.2.2.1 j) 5) hkm).2.2.2) S).1 o] at w; exact w)
               rw [j5, g0, g1, r2, ← hln, hnb])
          · try simp only [ne_eq, b2i_e, b2i_1, Classical.not_not] at h79
            refine R_aload rfl rfl rfl ?_
            refine R_push rfl ?_
            have hz2 : (ch0 tk (prt tk tw pl 5) (hdS tk tw pl (σ 37 1) (tk i - 128) (pAd (S0x i)))).2.1 = 0 := by first | exact h79 | omega
            obtain ⟨s4, hev4, hC4⟩ := sp_X7_accept d (by omega) xs t dd 53 σ1 s3 59 (by decide) D (by omega) tk tw pl 37 (by simp) m c0 (ch0 tk (prt tk tw pl 5) (hdS tk tw pl (σ 37 1) (tk i - 128) (pAd (S0x i)))) hA1 hC3 hz2 (by omega)
            refine R_invv rfl rfl rfl rfl rfl rfl (hev4) rfl ?_
            show pCm _ _ _ 88 _ [(0, _)] _
            refine R_if rfl (fun h88 => ?_) (fun h88 => ?_)
            · try simp only [ne_eq, b2i_e, b2i_1, Classical.not_not] at h88
              refine R_vret rfl ?_
              have eL : lnP tk tw pl (σ 37 0) (σ 37 1) (S0x i) = tsg tk pl 59 (ch0 tk (prt tk tw pl 5) (hdS tk tw pl (σ 37 1) (tk i - 128) (pAd (S0x i)))) := by unfold lnP; rw [e4, if_neg (by omega), if_neg (by omega)]
              first
              | (have hn : (hdS tk tw pl (σ 37 1) (tk i - 128) (pAd (S0x i))).2.1 ≠ 0 := by first | exact h70 | omega
                 have eC : ch0 tk (prt tk tw pl 5) (hdS tk tw pl (σ 37 1) (tk i - 128) (pAd (S0x i))) = hdS tk tw pl (σ 37 1) (tk i - 128) (pAd (S0x i)) := (((ch0_k (prt_k (tk := tk) (tw := tw) (pl := pl) hkm (fun j _ _ => hk.2.2.2.2.1 j) 5) hkm).2.2.2) _).1 hn
                 have eZ : lnP tk tw pl (σ 37 0) (σ 37 1) (S0x i) = hdS tk tw pl (σ 37 1) (tk i - 128) (pAd (S0x i)) := by rw [eL, eC, tsg_fe hn]
                 exact hE _ _ rfl ⟨fun z => absurd z (by omega), fun _ => ⟨s2, σ1, hσ1, fun _ w => absurd w (by rw [eZ]; exact hn), by rw [eZ]; exact hC2, fun _ => rfl, fun w => absurd w (by rw [eZ]; exact hn)⟩⟩)
              | (have hn : (ch0 tk (prt tk tw pl 5) (hdS tk tw pl (σ 37 1) (tk i - 128) (pAd (S0x i)))).2.1 ≠ 0 := by first | exact h79 | omega
                 have eZ : lnP tk tw pl (σ 37 0) (σ 37 1) (S0x i) = ch0 tk (prt tk tw pl 5) (hdS tk tw pl (σ 37 1) (tk i - 128) (pAd (S0x i))) := by rw [eL, tsg_fe hn]
                 exact hE _ _ rfl ⟨fun z => absurd z (by omega), fun _ => ⟨s3, σ1, hσ1, fun _ w => absurd w (by rw [eZ]; exact hn), by rw [eZ]; exact hC3, fun _ => rfl, fun w => absurd w (by rw [eZ]; exact hn)⟩⟩)
              | (have hn : (tsg tk pl 59 (ch0 tk (prt tk tw pl 5) (hdS tk tw pl (σ 37 1) (tk i - 128) (pAd (S0x i))))).2.1 ≠ 0 := by first | exact h88 | omega
                 exact hE _ _ rfl ⟨fun z => absurd z (by omega), fun _ => ⟨s4, σ1, hσ1, fun _ w => absurd w (by rw [eL]; exact hn), by rw [eL]; exact hC4, fun _ => rfl, fun w => absurd w (by rw [eL]; exact hn)⟩⟩)
              | (refine hE _ _ rfl ⟨fun z => absurd z (by omega), fun _ => ⟨s4, σ1, hσ1, fun w _ => hσ2 (by omega) hz1, by rw [eL]; exact hC4, fun w => absurd (by rw [eL]; exact hz3) w, fun _ => ⟨j1, by omega, by rw [j3, g1], fun y => by rw [j4, g0, r1], fun y => ?_, fun y => by rw [j6, g0, r3, g2, eL]⟩⟩⟩
                 have hln := lnN_e (tk := tk) (tw := tw) (pl := pl) (N := σ 37 0) (M := σ 37 1) (i := i) hk.2.2.2.2.1 (by rw [eL]; exact hz3) (fun S w => by
                   by_cases o : S.2.1 = 0
                   · exact o
                   · rw [(((ch0_k (prt_k (tk := tk) (tw := tw) (pl := pl) hkm (fun j _ _ => hk.2.2.2.2.1 j) 5) hkm).2.2.2) S).1 o] at w; exact w)
                 rw [j5, g0, g1, r2, ← hln, hnb])
            · try simp only [ne_eq, b2i_e, b2i_1, Classical.not_not] at h88
              refine R_aload rfl rfl rfl ?_
              refine T_getr (v := 53) rfl rfl rfl rfl ?_
              refine R_iload rfl rfl ?_
              refine R_iload rfl rfl ?_
              have hz3 : (tsg tk pl 59 (ch0 tk (prt tk tw pl 5) (hdS tk tw pl (σ 37 1) (tk i - 128) (pAd (S0x i))))).2.1 = 0 := by first | exact h88 | omega
              have f4 : ∀ k y, σ1 37 y = σ 37 y ∧ (k ≠ 56 → σ1 k y = σ k y) := fun k y => by
                rcases hσ1 with z | z
                · rw [z]; exact ⟨rfl, fun _ => rfl⟩
                · rw [z, up_k (by decide)]; exact ⟨rfl, fun w => up_k w⟩
              have g0 : s4 37 0 = σ 37 0 := by rw [hC4.1.at 37 0 rfl]; exact (f4 0 0).1
              have g1 : s4 37 1 = σ 37 1 := by rw [hC4.1.at 37 1 rfl]; exact (f4 0 1).1
              have g2 : s4 37 2 = c0 + (tsg tk pl 59 (ch0 tk (prt tk tw pl 5) (hdS tk tw pl (σ 37 1) (tk i - 128) (pAd (S0x i))))).2.2.1 := (hC4.2.2.2.2.2 hz3).2.2.2.1
              have r1 : ∀ y, s4 38 y = σ 38 y := fun y => by rw [hC4.1.row 38 rfl]; exact (f4 38 y).2 (by decide)
              have r2 : ∀ y, s4 39 y = σ 39 y := fun y => by rw [hC4.1.row 39 rfl]; exact (f4 39 y).2 (by decide)
              have r3 : ∀ y, s4 40 y = σ 40 y := fun y => by rw [hC4.1.row 40 rfl]; exact (f4 40 y).2 (by decide)
              obtain ⟨s5, hev5, j1, j2, j3, j4, j5, j6⟩ := sp_X8_endLine_37 d (by omega) xs t dd 53 s4 (tk i) nb (by omega) (by omega)
              refine R_invv rfl rfl rfl rfl rfl rfl (hev5) rfl ?_
              show pCm _ _ _ 100 _ [] _
              refine R_vret rfl ?_
              have eL : lnP tk tw pl (σ 37 0) (σ 37 1) (S0x i) = tsg tk pl 59 (ch0 tk (prt tk tw pl 5) (hdS tk tw pl (σ 37 1) (tk i - 128) (pAd (S0x i)))) := by unfold lnP; rw [e4, if_neg (by omega), if_neg (by omega)]
              first
              | (have hn : (hdS tk tw pl (σ 37 1) (tk i - 128) (pAd (S0x i))).2.1 ≠ 0 := by first | exact h70 | omega
                 have eC : ch0 tk (prt tk tw pl 5) (hdS tk tw pl (σ 37 1) (tk i - 128) (pAd (S0x i))) = hdS tk tw pl (σ 37 1) (tk i - 128) (pAd (S0x i)) := (((ch0_k (prt_k (tk := tk) (tw := tw) (pl := pl) hkm (fun j _ _ => hk.2.2.2.2.1 j) 5) hkm).2.2.2) _).1 hn
                 have eZ : lnP tk tw pl (σ 37 0) (σ 37 1) (S0x i) = hdS tk tw pl (σ 37 1) (tk i - 128) (pAd (S0x i)) := by rw [eL, eC, tsg_fe hn]
                 exact hE _ _ rfl ⟨fun z => absurd z (by omega), fun _ => ⟨s2, σ1, hσ1, fun _ w => absurd w (by rw [eZ]; exact hn), by rw [eZ]; exact hC2, fun _ => rfl, fun w => absurd w (by rw [eZ]; exact hn)⟩⟩)
              | (have hn : (ch0 tk (prt tk tw pl 5) (hdS tk tw pl (σ 37 1) (tk i - 128) (pAd (S0x i)))).2.1 ≠ 0 := by first | exact h79 | omega
                 have eZ : lnP tk tw pl (σ 37 0) (σ 37 1) (S0x i) = ch0 tk (prt tk tw pl 5) (hdS tk tw pl (σ 37 1) (tk i - 128) (pAd (S0x i))) := by rw [eL, tsg_fe hn]
                 exact hE _ _ rfl ⟨fun z => absurd z (by omega), fun _ => ⟨s3, σ1, hσ1, fun _ w => absurd w (by rw [eZ]; exact hn), by rw [eZ]; exact hC3, fun _ => rfl, fun w => absurd w (by rw [eZ]; exact hn)⟩⟩)
              | (have hn : (tsg tk pl 59 (ch0 tk (prt tk tw pl 5) (hdS tk tw pl (σ 37 1) (tk i - 128) (pAd (S0x i))))).2.1 ≠ 0 := by first | exact h88 | omega
                 exact hE _ _ rfl ⟨fun z => absurd z (by omega), fun _ => ⟨s4, σ1, hσ1, fun _ w => absurd w (by rw [eL]; exact hn), by rw [eL]; exact hC4, fun _ => rfl, fun w => absurd w (by rw [eL]; exact hn)⟩⟩)
              | (refine hE _ _ rfl ⟨fun z => absurd z (by omega), fun _ => ⟨s4, σ1, hσ1, fun w _ => hσ2 (by omega) hz1, by rw [eL]; exact hC4, fun w => absurd (by rw [eL]; exact hz3) w, fun _ => ⟨j1, by omega, by rw [j3, g1], fun y => by rw [j4, g0, r1], fun y => ?_, fun y => by rw [j6, g0, r3, g2, eL]⟩⟩⟩
                 have hln := lnN_e (tk := tk) (tw := tw) (pl := pl) (N := σ 37 0) (M := σ 37 1) (i := i) hk.2.2.2.2.1 (by rw [eL]; exact hz3) (fun S w => by
                   by_cases o : S.2.1 = 0
                   · exact o
                   · rw [(((ch0_k (prt_k (tk := tk) (tw := tw) (pl := pl) hkm (fun j _ _ => hk.2.2.2.2.1 j) 5) hkm).2.2.2) S).1 o] at w; exact w)
                 rw [j5, g0, g1, r2, ← hln, hnb])
      refine R_aload rfl rfl rfl ?_
      refine T_geti rfl rfl rfl ?_
      rw [q1]
      refine R_push rfl ?_
      refine R_ic rfl (fun h53 => ?_) (fun h53 => ?_)
      · try simp only [ne_eq, b2i_e, b2i_1, Classical.not_not] at h53
        refine R_push rfl ?_
        exact J64 _ (by first | (rw [if_pos (by omega)]; exact q2) | (rw [if_neg (by omega)]))
      · try simp only [ne_eq, b2i_e, b2i_1, Classical.not_not] at h53
        refine R_aload rfl rfl rfl ?_
        refine T_geti rfl rfl rfl ?_
        refine R_goto rfl ?_
        exact J64 _ (by first | (rw [if_pos (by omega)]; exact q2) | (rw [if_neg (by omega)]))
    · try simp only [ne_eq, b2i_e, b2i_1, Classical.not_not] at h34
      refine R_aload rfl rfl rfl ?_
      refine R_push rfl ?_
      refine R_invv rfl rfl rfl rfl rfl rfl (sp_X7_refuse d (by omega) xs t dd 53 σ 5 ⟨by omega, by omega⟩ (by omega)) rfl ?_
      show pCm _ _ _ 42 _ [(0, _)] _
      refine R_pop rfl rfl ?_
      refine R_vret rfl ?_
      (refine hE _ _ rfl ⟨fun _ => ⟨Fr.rf.up rfl, ?_⟩, fun z => absurd z (by omega)⟩; rw [up_s, h5]; unfold lnP; rw [e4, if_neg (by omega), if_pos (by omega)]; rfl)
  · try simp only [ne_eq, b2i_e, b2i_1, Classical.not_not] at h15
    refine R_aload rfl rfl rfl ?_
    refine R_push rfl ?_
    refine R_invv rfl rfl rfl rfl rfl rfl (sp_X7_refuse d (by omega) xs t dd 53 σ 1 ⟨by omega, by omega⟩ (by omega)) rfl ?_
    show pCm _ _ _ 23 _ [(0, _)] _
    refine R_pop rfl rfl ?_
    refine R_vret rfl ?_
    (refine hE _ _ rfl ⟨fun _ => ⟨Fr.rf.up rfl, ?_⟩, fun z => absurd z (by omega)⟩; rw [up_s, h5]; unfold lnP; rw [e4, if_pos (by omega)]; rfl)
set_option maxRecDepth 20000 in
set_option maxHeartbeats 2000000 in
theorem sp_X7_readLine_44 (d : Nat) (hd : 3 ≤ d) (xs : List (Nat × Nat)) (t dd rr : Nat) (σ : Sg) (m c0 i : Int) (D : Nat) (hD : D + 40 ≤ d) (hr : rr = 60) (tk tw pl : Int → Int) (hk : CTk tk tw pl m) (hm : 0 ≤ i ∧ i ≤ m) (hM : 0 ≤ σ 44 1 ∧ σ 44 1 ≤ 8) (hN : 0 ≤ σ 44 0 ∧ σ 44 0 ≤ 24) (hA : ∀ v, ADV D rr (up2 σ 56 (σ 44 1) v) tk tw pl 44 m c0) (hc0 : 0 ≤ c0 ∧ c0 ≤ i) (h4 : σ 52 4 = tk i) (h5 : σ 52 5 = pl i) (hpl : pl i ≤ 1000) (h : 128 ≤ tk i → tk i ≤ 131 → CSx σ σ tk tw pl 44 m c0 (S0x i))  : ∃ σ', Ev d 219 [(68, 0)] (Wd xs t dd rr σ) (8, 0) (Wd xs t dd rr σ') ∧ ((¬ (128 ≤ tk i ∧ tk i ≤ 131 ∧ σ 44 0 ≠ 24) → Fr [] [(52, 3)] σ σ' ∧ σ' 52 3 = (lnP tk tw pl (σ 44 0) (σ 44 1) (S0x i)).2.1) ∧ (128 ≤ tk i ∧ tk i ≤ 131 ∧ σ 44 0 ≠ 24 → LnC σ σ' tk tw pl 44 m c0 i (lnP tk tw pl (σ 44 0) (σ 44 1) (S0x i)))) := by
  obtain ⟨d, rfl⟩ : ∃ e, d = e + 1 := ⟨d - 1, by omega⟩
  subst hr
  have hA0 : ADV D 60 σ tk tw pl 44 m c0 := by have := hA (σ 56 (σ 44 1)); rw [up_id] at this; exact this
  have hp0 := hk.2.2.2.2.1 i
  have hkm := hk.2.2.2.1
  have e4 : tk (S0x i).1 = tk i := rfl
  refine evS (nL := 3) (code := k_X7_readLine) rfl dc_X7_readLine rfl (fun E hE => ?_)
  show pCm (Ev d) k_X7_readLine E 0 [(68, 0), (9, 0), (9, 0)] [] _
  refine R_aload rfl rfl rfl ?_
  refine T_geti rfl rfl rfl ?_
  rw [h4]
  refine R_istore rfl rfl ?_
  show pCm _ _ _ _ [_, _, _] _ _
  refine R_iload rfl rfl ?_
  refine R_push rfl ?_
  refine R_push rfl ?_
  refine R_inv rfl rfl rfl rfl rfl (sp_X9_within d (by omega) _ _ _ _) rfl ?_
  show pCm _ _ _ 15 _ [(0, _)] _
  refine R_if rfl (fun h15 => ?_) (fun h15 => ?_)
  · try simp only [ne_eq, b2i_e, b2i_1, Classical.not_not] at h15
    refine R_aload rfl rfl rfl ?_
    refine T_getr (v := 60) rfl rfl rfl rfl ?_
    refine T_geti rfl rfl rfl ?_
    refine R_push rfl ?_
    refine R_ic rfl (fun h34 => ?_) (fun h34 => ?_)
    · try simp only [ne_eq, b2i_e, b2i_1, Classical.not_not] at h34
      refine R_aload rfl rfl rfl ?_
      have hc := h (by omega) (by omega)
      have hne : i ≠ m := fun z => by rw [z, hkm] at h15; omega
      obtain ⟨s1, hev1, hC1⟩ := hA0 d (by omega) xs t dd σ (S0x i) hc rfl (by omega)
      obtain ⟨p1, p2, p3, p4, p5, p6⟩ := id hC1
      obtain ⟨q1, q2, q3, q4, q5, q6⟩ := p6 rfl
      have q1 : s1 52 4 = tk (i + 1) := q1
      have q2 : s1 52 7 = tw (i + 1) := q2
      refine R_invv rfl rfl rfl rfl rfl rfl (hev1) rfl ?_
      show pCm _ _ _ 48 _ [] _
      have J64 : ∀ nb : Int, nb = (if tk (i + 1) = 2 then tw (i + 1) else 0) → pCm (Ev d) k_X7_readLine E 64 [(68, 0), (0, tk i), (9, 0)] [(0, nb)] (Wd xs t dd 60 s1) := by
        intro nb hnb
        refine R_istore rfl rfl ?_
        show pCm _ _ _ _ [_, _, _] _ _
        refine R_aload rfl rfl rfl ?_
        refine R_iload rfl rfl ?_
        have ekk : 128 + (tk i - 128) = tk i := by omega
        obtain ⟨s2, hev2, σ1, hσ1, hσ2, hC2⟩ := sp_X7_readHead_44 d (by omega) xs t dd 60 σ s1 (tk i - 128) (by omega) D (by omega) rfl tk tw pl m c0 (pAd (S0x i)) hM hA hC1 rfl (by omega)
        rw [ekk] at hev2
        have hA1 : ADV D 60 σ1 tk tw pl 44 m c0 := by
          rcases hσ1 with z | z
          · rw [z]; exact hA0
          · rw [z]; exact hA _
        have hlq : (hdS tk tw pl (σ 44 1) (tk i - 128) (pAd (S0x i))).2.2 = (pAd (S0x i)).2.2 := hdS_l
        have hl1 : (hdS tk tw pl (σ 44 1) (tk i - 128) (pAd (S0x i))).2.2.1 = 0 := by rw [hlq]; rfl
        refine R_invv rfl rfl rfl rfl rfl rfl (hev2) rfl ?_
        show pCm _ _ _ 70 _ [(0, _)] _
        refine R_if rfl (fun h70 => ?_) (fun h70 => ?_)
        · try simp only [ne_eq, b2i_e, b2i_1, Classical.not_not] at h70
          refine R_vret rfl ?_
          have eL : lnP tk tw pl (σ 44 0) (σ 44 1) (S0x i) = tsg tk pl 59 (ch0 tk (prt tk tw pl 5) (hdS tk tw pl (σ 44 1) (tk i - 128) (pAd (S0x i)))) := by unfold lnP; rw [e4, if_neg (by omega), if_neg (by omega)]
          first
          | (have hn : (hdS tk tw pl (σ 44 1) (tk i - 128) (pAd (S0x i))).2.1 ≠ 0 := by first | exact h70 | omega
             have eC : ch0 tk (prt tk tw pl 5) (hdS tk tw pl (σ 44 1) (tk i - 128) (pAd (S0x i))) = hdS tk tw pl (σ 44 1) (tk i - 128) (pAd (S0x i)) := (((ch0_k (prt_k (tk := tk) (tw := tw) (pl := pl) hkm (fun j _ _ => hk.2.2.2.2.1 j) 5) hkm).2.2.2) _).1 hn
             have eZ : lnP tk tw pl (σ 44 0) (σ 44 1) (S0x i) = hdS tk tw pl (σ 44 1) (tk i - 128) (pAd (S0x i)) := by rw [eL, eC, tsg_fe hn]
             exact hE _ _ rfl ⟨fun z => absurd z (by omega), fun _ => ⟨s2, σ1, hσ1, fun _ w => absurd w (by rw [eZ]; exact hn), by rw [eZ]; exact hC2, fun _ => rfl, fun w => absurd w (by rw [eZ]; exact hn)⟩⟩)
          | (have hn : (ch0 tk (prt tk tw pl 5) (hdS tk tw pl (σ 44 1) (tk i - 128) (pAd (S0x i)))).2.1 ≠ 0 := by first | exact h79 | omega
             have eZ : lnP tk tw pl (σ 44 0) (σ 44 1) (S0x i) = ch0 tk (prt tk tw pl 5) (hdS tk tw pl (σ 44 1) (tk i - 128) (pAd (S0x i))) := by rw [eL, tsg_fe hn]
             exact hE _ _ rfl ⟨fun z => absurd z (by omega), fun _ => ⟨s3, σ1, hσ1, fun _ w => absurd w (by rw [eZ]; exact hn), by rw [eZ]; exact hC3, fun _ => rfl, fun w => absurd w (by rw [eZ]; exact hn)⟩⟩)
          | (have hn : (tsg tk pl 59 (ch0 tk (prt tk tw pl 5) (hdS tk tw pl (σ 44 1) (tk i - 128) (pAd (S0x i))))).2.1 ≠ 0 := by first | exact h88 | omega
             exact hE _ _ rfl ⟨fun z => absurd z (by omega), fun _ => ⟨s4, σ1, hσ1, fun _ w => absurd w (by rw [eL]; exact hn), by rw [eL]; exact hC4, fun _ => rfl, fun w => absurd w (by rw [eL]; exact hn)⟩⟩)
          | (refine hE _ _ rfl ⟨fun z => absurd z (by omega), fun _ => ⟨s4, σ1, hσ1, fun w _ => hσ2 (by omega) hz1, by rw [eL]; exact hC4, fun w => absurd (by rw [eL]; exact hz3) w, fun _ => ⟨j1, by omega, by rw [j3, g1], fun y => by rw [j4, g0, r1], fun y => ?_, fun y => by rw [j6, g0, r3, g2, eL]⟩⟩⟩
             have hln := lnN_e (tk := tk) (tw := tw) (pl := pl) (N := σ 44 0) (M := σ 44 1) (i := i) hk.2.2.2.2.1 (by rw [eL]; exact hz3) (fun S w => by
               by_cases o : S.2.1 = 0
               · exact o
               · rw [(((ch0_k (prt_k (tk := tk) (tw := tw) (pl := pl) hkm (fun j _ _ => hk.2.2.2.2.1 j) 5) hkm).2.2.2) S).1 o] at w; exact w)
             rw [j5, g0, g1, r2, ← hln, hnb])
        · try simp only [ne_eq, b2i_e, b2i_1, Classical.not_not] at h70
          refine R_aload rfl rfl rfl ?_
          refine R_push rfl ?_
          refine R_push rfl ?_
          have hz1 : (hdS tk tw pl (σ 44 1) (tk i - 128) (pAd (S0x i))).2.1 = 0 := by first | exact h70 | omega
          have hr1 : c0 + (hdS tk tw pl (σ 44 1) (tk i - 128) (pAd (S0x i))).2.2.1 ≤ (hdS tk tw pl (σ 44 1) (tk i - 128) (pAd (S0x i))).1 := by
            have := (hdS_r (m := m) hk.2.2.2.2.1 hkm (show (pAd (S0x i)).1 ≤ m by show i + 1 ≤ m; omega) hz1).1.1
            have : i + 1 ≤ (hdS tk tw pl (σ 44 1) (tk i - 128) (pAd (S0x i))).1 := this
            omega
          obtain ⟨s3, hev3, hC3⟩ := (CM_all_44 rfl hk hc0.1 hA1 5 (by omega)).2 d (by omega) xs t dd s2 _ hC2 hz1 hr1
          refine R_invv rfl rfl rfl rfl rfl rfl (hev3) rfl ?_
          show pCm _ _ _ 79 _ [(0, _)] _
          refine R_if rfl (fun h79 => ?_) (fun h79 => ?_)
          · try simp only [ne_eq, b2i_e, b2i_1, Classical.not_not] at h79
            refine R_vret rfl ?_
            have eL : lnP tk tw pl (σ 44 0) (σ 44 1) (S0x i) = tsg tk pl 59 (ch0 tk (prt tk tw pl 5) (hdS tk tw pl (σ 44 1) (tk i - 128) (pAd (S0x i)))) := by unfold lnP; rw [e4, if_neg (by omega), if_neg (by omega)]
            first
            | (have hn : (hdS tk tw pl (σ 44 1) (tk i - 128) (pAd (S0x i))).2.1 ≠ 0 := by first | exact h70 | omega
               have eC : ch0 tk (prt tk tw pl 5) (hdS tk tw pl (σ 44 1) (tk i - 128) (pAd (S0x i))) = hdS tk tw pl (σ 44 1) (tk i - 128) (pAd (S0x i)) := (((ch0_k (prt_k (tk := tk) (tw := tw) (pl := pl) hkm (fun j _ _ => hk.2.2.2.2.1 j) 5) hkm).2.2.2) _).1 hn
               have eZ : lnP tk tw pl (σ 44 0) (σ 44 1) (S0x i) = hdS tk tw pl (σ 44 1) (tk i - 128) (pAd (S0x i)) := by rw [eL, eC, tsg_fe hn]
               exact hE _ _ rfl ⟨fun z => absurd z (by omega), fun _ => ⟨s2, σ1, hσ1, fun _ w => absurd w (by rw [eZ]; exact hn), by rw [eZ]; exact hC2, fun _ => rfl, fun w => absurd w (by rw [eZ]; exact hn)⟩⟩)
            | (have hn : (ch0 tk (prt tk tw pl 5) (hdS tk tw pl (σ 44 1) (tk i - 128) (pAd (S0x i)))).2.1 ≠ 0 := by first | exact h79 | omega
               have eZ : lnP tk tw pl (σ 44 0) (σ 44 1) (S0x i) = ch0 tk (prt tk tw pl 5) (hdS tk tw pl (σ 44 1) (tk i - 128) (pAd (S0x i))) := by rw [eL, tsg_fe hn]
               exact hE _ _ rfl ⟨fun z => absurd z (by omega), fun _ => ⟨s3, σ1, hσ1, fun _ w => absurd w (by rw [eZ]; exact hn), by rw [eZ]; exact hC3, fun _ => rfl, fun w => absurd w (by rw [eZ]; exact hn)⟩⟩)
            | (have hn : (tsg tk pl 59 (ch0 tk (prt tk tw pl 5) (hdS tk tw pl (σ 44 1) (tk i - 128) (pAd (S0x i))))).2.1 ≠ 0 := by first | exact h88 | omega
               exact hE _ _ rfl ⟨fun z => absurd z (by omega), fun _ => ⟨s4, σ1, hσ1, fun _ w => absurd w (by rw [eL]; exact hn), by rw [eL]; exact hC4, fun _ => rfl, fun w => absurd w (by rw [eL]; exact hn)⟩⟩)
            | (refine hE _ _ rfl ⟨fun z => absurd z (by omega), fun _ => ⟨s4, σ1, hσ1, fun w _ => hσ2 (by omega) hz1, by rw [eL]; exact hC4, fun w => absurd (by rw [eL]; exact hz3) w, fun _ => ⟨j1, by omega, by rw [j3, g1], fun y => by rw [j4, g0, r1], fun y => ?_, fun y => by rw [j6, g0, r3, g2, eL]⟩⟩⟩
               have hln := lnN_e (tk := tk) (tw := tw) (pl := pl) (N := σ 44 0) (M := σ 44 1) (i := i) hk.2.2.2.2.1 (by rw [eL]; exact hz3) (fun S w => by
                 by_cases o : S.2.1 = 0
                 · exact o
                 · rw [(((ch0_k (prt_k (tk := tk) (tw := tw) (pl := pl) hkm (fun j _ _ => hk.2.2.2.2.1 j) 5) hkm).2.2.2) S).1 o] at w; exact w)
               rw [j5, g0, g1, r2, ← hln, hnb])
          · try simp only [ne_eq, b2i_e, b2i_1, Classical.not_not] at h79
            refine R_aload rfl rfl rfl ?_
            refine R_push rfl ?_
            have hz2 : (ch0 tk (prt tk tw pl 5) (hdS tk tw pl (σ 44 1) (tk i - 128) (pAd (S0x i)))).2.1 = 0 := by first | exact h79 | omega
            obtain ⟨s4, hev4, hC4⟩ := sp_X7_accept d (by omega) xs t dd 60 σ1 s3 59 (by decide) D (by omega) tk tw pl 44 (by simp) m c0 (ch0 tk (prt tk tw pl 5) (hdS tk tw pl (σ 44 1) (tk i - 128) (pAd (S0x i)))) hA1 hC3 hz2 (by omega)
            refine R_invv rfl rfl rfl rfl rfl rfl (hev4) rfl ?_
            show pCm _ _ _ 88 _ [(0, _)] _
            refine R_if rfl (fun h88 => ?_) (fun h88 => ?_)
            · try simp only [ne_eq, b2i_e, b2i_1, Classical.not_not] at h88
              refine R_vret rfl ?_
              have eL : lnP tk tw pl (σ 44 0) (σ 44 1) (S0x i) = tsg tk pl 59 (ch0 tk (prt tk tw pl 5) (hdS tk tw pl (σ 44 1) (tk i - 128) (pAd (S0x i)))) := by unfold lnP; rw [e4, if_neg (by omega), if_neg (by omega)]
              first
              | (have hn : (hdS tk tw pl (σ 44 1) (tk i - 128) (pAd (S0x i))).2.1 ≠ 0 := by first | exact h70 | omega
                 have eC : ch0 tk (prt tk tw pl 5) (hdS tk tw pl (σ 44 1) (tk i - 128) (pAd (S0x i))) = hdS tk tw pl (σ 44 1) (tk i - 128) (pAd (S0x i)) := (((ch0_k (prt_k (tk := tk) (tw := tw) (pl := pl) hkm (fun j _ _ => hk.2.2.2.2.1 j) 5) hkm).2.2.2) _).1 hn
                 have eZ : lnP tk tw pl (σ 44 0) (σ 44 1) (S0x i) = hdS tk tw pl (σ 44 1) (tk i - 128) (pAd (S0x i)) := by rw [eL, eC, tsg_fe hn]
                 exact hE _ _ rfl ⟨fun z => absurd z (by omega), fun _ => ⟨s2, σ1, hσ1, fun _ w => absurd w (by rw [eZ]; exact hn), by rw [eZ]; exact hC2, fun _ => rfl, fun w => absurd w (by rw [eZ]; exact hn)⟩⟩)
              | (have hn : (ch0 tk (prt tk tw pl 5) (hdS tk tw pl (σ 44 1) (tk i - 128) (pAd (S0x i)))).2.1 ≠ 0 := by first | exact h79 | omega
                 have eZ : lnP tk tw pl (σ 44 0) (σ 44 1) (S0x i) = ch0 tk (prt tk tw pl 5) (hdS tk tw pl (σ 44 1) (tk i - 128) (pAd (S0x i))) := by rw [eL, tsg_fe hn]
                 exact hE _ _ rfl ⟨fun z => absurd z (by omega), fun _ => ⟨s3, σ1, hσ1, fun _ w => absurd w (by rw [eZ]; exact hn), by rw [eZ]; exact hC3, fun _ => rfl, fun w => absurd w (by rw [eZ]; exact hn)⟩⟩)
              | (have hn : (tsg tk pl 59 (ch0 tk (prt tk tw pl 5) (hdS tk tw pl (σ 44 1) (tk i - 128) (pAd (S0x i))))).2.1 ≠ 0 := by first | exact h88 | omega
                 exact hE _ _ rfl ⟨fun z => absurd z (by omega), fun _ => ⟨s4, σ1, hσ1, fun _ w => absurd w (by rw [eL]; exact hn), by rw [eL]; exact hC4, fun _ => rfl, fun w => absurd w (by rw [eL]; exact hn)⟩⟩)
              | (refine hE _ _ rfl ⟨fun z => absurd z (by omega), fun _ => ⟨s4, σ1, hσ1, fun w _ => hσ2 (by omega) hz1, by rw [eL]; exact hC4, fun w => absurd (by rw [eL]; exact hz3) w, fun _ => ⟨j1, by omega, by rw [j3, g1], fun y => by rw [j4, g0, r1], fun y => ?_, fun y => by rw [j6, g0, r3, g2, eL]⟩⟩⟩
                 have hln := lnN_e (tk := tk) (tw := tw) (pl := pl) (N := σ 44 0) (M := σ 44 1) (i := i) hk.2.2.2.2.1 (by rw [eL]; exact hz3) (fun S w => by
                   by_cases o : S.2.1 = 0
                   · exact o
                   · rw [(((ch0_k (prt_k (tk := tk) (tw := tw) (pl := pl) hkm (fun j _ _ => hk.2.2.2.2.1 j) 5) hkm).2.2.2) S).1 o] at w; exact w)
                 rw [j5, g0, g1, r2, ← hln, hnb])
            · try simp only [ne_eq, b2i_e, b2i_1, Classical.not_not] at h88
              refine R_aload rfl rfl rfl ?_
              refine T_getr (v := 60) rfl rfl rfl rfl ?_
              refine R_iload rfl rfl ?_
              refine R_iload rfl rfl ?_
              have hz3 : (tsg tk pl 59 (ch0 tk (prt tk tw pl 5) (hdS tk tw pl (σ 44 1) (tk i - 128) (pAd (S0x i))))).2.1 = 0 := by first | exact h88 | omega
              have f4 : ∀ k y, σ1 44 y = σ 44 y ∧ (k ≠ 56 → σ1 k y = σ k y) := fun k y => by
                rcases hσ1 with z | z
                · rw [z]; exact ⟨rfl, fun _ => rfl⟩
                · rw [z, up_k (by decide)]; exact ⟨rfl, fun w => up_k w⟩
              have g0 : s4 44 0 = σ 44 0 := by rw [hC4.1.at 44 0 rfl]; exact (f4 0 0).1
              have g1 : s4 44 1 = σ 44 1 := by rw [hC4.1.at 44 1 rfl]; exact (f4 0 1).1
              have g2 : s4 44 2 = c0 + (tsg tk pl 59 (ch0 tk (prt tk tw pl 5) (hdS tk tw pl (σ 44 1) (tk i - 128) (pAd (S0x i))))).2.2.1 := (hC4.2.2.2.2.2 hz3).2.2.2.1
              have r1 : ∀ y, s4 45 y = σ 45 y := fun y => by rw [hC4.1.row 45 rfl]; exact (f4 45 y).2 (by decide)
              have r2 : ∀ y, s4 46 y = σ 46 y := fun y => by rw [hC4.1.row 46 rfl]; exact (f4 46 y).2 (by decide)
              have r3 : ∀ y, s4 47 y = σ 47 y := fun y => by rw [hC4.1.row 47 rfl]; exact (f4 47 y).2 (by decide)
              obtain ⟨s5, hev5, j1, j2, j3, j4, j5, j6⟩ := sp_X8_endLine_44 d (by omega) xs t dd 60 s4 (tk i) nb (by omega) (by omega)
              refine R_invv rfl rfl rfl rfl rfl rfl (hev5) rfl ?_
              show pCm _ _ _ 100 _ [] _
              refine R_vret rfl ?_
              have eL : lnP tk tw pl (σ 44 0) (σ 44 1) (S0x i) = tsg tk pl 59 (ch0 tk (prt tk tw pl 5) (hdS tk tw pl (σ 44 1) (tk i - 128) (pAd (S0x i)))) := by unfold lnP; rw [e4, if_neg (by omega), if_neg (by omega)]
              first
              | (have hn : (hdS tk tw pl (σ 44 1) (tk i - 128) (pAd (S0x i))).2.1 ≠ 0 := by first | exact h70 | omega
                 have eC : ch0 tk (prt tk tw pl 5) (hdS tk tw pl (σ 44 1) (tk i - 128) (pAd (S0x i))) = hdS tk tw pl (σ 44 1) (tk i - 128) (pAd (S0x i)) := (((ch0_k (prt_k (tk := tk) (tw := tw) (pl := pl) hkm (fun j _ _ => hk.2.2.2.2.1 j) 5) hkm).2.2.2) _).1 hn
                 have eZ : lnP tk tw pl (σ 44 0) (σ 44 1) (S0x i) = hdS tk tw pl (σ 44 1) (tk i - 128) (pAd (S0x i)) := by rw [eL, eC, tsg_fe hn]
                 exact hE _ _ rfl ⟨fun z => absurd z (by omega), fun _ => ⟨s2, σ1, hσ1, fun _ w => absurd w (by rw [eZ]; exact hn), by rw [eZ]; exact hC2, fun _ => rfl, fun w => absurd w (by rw [eZ]; exact hn)⟩⟩)
              | (have hn : (ch0 tk (prt tk tw pl 5) (hdS tk tw pl (σ 44 1) (tk i - 128) (pAd (S0x i)))).2.1 ≠ 0 := by first | exact h79 | omega
                 have eZ : lnP tk tw pl (σ 44 0) (σ 44 1) (S0x i) = ch0 tk (prt tk tw pl 5) (hdS tk tw pl (σ 44 1) (tk i - 128) (pAd (S0x i))) := by rw [eL, tsg_fe hn]
                 exact hE _ _ rfl ⟨fun z => absurd z (by omega), fun _ => ⟨s3, σ1, hσ1, fun _ w => absurd w (by rw [eZ]; exact hn), by rw [eZ]; exact hC3, fun _ => rfl, fun w => absurd w (by rw [eZ]; exact hn)⟩⟩)
              | (have hn : (tsg tk pl 59 (ch0 tk (prt tk tw pl 5) (hdS tk tw pl (σ 44 1) (tk i - 128) (pAd (S0x i))))).2.1 ≠ 0 := by first | exact h88 | omega
                 exact hE _ _ rfl ⟨fun z => absurd z (by omega), fun _ => ⟨s4, σ1, hσ1, fun _ w => absurd w (by rw [eL]; exact hn), by rw [eL]; exact hC4, fun _ => rfl, fun w => absurd w (by rw [eL]; exact hn)⟩⟩)
              | (refine hE _ _ rfl ⟨fun z => absurd z (by omega), fun _ => ⟨s4, σ1, hσ1, fun w _ => hσ2 (by omega) hz1, by rw [eL]; exact hC4, fun w => absurd (by rw [eL]; exact hz3) w, fun _ => ⟨j1, by omega, by rw [j3, g1], fun y => by rw [j4, g0, r1], fun y => ?_, fun y => by rw [j6, g0, r3, g2, eL]⟩⟩⟩
                 have hln := lnN_e (tk := tk) (tw := tw) (pl := pl) (N := σ 44 0) (M := σ 44 1) (i := i) hk.2.2.2.2.1 (by rw [eL]; exact hz3) (fun S w => by
                   by_cases o : S.2.1 = 0
                   · exact o
                   · rw [(((ch0_k (prt_k (tk := tk) (tw := tw) (pl := pl) hkm (fun j _ _ => hk.2.2.2.2.1 j) 5) hkm).2.2.2) S).1 o] at w; exact w)
                 rw [j5, g0, g1, r2, ← hln, hnb])
      refine R_aload rfl rfl rfl ?_
      refine T_geti rfl rfl rfl ?_
      rw [q1]
      refine R_push rfl ?_
      refine R_ic rfl (fun h53 => ?_) (fun h53 => ?_)
      · try simp only [ne_eq, b2i_e, b2i_1, Classical.not_not] at h53
        refine R_push rfl ?_
        exact J64 _ (by first | (rw [if_pos (by omega)]; exact q2) | (rw [if_neg (by omega)]))
      · try simp only [ne_eq, b2i_e, b2i_1, Classical.not_not] at h53
        refine R_aload rfl rfl rfl ?_
        refine T_geti rfl rfl rfl ?_
        refine R_goto rfl ?_
        exact J64 _ (by first | (rw [if_pos (by omega)]; exact q2) | (rw [if_neg (by omega)]))
    · try simp only [ne_eq, b2i_e, b2i_1, Classical.not_not] at h34
      refine R_aload rfl rfl rfl ?_
      refine R_push rfl ?_
      refine R_invv rfl rfl rfl rfl rfl rfl (sp_X7_refuse d (by omega) xs t dd 60 σ 5 ⟨by omega, by omega⟩ (by omega)) rfl ?_
      show pCm _ _ _ 42 _ [(0, _)] _
      refine R_pop rfl rfl ?_
      refine R_vret rfl ?_
      (refine hE _ _ rfl ⟨fun _ => ⟨Fr.rf.up rfl, ?_⟩, fun z => absurd z (by omega)⟩; rw [up_s, h5]; unfold lnP; rw [e4, if_neg (by omega), if_pos (by omega)]; rfl)
  · try simp only [ne_eq, b2i_e, b2i_1, Classical.not_not] at h15
    refine R_aload rfl rfl rfl ?_
    refine R_push rfl ?_
    refine R_invv rfl rfl rfl rfl rfl rfl (sp_X7_refuse d (by omega) xs t dd 60 σ 1 ⟨by omega, by omega⟩ (by omega)) rfl ?_
    show pCm _ _ _ 23 _ [(0, _)] _
    refine R_pop rfl rfl ?_
    refine R_vret rfl ?_
    (refine hE _ _ rfl ⟨fun _ => ⟨Fr.rf.up rfl, ?_⟩, fun z => absurd z (by omega)⟩; rw [up_s, h5]; unfold lnP; rw [e4, if_pos (by omega)]; rfl)

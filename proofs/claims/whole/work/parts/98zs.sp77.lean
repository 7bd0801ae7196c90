/-- the letters of the word at p, to the base of the class -/
def ltC (σ : Sg) (p : Int) : Int := wvl 32 (fun i => σ 53 (p + i) - 96) (ten (σ 53) (σ 52 0) p - p)
/-- the class's reader stands at a token, and these steps are written -/
def CSx (s σ : Sg) (tk tw pl : Int → Int) (B : Nat) (m c0 : Int) (S : PSt) : Prop := Fr [B + 4] [(52, 3), (52, 4), (52, 5), (52, 6), (52, 7), (52, 8), (B, 2)] σ s ∧ s 52 3 = S.2.1 ∧ (0 ≤ S.1 ∧ S.1 ≤ m) ∧ (0 ≤ s 52 5 ∧ s 52 5 ≤ 1000) ∧ ((∀ x, x < c0 → s (B + 4) x = σ (B + 4) x) ∧ (S.2.1 = 0 → tk S.1 ≠ 0 → s 52 6 = ten (σ 53) (σ 52 0) (pl S.1) ∧ (tk S.1 = 3 → s 52 8 = ltC σ (pl S.1)))) ∧ (S.2.1 = 0 → s 52 4 = tk S.1 ∧ s 52 7 = tw S.1 ∧ s 52 5 = pl S.1 ∧ s B 2 = c0 + S.2.2.1 ∧ 0 ≤ S.2.2.1 ∧ ∀ q, 0 ≤ q → q < S.2.2.1 → s (B + 4) (c0 + q) = S.2.2.2.1 q + 256 * S.2.2.2.2 q ∧ (S.2.2.2.1 q ≤ 255 ∧ 0 ≤ S.2.2.2.1 q) ∧ -1 ≤ S.2.2.2.2 q ∧ S.2.2.2.2 q ≤ 9999)
/-- what advance does: to be had of its walk -/
def ADV (D rr : Nat) (σ : Sg) (tk tw pl : Int → Int) (B : Nat) (m c0 : Int) : Prop := ∀ d, D ≤ d → ∀ (xs : List (Nat × Nat)) (t dd : Nat) (s : Sg) (S : PSt), CSx s σ tk tw pl B m c0 S → S.2.1 = 0 → tk S.1 ≠ 0 → ∃ s', Ev d 227 [(68, 0)] (Wd xs t dd rr s) (8, 0) (Wd xs t dd rr s') ∧ CSx s' σ tk tw pl B m c0 (pAd S)
theorem CS_er {s σ : Sg} {tk tw pl : Int → Int} {B : Nat} {m c0 c : Int} {S : PSt} (hB : B = 37 ∨ B = 44) (h : CSx s σ tk tw pl B m c0 S) (hf : S.2.1 = 0) (hc : 1 ≤ c) : CSx (up2 s 52 3 (c + 16 * s 52 5)) σ tk tw pl B m c0 (pEr pl c S) ∧ (pEr pl c S).2.1 ≠ 0 := by
  obtain ⟨a1, a2, a3, a4, a5, a6⟩ := h
  obtain ⟨b1, b2, b3, b4, b5, b6⟩ := a6 hf
  have hz : (pEr pl c S).2.1 = c + 16 * s 52 5 := by show c + 16 * pl S.1 = _; rw [b3]
  refine ⟨⟨a1.up (by rcases hB with e | e <;> subst e <;> rfl), by rw [hz]; simp [up2], a3, by simp [up2]; exact a4, ⟨fun x hx => ?_, fun q => absurd q (by rw [hz]; omega)⟩, fun q => absurd q (by rw [hz]; omega)⟩, by rw [hz]; omega⟩
  have : up2 s 52 3 (c + 16 * s 52 5) (B + 4) x = s (B + 4) x := by rcases hB with e | e <;> subst e <;> simp [up2]
  rw [this]; exact a5.1 x hx
set_option maxRecDepth 20000 in
set_option maxHeartbeats 2000000 in
theorem sp_X7_accept (d : Nat) (hd : 1 ≤ d) (xs : List (Nat × Nat)) (t dd rr : Nat) (σ s : Sg) (w : Int) (hw : w ≠ 0) (D : Nat) (hD : D + 1 ≤ d) (tk tw pl : Int → Int) (B : Nat) (hB : B = 37 ∨ B = 44) (m c0 : Int) (S : PSt) (hA : ADV D rr σ tk tw pl B m c0) (h : CSx s σ tk tw pl B m c0 S) (hf : S.2.1 = 0) (hd2 : 2 ≤ d)  : ∃ σ', Ev d 223 [(68, 0), (0, w)] (Wd xs t dd rr s) (0, b2i ((tsg tk pl w S).2.1 = 0)) (Wd xs t dd rr σ') ∧ CSx σ' σ tk tw pl B m c0 (tsg tk pl w S) := by
  obtain ⟨d, rfl⟩ : ∃ e, d = e + 1 := ⟨d - 1, by omega⟩
  obtain ⟨a1, a2, a3, a4, a5, a6⟩ := id h
  obtain ⟨b1, b2, b3, b4, b5, b6⟩ := a6 hf
  clear a5 a6 b6
  refine evS (nL := 2) (code := k_X7_accept) rfl dc_X7_accept rfl (fun E hE => ?_)
  show pCm (Ev d) k_X7_accept E 0 [(68, 0), (0, w)] [] _
  refine R_aload rfl rfl rfl ?_
  refine T_geti rfl rfl rfl ?_
  refine R_iload rfl rfl ?_
  refine R_ic rfl (fun h5 => ?_) (fun h5 => ?_)
  · try simp only [ne_eq, b2i_e, b2i_1, Classical.not_not] at h5
    refine R_aload rfl rfl rfl ?_
    obtain ⟨s2, hev2, hC2⟩ := hA d (by omega) xs t dd s S h hf (by omega)
    refine R_invv rfl rfl rfl rfl rfl rfl (hev2) rfl ?_
    show pCm _ _ _ 18 _ [] _
    refine R_push rfl ?_
    refine R_zret rfl (by first | exact Or.inl rfl | exact Or.inr rfl | omega | grind) ?_
    first
    | (obtain ⟨hC, hn⟩ := CS_er (c := 1) hB h hf (by omega)
       have e : tsg tk pl w S = pEr pl 1 S := by unfold tsg; rw [if_neg (by omega), if_neg (by omega)]
       exact hE _ _ (by rw [e, b2i_f hn]) (by rw [e]; exact hC))
    | (have e : tsg tk pl w S = pAd S := by unfold tsg; rw [if_neg (by omega), if_pos (by omega)]
       exact hE _ _ (by rw [e, b2i_t (show (pAd S).2.1 = 0 from hf)]) (by rw [e]; exact hC2))
  · try simp only [ne_eq, b2i_e, b2i_1, Classical.not_not] at h5
    refine R_aload rfl rfl rfl ?_
    refine R_push rfl ?_
    refine R_invv rfl rfl rfl rfl rfl rfl (sp_X7_refuse d (by omega) xs t dd rr s 1 ⟨by omega, by omega⟩ a4) rfl ?_
    show pCm _ _ _ 13 _ [(0, _)] _
    refine R_zret rfl (by first | exact Or.inl rfl | exact Or.inr rfl | omega | grind) ?_
    first
    | (obtain ⟨hC, hn⟩ := CS_er (c := 1) hB h hf (by omega)
       have e : tsg tk pl w S = pEr pl 1 S := by unfold tsg; rw [if_neg (by omega), if_neg (by omega)]
       exact hE _ _ (by rw [e, b2i_f hn]) (by rw [e]; exact hC))
    | (have e : tsg tk pl w S = pAd S := by unfold tsg; rw [if_neg (by omega), if_pos (by omega)]
       exact hE _ _ (by rw [e, b2i_t (show (pAd S).2.1 = 0 from hf)]) (by rw [e]; exact hC2))
set_option maxRecDepth 20000 in
set_option maxHeartbeats 2000000 in
theorem sp_X7_readNumber (d : Nat) (hd : 1 ≤ d) (xs : List (Nat × Nat)) (t dd rr : Nat) (σ s : Sg) (lo hh : Int) (D : Nat) (hD : D + 1 ≤ d) (tk tw pl : Int → Int) (B : Nat) (hB : B = 37 ∨ B = 44) (m c0 : Int) (S : PSt) (hA : ADV D rr σ tk tw pl B m c0) (h : CSx s σ tk tw pl B m c0 S) (hf : S.2.1 = 0) (hd2 : 2 ≤ d)  : ∃ σ', Ev d 222 [(68, 0), (0, lo), (0, hh)] (Wd xs t dd rr s) (0, b2i ((tnm tk tw pl lo hh S).2.1 = 0)) (Wd xs t dd rr σ') ∧ CSx σ' σ tk tw pl B m c0 (tnm tk tw pl lo hh S) := by
  obtain ⟨d, rfl⟩ : ∃ e, d = e + 1 := ⟨d - 1, by omega⟩
  obtain ⟨a1, a2, a3, a4, a5, a6⟩ := id h
  obtain ⟨b1, b2, b3, b4, b5, b6⟩ := a6 hf
  clear a5 a6 b6
  refine evS (nL := 3) (code := k_X7_readNumber) rfl dc_X7_readNumber rfl (fun E hE => ?_)
  show pCm (Ev d) k_X7_readNumber E 0 [(68, 0), (0, lo), (0, hh)] [] _
  refine R_aload rfl rfl rfl ?_
  refine T_geti rfl rfl rfl ?_
  refine R_push rfl ?_
  refine R_ic rfl (fun h5 => ?_) (fun h5 => ?_)
  · try simp only [ne_eq, b2i_e, b2i_1, Classical.not_not] at h5
    refine R_aload rfl rfl rfl ?_
    refine T_geti rfl rfl rfl ?_
    refine R_iload rfl rfl ?_
    refine R_iload rfl rfl ?_
    refine R_inv rfl rfl rfl rfl rfl (sp_X9_within d (by omega) _ _ _ _) rfl ?_
    show pCm _ _ _ 23 _ [(0, _)] _
    refine R_if rfl (fun h23 => ?_) (fun h23 => ?_)
    · try simp only [ne_eq, b2i_e, b2i_1, Classical.not_not] at h23
      refine R_aload rfl rfl rfl ?_
      obtain ⟨s2, hev2, hC2⟩ := hA d (by omega) xs t dd s S h hf (by omega)
      refine R_invv rfl rfl rfl rfl rfl rfl (hev2) rfl ?_
      show pCm _ _ _ 36 _ [] _
      refine R_push rfl ?_
      refine R_zret rfl (by first | exact Or.inl rfl | exact Or.inr rfl | omega | grind) ?_
      first
      | (obtain ⟨hC, hn⟩ := CS_er (c := 1) hB h hf (by omega)
         have e : tnm tk tw pl lo hh S = pEr pl 1 S := by unfold tnm; rw [if_neg (by omega), if_pos (by omega)]
         exact hE _ _ (by rw [e, b2i_f hn]) (by rw [e]; exact hC))
      | (obtain ⟨hC, hn⟩ := CS_er (c := 4) hB h hf (by omega)
         have e : tnm tk tw pl lo hh S = pEr pl 4 S := by unfold tnm; rw [if_neg (by omega), if_neg (by omega), if_pos (by omega)]
         exact hE _ _ (by rw [e, b2i_f hn]) (by rw [e]; exact hC))
      | (have e : tnm tk tw pl lo hh S = pAd S := by unfold tnm; rw [if_neg (by omega), if_neg (by omega), if_neg (by omega)]
         exact hE _ _ (by rw [e, b2i_t (show (pAd S).2.1 = 0 from hf)]) (by rw [e]; exact hC2))
    · try simp only [ne_eq, b2i_e, b2i_1, Classical.not_not] at h23
      refine R_aload rfl rfl rfl ?_
      refine R_push rfl ?_
      refine R_invv rfl rfl rfl rfl rfl rfl (sp_X7_refuse d (by omega) xs t dd rr s _ ⟨by omega, by omega⟩ a4) rfl ?_
      show pCm _ _ _ 31 _ [(0, _)] _
      refine R_zret rfl (by first | exact Or.inl rfl | exact Or.inr rfl | omega | grind) ?_
      first
      | (obtain ⟨hC, hn⟩ := CS_er (c := 1) hB h hf (by omega)
         have e : tnm tk tw pl lo hh S = pEr pl 1 S := by unfold tnm; rw [if_neg (by omega), if_pos (by omega)]
         exact hE _ _ (by rw [e, b2i_f hn]) (by rw [e]; exact hC))
      | (obtain ⟨hC, hn⟩ := CS_er (c := 4) hB h hf (by omega)
         have e : tnm tk tw pl lo hh S = pEr pl 4 S := by unfold tnm; rw [if_neg (by omega), if_neg (by omega), if_pos (by omega)]
         exact hE _ _ (by rw [e, b2i_f hn]) (by rw [e]; exact hC))
      | (have e : tnm tk tw pl lo hh S = pAd S := by unfold tnm; rw [if_neg (by omega), if_neg (by omega), if_neg (by omega)]
         exact hE _ _ (by rw [e, b2i_t (show (pAd S).2.1 = 0 from hf)]) (by rw [e]; exact hC2))
  · try simp only [ne_eq, b2i_e, b2i_1, Classical.not_not] at h5
    refine R_aload rfl rfl rfl ?_
    refine R_push rfl ?_
    refine R_invv rfl rfl rfl rfl rfl rfl (sp_X7_refuse d (by omega) xs t dd rr s _ ⟨by omega, by omega⟩ a4) rfl ?_
    show pCm _ _ _ 13 _ [(0, _)] _
    refine R_zret rfl (by first | exact Or.inl rfl | exact Or.inr rfl | omega | grind) ?_
    first
    | (obtain ⟨hC, hn⟩ := CS_er (c := 1) hB h hf (by omega)
       have e : tnm tk tw pl lo hh S = pEr pl 1 S := by unfold tnm; rw [if_neg (by omega), if_pos (by omega)]
       exact hE _ _ (by rw [e, b2i_f hn]) (by rw [e]; exact hC))
    | (obtain ⟨hC, hn⟩ := CS_er (c := 4) hB h hf (by omega)
       have e : tnm tk tw pl lo hh S = pEr pl 4 S := by unfold tnm; rw [if_neg (by omega), if_neg (by omega), if_pos (by omega)]
       exact hE _ _ (by rw [e, b2i_f hn]) (by rw [e]; exact hC))
    | (have e : tnm tk tw pl lo hh S = pAd S := by unfold tnm; rw [if_neg (by omega), if_neg (by omega), if_neg (by omega)]
       exact hE _ _ (by rw [e, b2i_t (show (pAd S).2.1 = 0 from hf)]) (by rw [e]; exact hC2))

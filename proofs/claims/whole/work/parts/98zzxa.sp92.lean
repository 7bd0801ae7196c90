theorem evC {d μ nL n : Nat} {code : Nat → Option pT} {as : List pV} {T : List (Nat × Nat × Nat)} {σ : Sg} {res : pV} {Post : Sg → Prop} (hP : pP μ = (nL, code)) (hdt : DetC code) (hf : Nat.ble (as.flatMap (fun v => if v.1 = 1 then [v, ((9, 0) : pV)] else [v])).length nL = true)
    (h : ∀ E : pE, (∀ r1 σ', r1 = res → Post σ' → E r1 (Wc n T σ')) → pCm (Ev d) code E 0 (pEnt nL as) [] (Wc n T σ)) : ∃ σ', Ev (d + 1) μ as (Wc n T σ) res (Wc n T σ') ∧ Post σ' := by
  obtain ⟨r, w', ⟨σ', e1, e2, hp⟩, k⟩ := cm_ex hdt (h (fun r1 w1 => ∃ σ', r1 = res ∧ w1 = Wc n T σ' ∧ Post σ') (fun r1 σ' e hp => ⟨σ', e, rfl, hp⟩))
  subst e1; subst e2
  exact ⟨σ', ev_in ⟨Nat.le_refl _, Nat.le_refl _⟩ (by rw [hP]; exact hf) (by rw [hP]; exact k), hp⟩
/-- words out of a text, letter by letter -/
def spF (k : Int) : Nat → Int × (Int → Int)
  | 0 => (0, fun _ => 0)
  | i + 1 => if sBt k (i : Int) = 32 then ((spF k i).1 + 1, (spF k i).2) else ((spF k i).1, fup (spF k i).2 (spF k i).1 (32 * (spF k i).2 (spF k i).1 + (sBt k (i : Int) - 96)))
theorem spF_0 : ∀ i : Fin 36, ((0 ≤ (spF 0 i.val).1 ∧ (spF 0 i.val).1 < 8) ∧ (sBt 0 (i.val : Int) = 32 ∨ 97 ≤ sBt 0 (i.val : Int) ∧ sBt 0 (i.val : Int) ≤ 122)) ∧ 0 ≤ (spF 0 i.val).2 (spF 0 i.val).1 ∧ (spF 0 i.val).2 (spF 0 i.val).1 ≤ 4000000000000 := by decide +kernel
theorem spF_1 : ∀ i : Fin 69, ((0 ≤ (spF 1 i.val).1 ∧ (spF 1 i.val).1 < 12) ∧ (sBt 1 (i.val : Int) = 32 ∨ 97 ≤ sBt 1 (i.val : Int) ∧ sBt 1 (i.val : Int) ≤ 122)) ∧ 0 ≤ (spF 1 i.val).2 (spF 1 i.val).1 ∧ (spF 1 i.val).2 (spF 1 i.val).1 ≤ 4000000000000 := by decide +kernel
theorem spW_0 : ∀ w : Fin 8, (spF 0 36).2 (w.val : Int) = wvl 32 (wdg (w.val : Int)) (wln (w.val : Int)) := by decide +kernel
theorem spW_1 : ∀ w : Fin 12, (spF 1 69).2 (w.val : Int) = wvl 32 (wdg (8 + (w.val : Int))) (wln (8 + (w.val : Int))) := by decide +kernel
set_option maxRecDepth 20000 in
set_option maxHeartbeats 2000000 in
theorem sp_X7_spell_54 (d : Nat) (hd : 6 ≤ d) (σ : Sg) (T : List (Nat × Nat × Nat)) (hz0 : ∀ i, σ 54 i = 0)  : ∃ σ', Ev d 214 [(5, 0), (70, 0)] (Wc 57 T σ) (8, 0) (Wc 57 T σ') ∧ Fr [54] [] σ σ' ∧ ∀ w, 0 ≤ w → w < 8 → σ' 54 w = wvl 32 (wdg (w)) (wln (w)) := by
  obtain ⟨d, rfl⟩ : ∃ e, d = e + 1 := ⟨d - 1, by omega⟩
  have hlen : sLn 0 = 36 := by decide +kernel
  refine evC (nL := 4) (code := k_X7_spell) rfl dc_X7_spell rfl (fun E hE => ?_)
  show pCm (Ev d) k_X7_spell E 0 [(5, 0), (70, 0), (9, 0), (9, 0)] [] _
  refine R_push rfl ?_
  refine R_istore rfl rfl ?_
  refine R_push rfl ?_
  refine R_istore rfl rfl ?_
  refine loop (pc := 4) (α := Nat × Sg) (fun x => 36 - x.1) (fun x => ([(5, 0), (70, 0), (0, (spF 0 x.1).1), (0, (x.1 : Int))], Wc 57 T x.2)) (fun x => x.1 ≤ 36 ∧ Fr [54] [] σ x.2 ∧ x.2 54 = (spF 0 x.1).2) ?_ (0, σ) ?_
  · intro ⟨i, s⟩ ⟨hi, hF, hrow⟩ ih
    dsimp only at hi hF hrow ⊢
    have hfact : i < 36 → ((0 ≤ (spF 0 i).1 ∧ (spF 0 i).1 < 8) ∧ (sBt 0 (i : Int) = 32 ∨ 97 ≤ sBt 0 (i : Int) ∧ sBt 0 (i : Int) ≤ 122)) ∧ 0 ≤ (spF 0 i).2 (spF 0 i).1 ∧ (spF 0 i).2 (spF 0 i).1 ≤ 4000000000000 := fun hi2 => spF_0 ⟨i, hi2⟩
    refine R_iload rfl rfl ?_
    refine R_aload rfl rfl rfl ?_
    refine R_invS rfl rfl rfl rfl rfl (by omega) (by omega) (sp_J0_length_8abf5 d (by omega) _ 0 ⟨by omega, by omega⟩) rfl ?_
    show pCm _ _ _ 9 _ [(0, _), (0, _)] _
    rw [hlen]
    refine R_ic rfl (fun h9 => ?_) (fun h9 => ?_)
    · try simp only [ne_eq, b2i_e, b2i_1, Classical.not_not] at h9
      refine R_vret rfl ?_
      have hi3 : i = 36 := by
        by_cases z : i < 36
        · have := (hfact z).1.1; omega
        · omega
      subst hi3
      refine hE _ _ rfl ⟨hF, fun w w0 w1 => ?_⟩
      rw [hrow]
      have := spW_0 ⟨w.toNat, by omega⟩
      dsimp only at this
      rw [Int.toNat_of_nonneg w0] at this
      exact this
    · try simp only [ne_eq, b2i_e, b2i_1, Classical.not_not] at h9
      refine R_iload rfl rfl ?_
      refine R_aload rfl rfl rfl ?_
      refine R_alen rfl rfl rfl rfl ?_
      refine R_ic rfl (fun h15 => ?_) (fun h15 => ?_)
      · try simp only [ne_eq, b2i_e, b2i_1, Classical.not_not] at h15
        refine R_vret rfl ?_
        have hi3 : i = 36 := by
          by_cases z : i < 36
          · have := (hfact z).1.1; omega
          · omega
        subst hi3
        refine hE _ _ rfl ⟨hF, fun w w0 w1 => ?_⟩
        rw [hrow]
        have := spW_0 ⟨w.toNat, by omega⟩
        dsimp only at this
        rw [Int.toNat_of_nonneg w0] at this
        exact this
      · try simp only [ne_eq, b2i_e, b2i_1, Classical.not_not] at h15
        refine R_aload rfl rfl rfl ?_
        refine R_iload rfl rfl ?_
        have hi2 : i < 36 := by omega
        obtain ⟨⟨g1, g2⟩, g3⟩ := hfact hi2
        refine R_invS rfl rfl rfl rfl rfl (by omega) (by omega) (sp_J0_charAt_5068e d (by omega) _ 0 (i : Int) ⟨by omega, by omega⟩ (by omega) (by rw [hlen]; omega)) rfl ?_
        show pCm _ _ _ 23 _ [(0, _)] _
        refine R_push rfl ?_
        refine R_ic rfl (fun h25 => ?_) (fun h25 => ?_)
        · try simp only [ne_eq, b2i_e, b2i_1, Classical.not_not] at h25
          refine R_aload rfl rfl rfl ?_
          refine R_iload rfl rfl ?_
          refine R_aload rfl rfl rfl ?_
          refine R_iload rfl rfl ?_
          refine T_ald rfl rfl (by omega) (by omega) ?_
          refine R_aload rfl rfl rfl ?_
          refine R_iload rfl rfl ?_
          refine R_invS rfl rfl rfl rfl rfl (by omega) (by omega) (sp_J0_charAt_5068e d (by omega) _ 0 (i : Int) ⟨by omega, by omega⟩ (by omega) (by rw [hlen]; omega)) rfl ?_
          show pCm _ _ _ 44 _ [(0, _), (1, _), (0, _), (70, 0)] _
          rw [← hrow] at g3
          refine R_inv rfl rfl rfl rfl rfl (sp_X7_withLetter d (by omega) _ _ _ g3 (by omega)) rfl ?_
          show pCm _ _ _ 47 _ [(1, _), (0, _), (70, 0)] _
          refine T_last rfl rfl (by omega) (by omega) ?_
          refine R_inc rfl rfl (by omega) (by omega) ?_
          refine R_goto rfl ?_
          have hi2 : i < 36 := by omega
          obtain ⟨⟨q1, q2⟩, q3⟩ := hfact hi2
          first
          | (have e : spF 0 (i + 1) = ((spF 0 i).1 + 1, (spF 0 i).2) := by rw [spF, if_pos (by omega)]
             have := ih (i + 1, s) ⟨by dsimp only; omega, hF, by dsimp only; rw [e]; exact hrow⟩ (by dsimp only; omega)
             dsimp only at this
             rw [e, show (((i + 1 : Nat) : Int)) = (i : Int) + 1 by omega] at this
             exact this)
          | (have e : spF 0 (i + 1) = ((spF 0 i).1, fup (spF 0 i).2 (spF 0 i).1 (32 * (spF 0 i).2 (spF 0 i).1 + (sBt 0 (i : Int) - 96))) := by rw [spF, if_neg (by omega)]
             have := ih (i + 1, up2 s 54 (spF 0 i).1 (32 * s 54 (spF 0 i).1 + (sBt 0 (i : Int) - 96))) ⟨by dsimp only; omega, hF.up rfl, by dsimp only; rw [e, up_row, hrow]⟩ (by dsimp only; omega)
             dsimp only at this
             rw [e, show (((i + 1 : Nat) : Int)) = (i : Int) + 1 by omega] at this
             exact this)
        · try simp only [ne_eq, b2i_e, b2i_1, Classical.not_not] at h25
          refine R_inc rfl rfl (by omega) (by omega) ?_
          refine R_goto rfl ?_
          refine R_inc rfl rfl (by omega) (by omega) ?_
          refine R_goto rfl ?_
          have hi2 : i < 36 := by omega
          obtain ⟨⟨q1, q2⟩, q3⟩ := hfact hi2
          first
          | (have e : spF 0 (i + 1) = ((spF 0 i).1 + 1, (spF 0 i).2) := by rw [spF, if_pos (by omega)]
             have := ih (i + 1, s) ⟨by dsimp only; omega, hF, by dsimp only; rw [e]; exact hrow⟩ (by dsimp only; omega)
             dsimp only at this
             rw [e, show (((i + 1 : Nat) : Int)) = (i : Int) + 1 by omega] at this
             exact this)
          | (have e : spF 0 (i + 1) = ((spF 0 i).1, fup (spF 0 i).2 (spF 0 i).1 (32 * (spF 0 i).2 (spF 0 i).1 + (sBt 0 (i : Int) - 96))) := by rw [spF, if_neg (by omega)]
             have := ih (i + 1, up2 s 54 (spF 0 i).1 (32 * s 54 (spF 0 i).1 + (sBt 0 (i : Int) - 96))) ⟨by dsimp only; omega, hF.up rfl, by dsimp only; rw [e, up_row, hrow]⟩ (by dsimp only; omega)
             dsimp only at this
             rw [e, show (((i + 1 : Nat) : Int)) = (i : Int) + 1 by omega] at this
             exact this)
  · exact ⟨by omega, Fr.rf, by dsimp only; funext i; exact hz0 i⟩
set_option maxRecDepth 20000 in
set_option maxHeartbeats 2000000 in
theorem sp_X7_spell_55 (d : Nat) (hd : 6 ≤ d) (σ : Sg) (T : List (Nat × Nat × Nat)) (hz0 : ∀ i, σ 55 i = 0)  : ∃ σ', Ev d 214 [(5, 1), (71, 0)] (Wc 57 T σ) (8, 0) (Wc 57 T σ') ∧ Fr [55] [] σ σ' ∧ ∀ w, 0 ≤ w → w < 12 → σ' 55 w = wvl 32 (wdg (8 + w)) (wln (8 + w)) := by
  obtain ⟨d, rfl⟩ : ∃ e, d = e + 1 := ⟨d - 1, by omega⟩
  have hlen : sLn 1 = 69 := by decide +kernel
  refine evC (nL := 4) (code := k_X7_spell) rfl dc_X7_spell rfl (fun E hE => ?_)
  show pCm (Ev d) k_X7_spell E 0 [(5, 1), (71, 0), (9, 0), (9, 0)] [] _
  refine R_push rfl ?_
  refine R_istore rfl rfl ?_
  refine R_push rfl ?_
  refine R_istore rfl rfl ?_
  refine loop (pc := 4) (α := Nat × Sg) (fun x => 69 - x.1) (fun x => ([(5, 1), (71, 0), (0, (spF 1 x.1).1), (0, (x.1 : Int))], Wc 57 T x.2)) (fun x => x.1 ≤ 69 ∧ Fr [55] [] σ x.2 ∧ x.2 55 = (spF 1 x.1).2) ?_ (0, σ) ?_
  · intro ⟨i, s⟩ ⟨hi, hF, hrow⟩ ih
    dsimp only at hi hF hrow ⊢
    have hfact : i < 69 → ((0 ≤ (spF 1 i).1 ∧ (spF 1 i).1 < 12) ∧ (sBt 1 (i : Int) = 32 ∨ 97 ≤ sBt 1 (i : Int) ∧ sBt 1 (i : Int) ≤ 122)) ∧ 0 ≤ (spF 1 i).2 (spF 1 i).1 ∧ (spF 1 i).2 (spF 1 i).1 ≤ 4000000000000 := fun hi2 => spF_1 ⟨i, hi2⟩
    refine R_iload rfl rfl ?_
    refine R_aload rfl rfl rfl ?_
    refine R_invS rfl rfl rfl rfl rfl (by omega) (by omega) (sp_J0_length_8abf5 d (by omega) _ 1 ⟨by omega, by omega⟩) rfl ?_
    show pCm _ _ _ 9 _ [(0, _), (0, _)] _
    rw [hlen]
    refine R_ic rfl (fun h9 => ?_) (fun h9 => ?_)
    · try simp only [ne_eq, b2i_e, b2i_1, Classical.not_not] at h9
      refine R_vret rfl ?_
      have hi3 : i = 69 := by
        by_cases z : i < 69
        · have := (hfact z).1.1; omega
        · omega
      subst hi3
      refine hE _ _ rfl ⟨hF, fun w w0 w1 => ?_⟩
      rw [hrow]
      have := spW_1 ⟨w.toNat, by omega⟩
      dsimp only at this
      rw [Int.toNat_of_nonneg w0] at this
      exact this
    · try simp only [ne_eq, b2i_e, b2i_1, Classical.not_not] at h9
      refine R_iload rfl rfl ?_
      refine R_aload rfl rfl rfl ?_
      refine R_alen rfl rfl rfl rfl ?_
      refine R_ic rfl (fun h15 => ?_) (fun h15 => ?_)
      · try simp only [ne_eq, b2i_e, b2i_1, Classical.not_not] at h15
        refine R_vret rfl ?_
        have hi3 : i = 69 := by
          by_cases z : i < 69
          · have := (hfact z).1.1; omega
          · omega
        subst hi3
        refine hE _ _ rfl ⟨hF, fun w w0 w1 => ?_⟩
        rw [hrow]
        have := spW_1 ⟨w.toNat, by omega⟩
        dsimp only at this
        rw [Int.toNat_of_nonneg w0] at this
        exact this
      · try simp only [ne_eq, b2i_e, b2i_1, Classical.not_not] at h15
        refine R_aload rfl rfl rfl ?_
        refine R_iload rfl rfl ?_
        have hi2 : i < 69 := by omega
        obtain ⟨⟨g1, g2⟩, g3⟩ := hfact hi2
        refine R_invS rfl rfl rfl rfl rfl (by omega) (by omega) (sp_J0_charAt_5068e d (by omega) _ 1 (i : Int) ⟨by omega, by omega⟩ (by omega) (by rw [hlen]; omega)) rfl ?_
        show pCm _ _ _ 23 _ [(0, _)] _
        refine R_push rfl ?_
        refine R_ic rfl (fun h25 => ?_) (fun h25 => ?_)
        · try simp only [ne_eq, b2i_e, b2i_1, Classical.not_not] at h25
          refine R_aload rfl rfl rfl ?_
          refine R_iload rfl rfl ?_
          refine R_aload rfl rfl rfl ?_
          refine R_iload rfl rfl ?_
          refine T_ald rfl rfl (by omega) (by omega) ?_
          refine R_aload rfl rfl rfl ?_
          refine R_iload rfl rfl ?_
          refine R_invS rfl rfl rfl rfl rfl (by omega) (by omega) (sp_J0_charAt_5068e d (by omega) _ 1 (i : Int) ⟨by omega, by omega⟩ (by omega) (by rw [hlen]; omega)) rfl ?_
          show pCm _ _ _ 44 _ [(0, _), (1, _), (0, _), (71, 0)] _
          rw [← hrow] at g3
          refine R_inv rfl rfl rfl rfl rfl (sp_X7_withLetter d (by omega) _ _ _ g3 (by omega)) rfl ?_
          show pCm _ _ _ 47 _ [(1, _), (0, _), (71, 0)] _
          refine T_last rfl rfl (by omega) (by omega) ?_
          refine R_inc rfl rfl (by omega) (by omega) ?_
          refine R_goto rfl ?_
          have hi2 : i < 69 := by omega
          obtain ⟨⟨q1, q2⟩, q3⟩ := hfact hi2
          first
          | (have e : spF 1 (i + 1) = ((spF 1 i).1 + 1, (spF 1 i).2) := by rw [spF, if_pos (by omega)]
             have := ih (i + 1, s) ⟨by dsimp only; omega, hF, by dsimp only; rw [e]; exact hrow⟩ (by dsimp only; omega)
             dsimp only at this
             rw [e, show (((i + 1 : Nat) : Int)) = (i : Int) + 1 by omega] at this
             exact this)
          | (have e : spF 1 (i + 1) = ((spF 1 i).1, fup (spF 1 i).2 (spF 1 i).1 (32 * (spF 1 i).2 (spF 1 i).1 + (sBt 1 (i : Int) - 96))) := by rw [spF, if_neg (by omega)]
             have := ih (i + 1, up2 s 55 (spF 1 i).1 (32 * s 55 (spF 1 i).1 + (sBt 1 (i : Int) - 96))) ⟨by dsimp only; omega, hF.up rfl, by dsimp only; rw [e, up_row, hrow]⟩ (by dsimp only; omega)
             dsimp only at this
             rw [e, show (((i + 1 : Nat) : Int)) = (i : Int) + 1 by omega] at this
             exact this)
        · try simp only [ne_eq, b2i_e, b2i_1, Classical.not_not] at h25
          refine R_inc rfl rfl (by omega) (by omega) ?_
          refine R_goto rfl ?_
          refine R_inc rfl rfl (by omega) (by omega) ?_
          refine R_goto rfl ?_
          have hi2 : i < 69 := by omega
          obtain ⟨⟨q1, q2⟩, q3⟩ := hfact hi2
          first
          | (have e : spF 1 (i + 1) = ((spF 1 i).1 + 1, (spF 1 i).2) := by rw [spF, if_pos (by omega)]
             have := ih (i + 1, s) ⟨by dsimp only; omega, hF, by dsimp only; rw [e]; exact hrow⟩ (by dsimp only; omega)
             dsimp only at this
             rw [e, show (((i + 1 : Nat) : Int)) = (i : Int) + 1 by omega] at this
             exact this)
          | (have e : spF 1 (i + 1) = ((spF 1 i).1, fup (spF 1 i).2 (spF 1 i).1 (32 * (spF 1 i).2 (spF 1 i).1 + (sBt 1 (i : Int) - 96))) := by rw [spF, if_neg (by omega)]
             have := ih (i + 1, up2 s 55 (spF 1 i).1 (32 * s 55 (spF 1 i).1 + (sBt 1 (i : Int) - 96))) ⟨by dsimp only; omega, hF.up rfl, by dsimp only; rw [e, up_row, hrow]⟩ (by dsimp only; omega)
             dsimp only at this
             rw [e, show (((i + 1 : Nat) : Int)) = (i : Int) + 1 by omega] at this
             exact this)
  · exact ⟨by omega, Fr.rf, by dsimp only; funext i; exact hz0 i⟩

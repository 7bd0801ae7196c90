theorem CS_em {s σ : Sg} {tk tw pl : Int → Int} {B : Nat} {m c0 k w : Int} {S : PSt} (hB : B = 37 ∨ B = 44) (h : CSx s σ tk tw pl B m c0 S) (hf : S.2.1 = 0) (hkk : k ≤ 255 ∧ 0 ≤ k) (hww : -1 ≤ w ∧ w ≤ 9999) : CSx (up2 (up2 s (B + 4) (s B 2) (k + 256 * w)) B 2 (s B 2 + 1)) σ tk tw pl B m c0 (pEm k w S) := by
  obtain ⟨a1, a2, a3, a4, a5, a6⟩ := h
  obtain ⟨b1, b2, b3, b4, b5, b6⟩ := a6 hf
  have e52 : ∀ i, up2 (up2 s (B + 4) (s B 2) (k + 256 * w)) B 2 (s B 2 + 1) 52 i = s 52 i := fun i => by rcases hB with e | e <;> subst e <;> simp [up2]
  have eB : up2 (up2 s (B + 4) (s B 2) (k + 256 * w)) B 2 (s B 2 + 1) B 2 = s B 2 + 1 := by simp [up2]
  have eS : ∀ x, up2 (up2 s (B + 4) (s B 2) (k + 256 * w)) B 2 (s B 2 + 1) (B + 4) x = if x = s B 2 then k + 256 * w else s (B + 4) x := fun x => by rcases hB with e | e <;> subst e <;> simp [up2]
  refine ⟨(a1.up (by rcases hB with e | e <;> subst e <;> rfl)).up (by rcases hB with e | e <;> subst e <;> rfl), by rw [e52]; exact a2, a3, by rw [e52]; exact a4, ⟨fun x hx => by rw [eS, if_neg (by omega)]; exact a5.1 x hx, fun _ => by rw [e52, e52]; exact a5.2 hf⟩, fun _ => ⟨by rw [e52]; exact b1, by rw [e52]; exact b2, by rw [e52]; exact b3, by rw [eB, b4]; show c0 + S.2.2.1 + 1 = c0 + (S.2.2.1 + 1); omega, by show 0 ≤ S.2.2.1 + 1; omega, fun q q0 q1 => ?_⟩⟩
  have q1 : q < S.2.2.1 + 1 := q1
  show up2 (up2 s (B + 4) (s B 2) (k + 256 * w)) B 2 (s B 2 + 1) (B + 4) (c0 + q) = fup S.2.2.2.1 S.2.2.1 k q + 256 * fup S.2.2.2.2 S.2.2.1 w q ∧ (fup S.2.2.2.1 S.2.2.1 k q ≤ 255 ∧ 0 ≤ fup S.2.2.2.1 S.2.2.1 k q) ∧ -1 ≤ fup S.2.2.2.2 S.2.2.1 w q ∧ fup S.2.2.2.2 S.2.2.1 w q ≤ 9999
  rw [eS]
  by_cases z : q = S.2.2.1
  · rw [if_pos (by omega), z, fup_s, fup_s]; exact ⟨rfl, hkk, hww⟩
  · rw [if_neg (by omega), fup_o z, fup_o z]; exact b6 q q0 (by omega)
/-- a method of the class's reader that reads as F does, from no fault -/
def CMc (D rr : Nat) (F : PSt → PSt) (lv dep : Int) (σ : Sg) (tk tw pl : Int → Int) (B : Nat) (m c0 : Int) : Prop := ∀ d, D ≤ d → ∀ (xs : List (Nat × Nat)) (t dd : Nat) (s : Sg) (S : PSt), CSx s σ tk tw pl B m c0 S → S.2.1 = 0 → c0 + S.2.2.1 ≤ S.1 → ∃ s', Ev d 224 [(68, 0), (0, lv), (0, dep)] (Wd xs t dd rr s) (0, b2i ((F S).2.1 = 0)) (Wd xs t dd rr s') ∧ CSx s' σ tk tw pl B m c0 (F S)
set_option maxRecDepth 20000 in
set_option maxHeartbeats 2000000 in
theorem sp_X7_readChain_37 (d : Nat) (hd : 1 ≤ d) (xs : List (Nat × Nat)) (t dd rr : Nat) (σ s : Sg) (D : Nat) (hD : D + 1 ≤ d) (hr : rr = 53) (F : PSt → PSt) (lv dep mo : Int) (hlv0 : 0 ≤ lv ∧ lv ≤ 3) (hmo : mo = if lv = 1 then 1 else 1000) (tk tw pl : Int → Int) (m c0 : Int) (S : PSt) (htk : ∀ i, tk i ≤ 255 ∧ 0 ≤ tk i) (hm : 0 ≤ m ∧ m ≤ 1000) (hc0 : 0 ≤ c0) (hA : ADV D rr σ tk tw pl 37 m c0) (hF : CMc D rr F (lv + 1) dep σ tk tw pl 37 m c0) (hK : PK F m) (hm0 : tk m = 0) (h : CSx s σ tk tw pl 37 m c0 S) (hf : S.2.1 = 0) (hcs : c0 + S.2.2.1 ≤ S.1) (hd2 : 2 ≤ d) : ∃ σ', Ev d 224 [(68, 0), (0, lv), (0, dep)] (Wd xs t dd rr s) (0, b2i ((lps tk F lv mo.toNat (F S)).2.1 = 0)) (Wd xs t dd rr σ') ∧ CSx σ' σ tk tw pl 37 m c0 (lps tk F lv mo.toNat (F S)) := by
  obtain ⟨d, rfl⟩ : ∃ e, d = e + 1 := ⟨d - 1, by omega⟩
  subst hr
  have h3 := h.2.2.1
  have hk1 := (hK S).2 hf h3.1 h3.2
  have hmb : mo = 1 ∨ mo = 1000 := by rw [hmo]; split <;> omega
  refine evS (nL := 6) (code := k_X7_readChain) rfl dc_X7_readChain rfl (fun E hE => ?_)
  show pCm (Ev d) k_X7_readChain E 0 [(68, 0), (0, lv), (0, dep), (9, 0), (9, 0), (9, 0)] [] _
  refine R_iload rfl rfl ?_
  refine R_push rfl ?_
  refine R_ic rfl (fun _ => ?_) (fun h2 => absurd (by omega) h2)
  refine R_aload rfl rfl rfl ?_
  refine R_iload rfl rfl ?_
  refine R_push rfl ?_
  refine R_add rfl (by omega) (by omega) ?_
  refine R_iload rfl rfl ?_
  obtain ⟨s1, hev1, hC1⟩ := hF d (by omega) xs t dd s S h hf hcs
  refine R_invv rfl rfl rfl rfl rfl rfl (hev1) rfl ?_
  show pCm _ _ _ 19 _ [(0, _)] _
  refine R_if rfl (fun h19 => ?_) (fun h19 => ?_)
  · try simp only [ne_eq, b2i_e, b2i_1, Classical.not_not] at h19
    have hz1 : (F S).2.1 = 0 := by omega
    have J36 : pCm (Ev d) k_X7_readChain E 36 [(68, 0), (0, lv), (0, dep), (9, 0), (9, 0), (9, 0)] [(0, mo)] (Wd xs t dd 53 s1) := by
      skip
      refine R_istore rfl rfl ?_
      refine R_push rfl ?_
      refine R_istore rfl rfl ?_
      refine fgt wc_X7_readChain [1, 1, 1, 1, 1, 0] ?_
      refine loop (pc := 40) (α := Int × Sg × PSt) (fun x => (mo - x.1).toNat) (fun x => ([(68, 0), (0, lv), (0, dep), (0, mo), (0, x.1), (9, 0)], Wd xs t dd 53 x.2.1)) (fun x => (0 ≤ x.1 ∧ x.1 ≤ mo) ∧ CSx x.2.1 σ tk tw pl 37 m c0 x.2.2 ∧ x.2.2.2.1 = 0 ∧ c0 + x.2.2.2.2.1 ≤ x.2.2.1 ∧ lps tk F lv (mo - x.1).toNat x.2.2 = lps tk F lv mo.toNat (F S)) ?_ (0, s1, F S) ?_
      · intro ⟨n, s2, S2⟩ ⟨hn, hC2, hf2, hcl, hlp⟩ ih
        dsimp only at hn hC2 hf2 hcl hlp ⊢
        obtain ⟨a1, a2, a3, a4, a5, a6⟩ := id hC2
        obtain ⟨b1, b2, b3, b4, b5, b6⟩ := a6 hf2
        clear a5 a6 b6
        refine R_iload rfl rfl ?_
        refine R_iload rfl rfl ?_
        refine R_ic rfl (fun h43 => ?_) (fun h43 => ?_)
        · try simp only [ne_eq, b2i_e, b2i_1, Classical.not_not] at h43
          refine R_push rfl ?_
          refine R_zret rfl (by first | exact Or.inl rfl | exact Or.inr rfl | omega | grind) ?_
          first
          | (have e : lps tk F lv mo.toNat (F S) = S2 := by rw [← hlp, show (mo - n).toNat = 0 by omega]; rfl
             exact hE _ _ (by rw [e, b2i_t hf2]) (by rw [e]; exact hC2))
          | (have e : lps tk F lv mo.toNat (F S) = S2 := by rw [← hlp, lps_n (fun w => by omega)]
             exact hE _ _ (by rw [e, b2i_t hf2]) (by rw [e]; exact hC2))
        · try simp only [ne_eq, b2i_e, b2i_1, Classical.not_not] at h43
          refine R_aload rfl rfl rfl ?_
          refine T_geti rfl rfl rfl ?_
          rw [b1]
          refine R_inv rfl rfl rfl rfl rfl (sp_X7_levelOf d (by omega) _ (tk S2.1)) rfl ?_
          show pCm _ _ _ 53 _ [(0, _)] _
          refine R_iload rfl rfl ?_
          refine R_ic rfl (fun h54 => ?_) (fun h54 => ?_)
          · try simp only [ne_eq, b2i_e, b2i_1, Classical.not_not] at h54
            refine R_push rfl ?_
            refine R_zret rfl (by first | exact Or.inl rfl | exact Or.inr rfl | omega | grind) ?_
            first
            | (have e : lps tk F lv mo.toNat (F S) = S2 := by rw [← hlp, show (mo - n).toNat = 0 by omega]; rfl
               exact hE _ _ (by rw [e, b2i_t hf2]) (by rw [e]; exact hC2))
            | (have e : lps tk F lv mo.toNat (F S) = S2 := by rw [← hlp, lps_n (fun w => by omega)]
               exact hE _ _ (by rw [e, b2i_t hf2]) (by rw [e]; exact hC2))
          · try simp only [ne_eq, b2i_e, b2i_1, Classical.not_not] at h54
            refine R_aload rfl rfl rfl ?_
            refine T_geti rfl rfl rfl ?_
            rw [b1]
            refine R_istore rfl rfl ?_
            refine R_aload rfl rfl rfl ?_
            have hne : tk S2.1 ≠ 0 := fun z => by
              have hl0 : lvo (tk S2.1) = lv := by omega
              rw [z] at hl0
              have : lvo 0 = -1 := rfl
              omega
            have hlv : lvo (tk S2.1) = lv := by omega
            obtain ⟨s3, hev3, hC3⟩ := hA d (by omega) xs t dd s2 S2 hC2 hf2 hne
            have hlt : S2.1 < m := by
              by_cases z : S2.1 = m
              · rw [z] at hne; exact absurd hm0 hne
              · omega
            have hk2 := (hK (pAd S2)).2 hf2 (show 0 ≤ S2.1 + 1 by omega) (show S2.1 + 1 ≤ m by omega)
            have g1 : (pAd S2).1 = S2.1 + 1 := rfl
            have g2 : (pAd S2).2.2.1 = S2.2.2.1 := rfl
            rw [g1, g2] at hk2
            refine R_invv rfl rfl rfl rfl rfl rfl (hev3) rfl ?_
            show pCm _ _ _ 67 _ [] _
            refine R_aload rfl rfl rfl ?_
            refine R_iload rfl rfl ?_
            refine R_push rfl ?_
            refine R_add rfl (by omega) (by omega) ?_
            refine R_iload rfl rfl ?_
            obtain ⟨s4, hev4, hC4⟩ := hF d (by omega) xs t dd s3 (pAd S2) hC3 hf2 (by rw [g1, g2]; omega)
            refine R_invv rfl rfl rfl rfl rfl rfl (hev4) rfl ?_
            show pCm _ _ _ 75 _ [(0, _)] _
            refine R_if rfl (fun h75 => ?_) (fun h75 => ?_)
            · try simp only [ne_eq, b2i_e, b2i_1, Classical.not_not] at h75
              refine R_aload rfl rfl rfl ?_
              refine T_getr (v := 53) rfl rfl rfl rfl ?_
              refine R_iload rfl rfl ?_
              refine R_push rfl ?_
              have hz4 : (F (pAd S2)).2.1 = 0 := by omega
              have hb4 := (hC4.2.2.2.2.2 hz4).2.2.2.1
              have ht4 := htk S2.1
              refine R_invv rfl rfl rfl rfl rfl rfl (sp_X8_write_37 d (by omega) xs t dd 53 s4 (tk S2.1) 0 ⟨by omega, by omega⟩ ⟨by omega, by omega⟩ ⟨by omega, by omega⟩) rfl ?_
              show pCm _ _ _ 90 _ [] _
              refine R_inc rfl rfl (by omega) (by omega) ?_
              refine R_goto rfl ?_
              refine fgt wc_X7_readChain [1, 1, 1, 1, 1, 0] ?_
              refine ih (n + 1, _, pEm (tk S2.1) 0 (F (pAd S2))) ⟨by dsimp only; omega, CS_em (k := tk S2.1) (w := 0) (by simp) hC4 hz4 (htk _) ⟨by omega, by omega⟩, hz4, ?_, ?_⟩ (by dsimp only; omega)
              · show c0 + ((F (pAd S2)).2.2.1 + 1) ≤ (F (pAd S2)).1
                omega
              · rw [← hlp]
                dsimp only
                rw [show (mo - n).toNat = (mo - (n + 1)).toNat + 1 by omega, lps_st ⟨hf2, hlv⟩, if_pos hz4]
            · try simp only [ne_eq, b2i_e, b2i_1, Classical.not_not] at h75
              refine R_push rfl ?_
              refine R_zret rfl (by first | exact Or.inl rfl | exact Or.inr rfl | omega | grind) ?_
              have hz : (F (pAd S2)).2.1 ≠ 0 := by omega
              have e : lps tk F lv mo.toNat (F S) = F (pAd S2) := by rw [← hlp, show (mo - n).toNat = (mo - (n + 1)).toNat + 1 by omega, lps_st ⟨hf2, hlv⟩, if_neg hz, lps_f hz]
              exact hE _ _ (by rw [e, b2i_f hz]) (by rw [e]; exact hC4)
      · exact ⟨by dsimp only; omega, hC1, hz1, by dsimp only; omega, by dsimp only; rw [Int.sub_zero]⟩
    refine R_iload rfl rfl ?_
    refine R_push rfl ?_
    refine R_ic rfl (fun h26 => ?_) (fun h26 => ?_)
    · try simp only [ne_eq, b2i_e, b2i_1, Classical.not_not] at h26
      refine R_push rfl ?_
      first
      | (have e : mo = 1 := by rw [hmo, if_pos (by omega)]
         rw [e] at J36
         exact J36)
      | (have e : mo = 1000 := by rw [hmo, if_neg (by omega)]
         rw [e] at J36
         exact J36)
    · try simp only [ne_eq, b2i_e, b2i_1, Classical.not_not] at h26
      refine R_push rfl ?_
      refine R_goto rfl ?_
      first
      | (have e : mo = 1 := by rw [hmo, if_pos (by omega)]
         rw [e] at J36
         exact J36)
      | (have e : mo = 1000 := by rw [hmo, if_neg (by omega)]
         rw [e] at J36
         exact J36)
  · try simp only [ne_eq, b2i_e, b2i_1, Classical.not_not] at h19
    refine R_push rfl ?_
    refine R_zret rfl (by first | exact Or.inl rfl | exact Or.inr rfl | omega | grind) ?_
    have hz : (F S).2.1 ≠ 0 := by omega
    exact hE _ _ (by rw [lps_f hz, b2i_f hz]) (by rw [lps_f hz]; exact hC1)
set_option maxRecDepth 20000 in
set_option maxHeartbeats 2000000 in
theorem sp_X7_readChain_44 (d : Nat) (hd : 1 ≤ d) (xs : List (Nat × Nat)) (t dd rr : Nat) (σ s : Sg) (D : Nat) (hD : D + 1 ≤ d) (hr : rr = 60) (F : PSt → PSt) (lv dep mo : Int) (hlv0 : 0 ≤ lv ∧ lv ≤ 3) (hmo : mo = if lv = 1 then 1 else 1000) (tk tw pl : Int → Int) (m c0 : Int) (S : PSt) (htk : ∀ i, tk i ≤ 255 ∧ 0 ≤ tk i) (hm : 0 ≤ m ∧ m ≤ 1000) (hc0 : 0 ≤ c0) (hA : ADV D rr σ tk tw pl 44 m c0) (hF : CMc D rr F (lv + 1) dep σ tk tw pl 44 m c0) (hK : PK F m) (hm0 : tk m = 0) (h : CSx s σ tk tw pl 44 m c0 S) (hf : S.2.1 = 0) (hcs : c0 + S.2.2.1 ≤ S.1) (hd2 : 2 ≤ d) : ∃ σ', Ev d 224 [(68, 0), (0, lv), (0, dep)] (Wd xs t dd rr s) (0, b2i ((lps tk F lv mo.toNat (F S)).2.1 = 0)) (Wd xs t dd rr σ') ∧ CSx σ' σ tk tw pl 44 m c0 (lps tk F lv mo.toNat (F S)) := by
  obtain ⟨d, rfl⟩ : ∃ e, d = e + 1 := ⟨d - 1, by omega⟩
  subst hr
  have h3 := h.2.2.1
  have hk1 := (hK S).2 hf h3.1 h3.2
  have hmb : mo = 1 ∨ mo = 1000 := by rw [hmo]; split <;> omega
  refine evS (nL := 6) (code := k_X7_readChain) rfl dc_X7_readChain rfl (fun E hE => ?_)
  show pCm (Ev d) k_X7_readChain E 0 [(68, 0), (0, lv), (0, dep), (9, 0), (9, 0), (9, 0)] [] _
  refine R_iload rfl rfl ?_
  refine R_push rfl ?_
  refine R_ic rfl (fun _ => ?_) (fun h2 => absurd (by omega) h2)
  refine R_aload rfl rfl rfl ?_
  refine R_iload rfl rfl ?_
  refine R_push rfl ?_
  refine R_add rfl (by omega) (by omega) ?_
  refine R_iload rfl rfl ?_
  obtain ⟨s1, hev1, hC1⟩ := hF d (by omega) xs t dd s S h hf hcs
  refine R_invv rfl rfl rfl rfl rfl rfl (hev1) rfl ?_
  show pCm _ _ _ 19 _ [(0, _)] _
  refine R_if rfl (fun h19 => ?_) (fun h19 => ?_)
  · try simp only [ne_eq, b2i_e, b2i_1, Classical.not_not] at h19
    have hz1 : (F S).2.1 = 0 := by omega
    have J36 : pCm (Ev d) k_X7_readChain E 36 [(68, 0), (0, lv), (0, dep), (9, 0), (9, 0), (9, 0)] [(0, mo)] (Wd xs t dd 60 s1) := by
      skip
      refine R_istore rfl rfl ?_
      refine R_push rfl ?_
      refine R_istore rfl rfl ?_
      refine fgt wc_X7_readChain [1, 1, 1, 1, 1, 0] ?_
      refine loop (pc := 40) (α := Int × Sg × PSt) (fun x => (mo - x.1).toNat) (fun x => ([(68, 0), (0, lv), (0, dep), (0, mo), (0, x.1), (9, 0)], Wd xs t dd 60 x.2.1)) (fun x => (0 ≤ x.1 ∧ x.1 ≤ mo) ∧ CSx x.2.1 σ tk tw pl 44 m c0 x.2.2 ∧ x.2.2.2.1 = 0 ∧ c0 + x.2.2.2.2.1 ≤ x.2.2.1 ∧ lps tk F lv (mo - x.1).toNat x.2.2 = lps tk F lv mo.toNat (F S)) ?_ (0, s1, F S) ?_
      · intro ⟨n, s2, S2⟩ ⟨hn, hC2, hf2, hcl, hlp⟩ ih
        dsimp only at hn hC2 hf2 hcl hlp ⊢
        obtain ⟨a1, a2, a3, a4, a5, a6⟩ := id hC2
        obtain ⟨b1, b2, b3, b4, b5, b6⟩ := a6 hf2
        clear a5 a6 b6
        refine R_iload rfl rfl ?_
        refine R_iload rfl rfl ?_
        refine R_ic rfl (fun h43 => ?_) (fun h43 => ?_)
        · try simp only [ne_eq, b2i_e, b2i_1, Classical.not_not] at h43
          refine R_push rfl ?_
          refine R_zret rfl (by first | exact Or.inl rfl | exact Or.inr rfl | omega | grind) ?_
          first
          | (have e : lps tk F lv mo.toNat (F S) = S2 := by rw [← hlp, show (mo - n).toNat = 0 by omega]; rfl
             exact hE _ _ (by rw [e, b2i_t hf2]) (by rw [e]; exact hC2))
          | (have e : lps tk F lv mo.toNat (F S) = S2 := by rw [← hlp, lps_n (fun w => by omega)]
             exact hE _ _ (by rw [e, b2i_t hf2]) (by rw [e]; exact hC2))
        · try simp only [ne_eq, b2i_e, b2i_1, Classical.not_not] at h43
          refine R_aload rfl rfl rfl ?_
          refine T_geti rfl rfl rfl ?_
          rw [b1]
          refine R_inv rfl rfl rfl rfl rfl (sp_X7_levelOf d (by omega) _ (tk S2.1)) rfl ?_
          show pCm _ _ _ 53 _ [(0, _)] _
          refine R_iload rfl rfl ?_
          refine R_ic rfl (fun h54 => ?_) (fun h54 => ?_)
          · try simp only [ne_eq, b2i_e, b2i_1, Classical.not_not] at h54
            refine R_push rfl ?_
            refine R_zret rfl (by first | exact Or.inl rfl | exact Or.inr rfl | omega | grind) ?_
            first
            | (have e : lps tk F lv mo.toNat (F S) = S2 := by rw [← hlp, show (mo - n).toNat = 0 by omega]; rfl
               exact hE _ _ (by rw [e, b2i_t hf2]) (by rw [e]; exact hC2))
            | (have e : lps tk F lv mo.toNat (F S) = S2 := by rw [← hlp, lps_n (fun w => by omega)]
               exact hE _ _ (by rw [e, b2i_t hf2]) (by rw [e]; exact hC2))
          · try simp only [ne_eq, b2i_e, b2i_1, Classical.not_not] at h54
            refine R_aload rfl rfl rfl ?_
            refine T_geti rfl rfl rfl ?_
            rw [b1]
            refine R_istore rfl rfl ?_
            refine R_aload rfl rfl rfl ?_
            have hne : tk S2.1 ≠ 0 := fun z => by
              have hl0 : lvo (tk S2.1) = lv := by omega
              rw [z] at hl0
              have : lvo 0 = -1 := rfl
              omega
            have hlv : lvo (tk S2.1) = lv := by omega
            obtain ⟨s3, hev3, hC3⟩ := hA d (by omega) xs t dd s2 S2 hC2 hf2 hne
            have hlt : S2.1 < m := by
              by_cases z : S2.1 = m
              · rw [z] at hne; exact absurd hm0 hne
              · omega
            have hk2 := (hK (pAd S2)).2 hf2 (show 0 ≤ S2.1 + 1 by omega) (show S2.1 + 1 ≤ m by omega)
            have g1 : (pAd S2).1 = S2.1 + 1 := rfl
            have g2 : (pAd S2).2.2.1 = S2.2.2.1 := rfl
            rw [g1, g2] at hk2
            refine R_invv rfl rfl rfl rfl rfl rfl (hev3) rfl ?_
            show pCm _ _ _ 67 _ [] _
            refine R_aload rfl rfl rfl ?_
            refine R_iload rfl rfl ?_
            refine R_push rfl ?_
            refine R_add rfl (by omega) (by omega) ?_
            refine R_iload rfl rfl ?_
            obtain ⟨s4, hev4, hC4⟩ := hF d (by omega) xs t dd s3 (pAd S2) hC3 hf2 (by rw [g1, g2]; omega)
            refine R_invv rfl rfl rfl rfl rfl rfl (hev4) rfl ?_
            show pCm _ _ _ 75 _ [(0, _)] _
            refine R_if rfl (fun h75 => ?_) (fun h75 => ?_)
            · try simp only [ne_eq, b2i_e, b2i_1, Classical.not_not] at h75
              refine R_aload rfl rfl rfl ?_
              refine T_getr (v := 60) rfl rfl rfl rfl ?_
              refine R_iload rfl rfl ?_
              refine R_push rfl ?_
              have hz4 : (F (pAd S2)).2.1 = 0 := by omega
              have hb4 := (hC4.2.2.2.2.2 hz4).2.2.2.1
              have ht4 := htk S2.1
              refine R_invv rfl rfl rfl rfl rfl rfl (sp_X8_write_44 d (by omega) xs t dd 60 s4 (tk S2.1) 0 ⟨by omega, by omega⟩ ⟨by omega, by omega⟩ ⟨by omega, by omega⟩) rfl ?_
              show pCm _ _ _ 90 _ [] _
              refine R_inc rfl rfl (by omega) (by omega) ?_
              refine R_goto rfl ?_
              refine fgt wc_X7_readChain [1, 1, 1, 1, 1, 0] ?_
              refine ih (n + 1, _, pEm (tk S2.1) 0 (F (pAd S2))) ⟨by dsimp only; omega, CS_em (k := tk S2.1) (w := 0) (by simp) hC4 hz4 (htk _) ⟨by omega, by omega⟩, hz4, ?_, ?_⟩ (by dsimp only; omega)
              · show c0 + ((F (pAd S2)).2.2.1 + 1) ≤ (F (pAd S2)).1
                omega
              · rw [← hlp]
                dsimp only
                rw [show (mo - n).toNat = (mo - (n + 1)).toNat + 1 by omega, lps_st ⟨hf2, hlv⟩, if_pos hz4]
            · try simp only [ne_eq, b2i_e, b2i_1, Classical.not_not] at h75
              refine R_push rfl ?_
              refine R_zret rfl (by first | exact Or.inl rfl | exact Or.inr rfl | omega | grind) ?_
              have hz : (F (pAd S2)).2.1 ≠ 0 := by omega
              have e : lps tk F lv mo.toNat (F S) = F (pAd S2) := by rw [← hlp, show (mo - n).toNat = (mo - (n + 1)).toNat + 1 by omega, lps_st ⟨hf2, hlv⟩, if_neg hz, lps_f hz]
              exact hE _ _ (by rw [e, b2i_f hz]) (by rw [e]; exact hC4)
      · exact ⟨by dsimp only; omega, hC1, hz1, by dsimp only; omega, by dsimp only; rw [Int.sub_zero]⟩
    refine R_iload rfl rfl ?_
    refine R_push rfl ?_
    refine R_ic rfl (fun h26 => ?_) (fun h26 => ?_)
    · try simp only [ne_eq, b2i_e, b2i_1, Classical.not_not] at h26
      refine R_push rfl ?_
      first
      | (have e : mo = 1 := by rw [hmo, if_pos (by omega)]
         rw [e] at J36
         exact J36)
      | (have e : mo = 1000 := by rw [hmo, if_neg (by omega)]
         rw [e] at J36
         exact J36)
    · try simp only [ne_eq, b2i_e, b2i_1, Classical.not_not] at h26
      refine R_push rfl ?_
      refine R_goto rfl ?_
      first
      | (have e : mo = 1 := by rw [hmo, if_pos (by omega)]
         rw [e] at J36
         exact J36)
      | (have e : mo = 1000 := by rw [hmo, if_neg (by omega)]
         rw [e] at J36
         exact J36)
  · try simp only [ne_eq, b2i_e, b2i_1, Classical.not_not] at h19
    refine R_push rfl ?_
    refine R_zret rfl (by first | exact Or.inl rfl | exact Or.inr rfl | omega | grind) ?_
    have hz : (F S).2.1 ≠ 0 := by omega
    exact hE _ _ (by rw [lps_f hz, b2i_f hz]) (by rw [lps_f hz]; exact hC1)

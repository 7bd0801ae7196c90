set_option maxRecDepth 20000 in
set_option maxHeartbeats 2000000 in
theorem sp_X0_weighAll (d : Nat) (hd : 2 ≤ d) (xs : List (Nat × Nat)) (t dd rr : Nat) (σ : Sg) (A U : Int → Int) (T : Int) (hK : KW σ A U T)  : ∃ σ', Ev d 147 [(73, 0)] (Wd xs t dd rr σ) (8, 0) (Wd xs t dd rr σ') ∧ Fr [62] [] σ σ' ∧ ∀ dn, 0 ≤ dn → dn < pShl 1 T → σ' 62 dn = nev (Lq U A T dn) := by
  obtain ⟨d, rfl⟩ : ∃ e, d = e + 1 := ⟨d - 1, by omega⟩
  obtain ⟨hK1, hK2, hK3, hK4, hK5, hK6, hK7⟩ := id hK
  have hal := al_bd hK2
  refine evS (nL := 5) (code := k_X0_weighAll) rfl dc_X0_weighAll rfl (fun E hE => ?_)
  show pCm (Ev d) k_X0_weighAll E 0 [(73, 0), (9, 0), (9, 0), (9, 0), (9, 0)] [] _
  refine R_push rfl ?_
  refine R_aload rfl rfl rfl ?_
  refine T_geti rfl rfl rfl ?_
  rw [hK1]
  refine R_bin rfl ?_
  show pCm _ _ _ _ _ ((0, pShl 1 T) :: _) _
  refine R_push rfl ?_
  refine R_sub rfl (by omega) (by omega) ?_
  refine R_istore rfl rfl ?_
  refine R_aload rfl rfl rfl ?_
  refine T_getr (v := 78) rfl rfl rfl rfl ?_
  refine R_iload rfl rfl ?_
  refine R_push rfl ?_
  refine T_iast rfl rfl (by omega) (by omega) ?_
  generalize hs0 : up2 σ 62 _ _ = s0
  refine R_iload rfl rfl ?_
  refine R_push rfl ?_
  refine R_sub rfl (by omega) (by omega) ?_
  refine R_istore rfl rfl ?_
  refine fgt wc_X0_weighAll [1, 1, 1, 0, 0] ?_
  refine loop (pc := 20) (α := Int × Sg) (fun x => (x.1 + 1).toNat) (fun x => ([(73, 0), (0, pShl 1 T - 1), (0, x.1), (9, 0), (9, 0)], Wd xs t dd rr x.2)) (fun x => (-1 ≤ x.1 ∧ x.1 < pShl 1 T - 1) ∧ Fr [62] [] σ x.2 ∧ ∀ e, x.1 < e → e < pShl 1 T → x.2 62 e = nev (Lq U A T e)) ?_ (pShl 1 T - 1 - 1, s0) ?_
  · intro ⟨dn, s1⟩ ⟨⟨hd0, hd1⟩, hF, hv⟩ ih
    dsimp only at hd0 hd1 hF hv ⊢
    have hKs := KW_fr hK hF rfl rfl rfl rfl
    have e57 := hF.row 57 rfl 5
    refine R_iload rfl rfl ?_
    refine R_if rfl (fun h21 => ?_) (fun h21 => ?_)
    · try simp only [ne_eq, b2i_e, b2i_1, Classical.not_not] at h21
      refine R_vret rfl ?_
      exact hE _ _ rfl ⟨hF, fun e e0 e1 => hv e (by omega) e1⟩
    · try simp only [ne_eq, b2i_e, b2i_1, Classical.not_not] at h21
      refine R_push rfl ?_
      refine R_istore rfl rfl ?_
      refine R_push rfl ?_
      refine R_istore rfl rfl ?_
      refine loop (pc := 30) (α := Int × Int) (fun x => (T - x.2).toNat) (fun x => ([(73, 0), (0, pShl 1 T - 1), (0, dn), (0, x.1), (0, x.2)], Wd xs t dd rr s1)) (fun x => (0 ≤ x.2 ∧ x.2 ≤ T) ∧ x.1 = nev (bstf (cnd U A T (Lq U A T) dn) x.2)) ?_ (1000000, 0) ?_
      · intro ⟨n, k⟩ ⟨⟨hk0, hk1⟩, hn⟩ ihi
        dsimp only at hk0 hk1 hn ⊢
        have hnb := fun w : k < T => nev_bst hk0 (cnd_bd (A := A) (dn := dn) hK6 hK2 ⟨hk0, w⟩) (bst_bd (A := A) (dn := dn) hK6 hK2 hk0 hk1)
        refine R_iload rfl rfl ?_
        refine R_aload rfl rfl rfl ?_
        refine T_geti rfl rfl rfl ?_
        rw [e57, hK1]
        refine R_ic rfl (fun h36 => ?_) (fun h36 => ?_)
        · try simp only [ne_eq, b2i_e, b2i_1, Classical.not_not] at h36
          refine R_aload rfl rfl rfl ?_
          refine T_getr (v := 78) rfl rfl rfl rfl ?_
          refine R_iload rfl rfl ?_
          refine R_iload rfl rfl ?_
          refine T_iast rfl rfl (by omega) (by omega) ?_
          refine R_inc rfl rfl (by omega) (by omega) ?_
          refine R_goto rfl ?_
          generalize hs3 : up2 s1 62 dn _ = s3
          refine fgt wc_X0_weighAll [1, 1, 1, 0, 0] ?_
          refine ih (dn - 1, s3) ⟨by dsimp only; omega, by rw [← hs3]; exact hF.upr rfl, fun e e0 e1 => ?_⟩ (by dsimp only; omega)
          dsimp only at e0 ⊢
          rw [← hs3]
          by_cases q : e = dn
          · rw [q, up_s, hn, show k = T by omega, Lq_e hK2 (by omega) (by omega), if_neg (by omega)]
          · rw [up_i q]; exact hv e (by omega) e1
        · try simp only [ne_eq, b2i_e, b2i_1, Classical.not_not] at h36
          refine R_iload rfl rfl ?_
          refine R_aload rfl rfl rfl ?_
          refine R_iload rfl rfl ?_
          refine R_iload rfl rfl ?_
          have hwg := sp_X0_weigh d (by omega) xs t dd rr s1 dn k A U (Lq U A T) T hKs ⟨by omega, by omega⟩ ⟨hk0, by omega⟩ (fun w => by
            have := nxt_bd hK2 ⟨by omega, by omega⟩ ⟨hk0, by omega⟩ (mc_b w).1
            exact hv _ this.1 this.2) (by have := Lq_bd (A := A) (dn := nxt dn k) hK6 hK2; omega)
          refine R_invv rfl rfl rfl rfl rfl rfl (hwg) rfl ?_
          show pCm _ _ _ 47 _ [(0, _), (0, _)] _
          refine R_inv rfl rfl rfl rfl rfl (sp_J9_min_7cf53 d (by omega) _ _ _) rfl ?_
          show pCm _ _ _ 50 _ [(0, _)] _
          refine R_istore rfl rfl ?_
          refine R_inc rfl rfl (by omega) (by omega) ?_
          refine R_goto rfl ?_
          exact ihi (_, k + 1) ⟨by dsimp only; omega, by show min n _ = _; rw [hnb (by omega), hn]⟩ (by dsimp only; omega)
      · exact ⟨by dsimp only; omega, rfl⟩
  · refine ⟨by dsimp only; omega, by rw [← hs0]; exact (Fr.rf (rows := [62]) (sl := [])).upr rfl, fun e e0 e1 => ?_⟩
    dsimp only at e0 ⊢
    have : e = pShl 1 T - 1 := by omega
    rw [this, ← hs0, up_s, Lq_e hK2 (by omega) (by omega), if_pos rfl]
    rfl
set_option maxRecDepth 20000 in
set_option maxHeartbeats 2000000 in
theorem sp_X0_hasOrder (d : Nat) (hd : 1 ≤ d) (xs : List (Nat × Nat)) (t dd rr : Nat) (σ : Sg)  : Ev d 138 [(73, 0)] (Wd xs t dd rr σ) (0, b2i (σ 57 5 ≤ 12 ∧ σ 62 0 < 1000000)) (Wd xs t dd rr σ) := by
  obtain ⟨d, rfl⟩ : ∃ e, d = e + 1 := ⟨d - 1, by omega⟩
  refine evP (nL := 1) (code := k_X0_hasOrder) rfl pb0 rfl (fun E hE => ?_)
  show pCm (Ev d) k_X0_hasOrder E 0 [(73, 0)] [] _
  refine R_aload rfl rfl rfl ?_
  refine T_geti rfl rfl rfl ?_
  refine R_push rfl ?_
  refine R_ic rfl (fun h6 => ?_) (fun h6 => ?_)
  · try simp only [ne_eq, b2i_e, b2i_1, Classical.not_not] at h6
    refine R_push rfl ?_
    refine R_zret rfl (by first | exact Or.inl rfl | exact Or.inr rfl | omega | grind) ?_
    exact hE _ (by congr 1; first | rw [b2i_t (by omega)] | rw [b2i_f (by omega)])
  · try simp only [ne_eq, b2i_e, b2i_1, Classical.not_not] at h6
    refine R_aload rfl rfl rfl ?_
    refine T_getr (v := 78) rfl rfl rfl rfl ?_
    refine R_push rfl ?_
    refine T_ald rfl rfl (by omega) (by omega) ?_
    refine R_push rfl ?_
    refine R_ic rfl (fun h17 => ?_) (fun h17 => ?_)
    · try simp only [ne_eq, b2i_e, b2i_1, Classical.not_not] at h17
      refine R_push rfl ?_
      refine R_zret rfl (by first | exact Or.inl rfl | exact Or.inr rfl | omega | grind) ?_
      exact hE _ (by congr 1; first | rw [b2i_t (by omega)] | rw [b2i_f (by omega)])
    · try simp only [ne_eq, b2i_e, b2i_1, Classical.not_not] at h17
      refine R_push rfl ?_
      refine R_goto rfl ?_
      refine R_zret rfl (by first | exact Or.inl rfl | exact Or.inr rfl | omega | grind) ?_
      exact hE _ (by congr 1; first | rw [b2i_t (by omega)] | rw [b2i_f (by omega)])
theorem good_iff {U A : Int → Int} {T dn k : Int} (hU : WB U) (hT : 0 ≤ T ∧ T ≤ 12) (hk : 0 ≤ k ∧ k < T) (hL : 0 ≤ Lq U A T dn) : nev (cnd U A T (Lq U A T) dn k) = nev (Lq U A T dn) ↔ good U A T dn k = 1 := by
  have h1 := Lq_bd (A := A) (dn := dn) hU hT
  have h2 := cnd_bd (A := A) (dn := dn) hU hT hk
  have e : nev (Lq U A T dn) = Lq U A T dn := by unfold nev; rw [if_neg (by omega)]
  rw [e]
  have hc : cnd U A T (Lq U A T) dn k = _ := rfl
  constructor
  · intro h
    have h3 : cnd U A T (Lq U A T) dn k = Lq U A T dn := by
      unfold nev at h
      split at h <;> omega
    rw [cnd] at h3
    split at h3
    · rename_i w; exact b2i_t ⟨w.1, w.2, h3⟩
    · omega
  · intro h
    obtain ⟨a, b, c⟩ := good_e h
    have h3 : cnd U A T (Lq U A T) dn k = Lq U A T dn := by
      unfold cnd; rw [if_pos ⟨a, b⟩]; exact c
    rw [h3, e]
set_option maxRecDepth 20000 in
set_option maxHeartbeats 2000000 in
theorem sp_X0_putInOrder (d : Nat) (hd : 2 ≤ d) (xs : List (Nat × Nat)) (t dd rr : Nat) (σ : Sg) (A U : Int → Int) (T : Int) (hK : KW σ A U T) (hLq : ∀ dn, 0 ≤ dn → dn < pShl 1 T → σ 62 dn = nev (Lq U A T dn)) (h0 : 0 ≤ Lq U A T 0) : ∃ σ', Ev d 149 [(73, 0)] (Wd xs t dd rr σ) (8, 0) (Wd xs t dd rr σ') ∧ Fr [63] [] σ σ' ∧ ∀ i, 0 ≤ i → i < T → σ' 63 i = pck U A T (dnz U A T i) := by
  obtain ⟨d, rfl⟩ : ∃ e, d = e + 1 := ⟨d - 1, by omega⟩
  obtain ⟨hK1, hK2, hK3, hK4, hK5, hK6, hK7⟩ := id hK
  have hal := al_bd hK2
  refine evS (nL := 4) (code := k_X0_putInOrder) rfl dc_X0_putInOrder rfl (fun E hE => ?_)
  show pCm (Ev d) k_X0_putInOrder E 0 [(73, 0), (9, 0), (9, 0), (9, 0)] [] _
  refine R_push rfl ?_
  refine R_istore rfl rfl ?_
  refine R_push rfl ?_
  refine R_istore rfl rfl ?_
  refine fgt wc_X0_putInOrder [1, 1, 1, 0] ?_
  refine loop (pc := 4) (α := Int × Sg) (fun x => (T - x.1).toNat) (fun x => ([(73, 0), (0, dnz U A T x.1), (0, x.1), (9, 0)], Wd xs t dd rr x.2)) (fun x => (0 ≤ x.1 ∧ x.1 ≤ T) ∧ Fr [63] [] σ x.2 ∧ ∀ i, 0 ≤ i → i < x.1 → x.2 63 i = pck U A T (dnz U A T i)) ?_ (0, σ) ?_
  · intro ⟨i, s1⟩ ⟨⟨hi0, hi1⟩, hF, hv⟩ ih
    dsimp only at hi0 hi1 hF hv ⊢
    have hKs := KW_fr hK hF rfl rfl rfl rfl
    have e57 := hF.row 57 rfl 5
    have hdz := dnz_ok (A := A) hK6 hK2 h0 i.toNat (by omega)
    rw [Int.toNat_of_nonneg hi0] at hdz
    have hds := dnz_s (U := U) (A := A) (T := T) hi0
    have hne : i < T → dnz U A T i ≠ pShl 1 T - 1 := fun w q => by
      have h2 := hdz.2.1
      rw [q, zc_all hK2] at h2
      omega
    have hpk : i < T → _ := fun w => pck_ok (A := A) hK6 hK2 hdz.1.1 (by have := hne w; omega) hdz.2.2
    generalize hdn : dnz U A T i = dn at *
    refine R_iload rfl rfl ?_
    refine R_aload rfl rfl rfl ?_
    refine T_geti rfl rfl rfl ?_
    rw [e57, hK1]
    refine R_ic rfl (fun h9 => ?_) (fun h9 => ?_)
    · try simp only [ne_eq, b2i_e, b2i_1, Classical.not_not] at h9
      refine R_vret rfl ?_
      exact hE _ _ rfl ⟨hF, fun q q0 q1 => hv q q0 (by omega)⟩
    · try simp only [ne_eq, b2i_e, b2i_1, Classical.not_not] at h9
      refine R_push rfl ?_
      refine R_istore rfl rfl ?_
      refine loop (pc := 14) (α := Int) (fun x => (T - x).toNat) (fun x => ([(73, 0), (0, dn), (0, i), (0, x)], Wd xs t dd rr s1)) (fun x => (0 ≤ x ∧ x < T) ∧ ∀ q, 0 ≤ q → q < x → good U A T dn q ≠ 1) ?_ 0 ?_
      · intro next ⟨⟨hn0, hn1⟩, hng⟩ ihi
        dsimp only at hn0 hn1 hng ⊢
        have hgi := good_iff (A := A) (dn := dn) hK6 hK2 ⟨hn0, hn1⟩ hdz.2.2
        refine R_iload rfl rfl ?_
        refine R_aload rfl rfl rfl ?_
        refine T_geti rfl rfl rfl ?_
        rw [e57, hK1]
        refine R_push rfl ?_
        refine R_sub rfl (by omega) (by omega) ?_
        refine R_ic rfl (fun h21 => ?_) (fun h21 => ?_)
        · try simp only [ne_eq, b2i_e, b2i_1, Classical.not_not] at h21
          have hgd : next < pck U A T dn → good U A T dn next = 1 := fun w => by
            first
            | exact hgi.mp (by assumption)
            | (have hpk := hpk (by omega)
               exfalso; omega)
          refine R_aload rfl rfl rfl ?_
          refine T_getr (v := 79) rfl rfl rfl rfl ?_
          refine R_iload rfl rfl ?_
          refine R_iload rfl rfl ?_
          refine T_iast rfl rfl (by omega) (by omega) ?_
          refine R_iload rfl rfl ?_
          refine R_push rfl ?_
          refine R_iload rfl rfl ?_
          refine R_bin rfl ?_
          refine R_bin rfl ?_
          refine R_istore rfl rfl ?_
          refine R_inc rfl rfl (by omega) (by omega) ?_
          refine R_goto rfl ?_
          generalize hs3 : up2 s1 63 i _ = s3
          have e : next = pck U A T dn := by
            have hpk := hpk (by omega)
            rcases Int.lt_trichotomy next (pck U A T dn) with w | w | w
            · exact absurd (hgd w) (hpk.2.2 next hn0 w)
            · exact w
            · exact absurd hpk.2.1 (hng _ hpk.1.1 w)
          have e2 : pOr dn (pShl 1 next) = dnz U A T (i + 1) := by rw [hds, e]; rfl
          refine fgt wc_X0_putInOrder [1, 1, 1, 0] ?_
          rw [e2]
          refine ih (i + 1, s3) ⟨by dsimp only; omega, by rw [← hs3]; exact hF.upr rfl, fun q q0 q1 => ?_⟩ (by dsimp only; omega)
          dsimp only at q1 ⊢
          rw [← hs3]
          by_cases z : q = i
          · rw [z, up_s, e, hdn]
          · rw [up_i z]; exact hv q q0 (by omega)
        · try simp only [ne_eq, b2i_e, b2i_1, Classical.not_not] at h21
          refine R_aload rfl rfl rfl ?_
          refine R_iload rfl rfl ?_
          refine R_iload rfl rfl ?_
          have hwg := sp_X0_weigh d (by omega) xs t dd rr s1 dn next A U (Lq U A T) T hKs hdz.1 ⟨hn0, hn1⟩ (fun w => by
            have := nxt_bd hK2 hdz.1 ⟨hn0, hn1⟩ (mc_b w).1
            rw [hF.row 62 rfl]
            exact hLq _ (by omega) this.2) (by have := Lq_bd (A := A) (dn := nxt dn next) hK6 hK2; omega)
          refine R_invv rfl rfl rfl rfl rfl rfl (hwg) rfl ?_
          show pCm _ _ _ 30 _ [(0, _)] _
          refine R_aload rfl rfl rfl ?_
          refine T_getr (v := 78) rfl rfl rfl rfl ?_
          refine R_iload rfl rfl ?_
          refine T_ald rfl rfl (by omega) (by omega) ?_
          rw [hF.row 62 rfl, hLq dn hdz.1.1 hdz.1.2]
          refine R_ic rfl (fun h36 => ?_) (fun h36 => ?_)
          · try simp only [ne_eq, b2i_e, b2i_1, Classical.not_not] at h36
            have hgd : next < pck U A T dn → good U A T dn next = 1 := fun w => by
              first
              | exact hgi.mp (by assumption)
              | (have hpk := hpk (by omega)
                 exfalso; omega)
            refine R_aload rfl rfl rfl ?_
            refine T_getr (v := 79) rfl rfl rfl rfl ?_
            refine R_iload rfl rfl ?_
            refine R_iload rfl rfl ?_
            refine T_iast rfl rfl (by omega) (by omega) ?_
            refine R_iload rfl rfl ?_
            refine R_push rfl ?_
            refine R_iload rfl rfl ?_
            refine R_bin rfl ?_
            refine R_bin rfl ?_
            refine R_istore rfl rfl ?_
            refine R_inc rfl rfl (by omega) (by omega) ?_
            refine R_goto rfl ?_
            generalize hs3 : up2 s1 63 i _ = s3
            have e : next = pck U A T dn := by
              have hpk := hpk (by omega)
              rcases Int.lt_trichotomy next (pck U A T dn) with w | w | w
              · exact absurd (hgd w) (hpk.2.2 next hn0 w)
              · exact w
              · exact absurd hpk.2.1 (hng _ hpk.1.1 w)
            have e2 : pOr dn (pShl 1 next) = dnz U A T (i + 1) := by rw [hds, e]; rfl
            refine fgt wc_X0_putInOrder [1, 1, 1, 0] ?_
            rw [e2]
            refine ih (i + 1, s3) ⟨by dsimp only; omega, by rw [← hs3]; exact hF.upr rfl, fun q q0 q1 => ?_⟩ (by dsimp only; omega)
            dsimp only at q1 ⊢
            rw [← hs3]
            by_cases z : q = i
            · rw [z, up_s, e, hdn]
            · rw [up_i z]; exact hv q q0 (by omega)
          · try simp only [ne_eq, b2i_e, b2i_1, Classical.not_not] at h36
            refine R_inc rfl rfl (by omega) (by omega) ?_
            refine R_goto rfl ?_
            refine ihi (next + 1) ⟨⟨by omega, by omega⟩, fun q q0 q1 => ?_⟩ (by omega)
            by_cases z : q = next
            · rw [z]; exact fun w => h36 (hgi.mpr w)
            · exact hng q q0 (by omega)
      · exact ⟨⟨by omega, by omega⟩, fun q q0 q1 => by omega⟩
  · exact ⟨by dsimp only; omega, Fr.rf, fun i i0 i1 => by dsimp only at i1; omega⟩

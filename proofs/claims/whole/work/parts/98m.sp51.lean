def qM (σ : Sg) (P J c : Int) : Int := qF P c (hsM σ) (σ 99) (cobM σ P J) (whoM σ P J) (mtM σ J) (fun f g => σ 116 (8 * f + g))
def ordM (σ : Sg) (P J c : Int) : Int → Int := ordF P c (hsM σ) (σ 99) (cobM σ P J) (whoM σ P J) (mtM σ J) (fun f g => σ 116 (8 * f + g))
def tM (σ : Sg) (P J c : Int) : Int := (gt2 P c (hsM σ) (σ 99) (cobM σ P J) (whoM σ P J) (mtM σ J) (8 * P)).1
theorem CG_M {σ s0 : Sg} {P J : Int} (hF0 : Fr [107, 111, 112] [] σ s0) (hc0 : ∀ p, 0 ≤ p → p < P → s0 111 p = cobM σ P J p ∧ s0 112 p = whoM σ P J p) : CG P (hsM s0) (s0 99) (s0 111) (s0 112) (mtM s0 J) (hsM σ) (σ 99) (cobM σ P J) (whoM σ P J) (mtM σ J) := by
  rw [hsM_fr (hF0.fn 98 rfl), mtM_fr (hF0.fn 106 rfl) (hF0.fn 102 rfl) (hF0.fn 103 rfl), hF0.fn 99 rfl]
  exact ⟨hc0, fun f _ _ => ⟨rfl, rfl, fun _ => rfl⟩⟩
def A0 (s : Sg) (P J c : Int) : Int → Int := AF P c (hsM s) (s 99) (s 111) (s 112) (mtM s J)
def U0 (s : Sg) (P J c : Int) : Int → Int := UF P c (hsM s) (s 99) (s 111) (s 112) (mtM s J) (fun f g => s 116 (8 * f + g))
theorem WB_M {σ : Sg} {P J c : Int} (hH : MH σ P J) (hT : (gtM σ P J c (8 * P)).1 ≤ 12) : WB (U0 σ P J c) := by
  have h0 := hH.2.1.1
  have hwo := wgt_ok (R := (gtM σ P J c (8 * P)).2) (T := (gtM σ P J c (8 * P)).1) (P := P) (c := c) (hs := hsM σ) (so := σ 99) (co := σ 111) (who := σ 112) (mt := mtM σ J) (cw := fun f g => σ 116 (8 * f + g)) h0 (RM_hi hH hT) (fun f f0 f1 g g0 g1 => (hH.2.2.1 f g f0 f1 g0 g1).1.2) (8 * P).toNat (by omega)
  rw [Int.toNat_of_nonneg (by omega)] at hwo
  refine ⟨hwo.1, fun k k0 k1 => ?_⟩
  have := hwo.2 k k0 k1
  show sumZ (fun j => U0 σ P J c (12 * k + j)) 12 ≤ 38400
  have e : sumZ (fun j => U0 σ P J c (12 * k + j)) 12 ≤ 120 * (8 * P) := this
  omega
theorem pOr_nxt {n k : Int} : pOr n (pShl 1 k) = nxt n k := rfl
theorem Lq_top {U A : Int → Int} {T : Int} (hT : 0 ≤ T ∧ T ≤ 12) : Lq U A T (pShl 1 T - 1) = 0 := by
  have := al_bd hT
  rw [Lq_e hT (by omega) (by omega), if_pos rfl]
theorem mc_top {A : Int → Int} {T k : Int} (hT : 0 ≤ T ∧ T ≤ 12) (hk : 0 ≤ k ∧ k < T) : mc A k (pShl 1 T - 1) = 0 := b2i_f (fun w => by have := al_bx hT hk; omega)
set_option maxRecDepth 20000 in
set_option maxHeartbeats 2000000 in
theorem sp_X10_quarrel (d : Nat) (hd : 5 ≤ d) (xs : List (Nat × Nat)) (t dd rr : Nat) (σ : Sg) (c P J : Int) (hH0 : MH0 σ P J) : ∃ σ', Ev d 101 [(87, 0), (0, c)] (Wd xs t dd rr σ) (0, qM σ P J c) (Wd xs t dd rr σ') ∧ Fr [107, 111, 112, 113, 114, 115, 117, 118] [(71, 55)] σ σ' ∧ (∀ p, 0 ≤ p → p < P → σ' 111 p = cobM σ P J p ∧ σ' 112 p = whoM σ P J p) ∧ σ' 71 55 = tM σ P J c ∧ (0 ≤ qM σ P J c → ∀ i, 0 ≤ i → i < tM σ P J c → σ' 118 i = ordM σ P J c i) := by
  obtain ⟨d, rfl⟩ : ∃ e, d = e + 1 := ⟨d - 1, by omega⟩
  refine evS (nL := 7) (code := k_X10_quarrel) rfl dc_X10_quarrel rfl (fun E hE => ?_)
  show pCm (Ev d) k_X10_quarrel E 0 [(87, 0), (0, c), (9, 0), (9, 0), (9, 0), (9, 0), (9, 0)] [] _
  refine R_aload rfl rfl rfl ?_
  refine R_iload rfl rfl ?_
  obtain ⟨s1, hev1, s0, hF0, hc0, hF1, hR1⟩ := sp_X10_findBlows d (by omega) xs t dd rr σ c P J hH0
  have hH := MH_of hH0 hF0 hc0
  have hCG := CG_M hF0 hc0
  have hqe := qF_c (c := c) (cw := fun f g => s0 116 (8 * f + g)) (cw' := (fun f g => σ 116 (8 * f + g))) hH.2.1 hCG (fun f f0 f1 g g0 g1 => ⟨by rw [hF0.row 116 rfl], (hH.2.2.1 f g f0 f1 g0 g1).2⟩)
  have hte : tM σ P J c = (gtM s0 P J c (8 * P)).1 := by unfold tM gtM; rw [gt2_c hH.2.1 hCG]
  have hqM : qM σ P J c = if (gtM s0 P J c (8 * P)).1 ≤ 12 then Lq (U0 s0 P J c) (A0 s0 P J c) (gtM s0 P J c (8 * P)).1 0 else -2 := hqe.1.symm
  have hoM : ∀ i, ordM σ P J c i = (gtM s0 P J c (8 * P)).2 (pck (U0 s0 P J c) (A0 s0 P J c) (gtM s0 P J c (8 * P)).1 (dnz (U0 s0 P J c) (A0 s0 P J c) (gtM s0 P J c (8 * P)).1 i)) := fun i => congrFun hqe.2.symm i
  have hF1m : Fm s0 s1 := hF1.tr (r2 := []) (s2 := []) Fr.rf rfl rfl
  have hT0 : 0 ≤ (gtM s0 P J c (8 * P)).1 := (gt2_ok (c := c) (hs := hsM s0) (so := s0 99) (co := s0 111) (who := s0 112) (mt := mtM s0 J) hH.2.1.1).1
  have hR11 := hR1.1
  refine R_invv rfl rfl rfl rfl rfl rfl (hev1) rfl ?_
  show pCm _ _ _ 5 _ [] _
  refine R_aload rfl rfl rfl ?_
  refine T_geti rfl rfl rfl ?_
  refine R_push rfl ?_
  refine R_ic rfl (fun h11 => ?_) (fun h11 => ?_)
  · try simp only [ne_eq, b2i_e, b2i_1, Classical.not_not] at h11
    refine R_aload rfl rfl rfl ?_
    have hRM : RM s1 s0 P J c := ⟨hR1.1, ⟨hT0, by omega⟩, hR1.2⟩
    obtain ⟨s2, hev2, hF2, hA2⟩ := sp_X10_findSure d (by omega) xs t dd rr s0 s1 c P J hH hF1m hRM
    have hF2m : Fm s0 s2 := hF1m.tr hF2 rfl rfl
    have hR2 : RM s2 s0 P J c := RM_fr hRM (hF2.row 71 rfl 55) (hF2.fn 113 rfl)
    refine R_invv rfl rfl rfl rfl rfl rfl (hev2) rfl ?_
    show pCm _ _ _ 21 _ [] _
    refine R_aload rfl rfl rfl ?_
    refine R_iload rfl rfl ?_
    obtain ⟨s3, hev3, hF3, hU3'⟩ := sp_X10_findWeights d (by omega) xs t dd rr s0 s2 c P J hH hF2m hR2
    have hF3m : Fm s0 s3 := hF2m.tr hF3 rfl rfl
    have hR3 : RM s3 s0 P J c := RM_fr hR2 (hF3.row 71 rfl 55) (hF3.fn 113 rfl)
    have hA3 : ∀ k, 0 ≤ k → k < (gtM s0 P J c (8 * P)).1 → s3 114 k = A0 s0 P J c k := fun k k0 k1 => by rw [hF3.row 114 rfl]; exact hA2 k k0 k1
    have hU3 : ∀ i, 0 ≤ i → i < 144 → s3 115 i = U0 s0 P J c i := hU3'
    clear hU3'
    have hW := WB_M (c := c) hH hRM.2.1.2
    rw [if_pos hRM.2.1.2] at hqM
    obtain ⟨hRa, hRb, hRc⟩ := hR3
    have hal := al_bd hRb
    have hLb := fun dn => Lq_bd (A := A0 s0 P J c) (dn := dn) hW hRb
    generalize U0 s0 P J c = U at *
    generalize A0 s0 P J c = A at *
    generalize (gtM s0 P J c (8 * P)).1 = T at *
    generalize (gtM s0 P J c (8 * P)).2 = R at *
    refine R_invv rfl rfl rfl rfl rfl rfl (hev3) rfl ?_
    show pCm _ _ _ 26 _ [] _
    refine R_push rfl ?_
    refine R_aload rfl rfl rfl ?_
    refine T_geti rfl rfl rfl ?_
    rw [hRa]
    refine R_bin rfl ?_
    show pCm _ _ _ _ _ ((0, pShl 1 T) :: _) _
    refine R_push rfl ?_
    refine R_sub rfl (by omega) (by omega) ?_
    refine R_istore rfl rfl ?_
    show pCm _ _ _ _ [_, _, _, _, _, _, _] _ _
    refine R_iload rfl rfl ?_
    refine R_istore rfl rfl ?_
    show pCm _ _ _ _ [_, _, _, _, _, _, _] _ _
    refine fgt wc_X10_quarrel [1, 1, 1, 1, 0, 0, 0] ?_
    refine loop (pc := 37) (α := Int × Sg) (fun x => (x.1 + 1).toNat) (fun x => ([(87, 0), (0, c), (0, pShl 1 T - 1), (0, x.1), (9, 0), (9, 0), (9, 0)], Wd xs t dd rr x.2)) (fun x => (-1 ≤ x.1 ∧ x.1 < pShl 1 T) ∧ Fr [117] [] s3 x.2 ∧ ∀ e, x.1 < e → e < pShl 1 T → x.2 117 e = Lq U A T e) ?_ (pShl 1 T - 1, s3) ?_
    · intro ⟨dn, s4⟩ ⟨⟨hd0, hd1⟩, hF4, hv⟩ ih
      dsimp only at hd0 hd1 hF4 hv ⊢
      have e55 := hF4.row 71 rfl 55
      refine R_iload rfl rfl ?_
      refine R_if rfl (fun h38 => ?_) (fun h38 => ?_)
      · try simp only [ne_eq, b2i_e, b2i_1, Classical.not_not] at h38
        refine R_push rfl ?_
        refine R_istore rfl rfl ?_
        show pCm _ _ _ _ [_, _, _, _, _, _, _] _ _
        refine R_push rfl ?_
        refine R_istore rfl rfl ?_
        show pCm _ _ _ _ [_, _, _, _, _, _, _] _ _
        refine fgt wc_X10_quarrel [1, 1, 1, 1, 1, 0, 0] ?_
        refine loop (pc := 156) (α := Int × Sg) (fun x => (T - x.1).toNat) (fun x => ([(87, 0), (0, c), (0, pShl 1 T - 1), (0, dnz U A T x.1), (0, x.1), (9, 0), (9, 0)], Wd xs t dd rr x.2)) (fun x => (0 ≤ x.1 ∧ x.1 ≤ T) ∧ Fr [117, 118] [] s3 x.2 ∧ (∀ e, 0 ≤ e → e < pShl 1 T → x.2 117 e = Lq U A T e) ∧ (x.1 = 0 ∨ 0 ≤ Lq U A T 0) ∧ ∀ i, 0 ≤ i → i < x.1 → x.2 118 i = R (pck U A T (dnz U A T i))) ?_ (0, s4) ?_
        · clear ih
          intro ⟨i, s5⟩ ⟨⟨hi0, hi1⟩, hF5, hv5, hi2, ho⟩ ih
          dsimp only at hi0 hi1 hF5 hv5 hi2 ho ⊢
          have e55 := hF5.row 71 rfl 55
          have e117 := hv5 0 (by omega) (by omega)
          have hds := dnz_s (U := U) (A := A) (T := T) hi0
          have hdz : 0 ≤ Lq U A T 0 → _ := fun w => dnz_ok (A := A) hW hRb w i.toNat (by omega)
          rw [Int.toNat_of_nonneg hi0] at hdz
          have hne : 0 ≤ Lq U A T 0 → i < T → dnz U A T i ≠ pShl 1 T - 1 := fun w0 w q => by
            have h2 := (hdz w0).2.1
            rw [q, zc_all hRb] at h2
            omega
          have hpk : 0 ≤ Lq U A T 0 → i < T → _ := fun w0 w => pck_ok (A := A) hW hRb (hdz w0).1.1 (by have := hne w0 w; have := (hdz w0).1; omega) (hdz w0).2.2
          generalize hdn : dnz U A T i = dn at *
          refine R_iload rfl rfl ?_
          refine R_aload rfl rfl rfl ?_
          refine T_geti rfl rfl rfl ?_
          rw [e55, hRa]
          refine R_ic rfl (fun h162 => ?_) (fun h162 => ?_)
          · try simp only [ne_eq, b2i_e, b2i_1, Classical.not_not] at h162
            refine R_aload rfl rfl rfl ?_
            refine T_getr (v := 133) rfl rfl rfl rfl ?_
            refine R_push rfl ?_
            refine T_ald rfl rfl (by omega) (by omega) ?_
            rw [e117]
            refine R_iret rfl ?_
            have hq0 : qM σ P J c = Lq U A T 0 := hqM
            refine hE _ _ (by rw [hq0]) ⟨((hF0.tr (r3 := [107, 111, 112, 113, 114, 115, 117, 118]) (s3 := [(71, 55)]) hF3m rfl rfl).tr hF5 rfl rfl), fun p p0 p1 => by rw [hF5.row 111 rfl, hF5.row 112 rfl, hF3m.row 111 rfl, hF3m.row 112 rfl]; exact hc0 p p0 p1, by rw [hte, hF5.row 71 rfl, hRa], fun w j j0 j1 => ?_⟩
            rw [hoM]
            rw [hte] at j1
            exact ho j j0 (by omega)
          · try simp only [ne_eq, b2i_e, b2i_1, Classical.not_not] at h162
            refine R_aload rfl rfl rfl ?_
            refine T_getr (v := 133) rfl rfl rfl rfl ?_
            refine R_push rfl ?_
            refine T_ald rfl rfl (by omega) (by omega) ?_
            rw [e117]
            refine R_if rfl (fun h171 => ?_) (fun h171 => ?_)
            · try simp only [ne_eq, b2i_e, b2i_1, Classical.not_not] at h171
              refine R_aload rfl rfl rfl ?_
              refine T_getr (v := 133) rfl rfl rfl rfl ?_
              refine R_push rfl ?_
              refine T_ald rfl rfl (by omega) (by omega) ?_
              rw [e117]
              refine R_iret rfl ?_
              have hq0 : qM σ P J c = Lq U A T 0 := hqM
              refine hE _ _ (by rw [hq0]) ⟨((hF0.tr (r3 := [107, 111, 112, 113, 114, 115, 117, 118]) (s3 := [(71, 55)]) hF3m rfl rfl).tr hF5 rfl rfl), fun p p0 p1 => by rw [hF5.row 111 rfl, hF5.row 112 rfl, hF3m.row 111 rfl, hF3m.row 112 rfl]; exact hc0 p p0 p1, by rw [hte, hF5.row 71 rfl, hRa], fun w j j0 j1 => ?_⟩
              rw [hoM]
              rw [hte] at j1
              exact ho j j0 (by omega)
            · try simp only [ne_eq, b2i_e, b2i_1, Classical.not_not] at h171
              have hdz := hdz (by omega)
              have hpk := hpk (by omega) (by omega)
              refine R_push rfl ?_
              refine R_istore rfl rfl ?_
              show pCm _ _ _ _ [_, _, _, _, _, _, _] _ _
              refine loop (pc := 177) (α := Int) (fun x => (T - x).toNat) (fun x => ([(87, 0), (0, c), (0, pShl 1 T - 1), (0, dn), (0, i), (0, x), (9, 0)], Wd xs t dd rr s5)) (fun x => (0 ≤ x ∧ x ≤ pck U A T dn) ∧ ∀ q, 0 ≤ q → q < x → good U A T dn q ≠ 1) ?_ 0 ?_
              · intro k ⟨⟨hk0, hk1⟩, hng⟩ ihi
                dsimp only at hk0 hk1 hng ⊢
                have hkT : k < T := by omega
                have hm01 := mc_01 (A := A) (k := k) (dn := dn)
                have hLk := hLb (nxt dn k)
                have hlo := los_bd (dn := dn) hW hRb (k := k) ⟨hk0, by omega⟩ T hRb.1 (Int.le_refl _)
                have hnx : mc A k dn = 1 → s5 117 (nxt dn k) = Lq U A T (nxt dn k) ∧ 0 ≤ nxt dn k ∧ nxt dn k < pShl 1 T := fun w => by
                  have := nxt_bd hRb hdz.1 ⟨hk0, hkT⟩ (mc_b w).1
                  exact ⟨hv5 _ (by omega) this.2, by omega, this.2⟩
                have hgd : good U A T dn k = 1 ∧ (mc A k dn = 1 ∧ 0 ≤ Lq U A T (nxt dn k) ∧ los U T k dn + Lq U A T (nxt dn k) = Lq U A T dn) ∨ good U A T dn k = 0 ∧ ¬ (mc A k dn = 1 ∧ 0 ≤ Lq U A T (nxt dn k) ∧ los U T k dn + Lq U A T (nxt dn k) = Lq U A T dn) := b2i_or
                refine R_aload rfl rfl rfl ?_
                refine R_iload rfl rfl ?_
                refine R_iload rfl rfl ?_
                have hmc := sp_X10_mayComeA d (by omega) xs t dd rr s5 k dn A ⟨by omega, by omega⟩ (by rw [hF5.row 114 rfl]; exact hA3 k (by omega) (by omega))
                refine R_invv rfl rfl rfl rfl rfl rfl (hmc) rfl ?_
                show pCm _ _ _ 184 _ [(0, _)] _
                refine R_if rfl (fun h184 => ?_) (fun h184 => ?_)
                · try simp only [ne_eq, b2i_e, b2i_1, Classical.not_not] at h184
                  refine R_inc rfl rfl (by omega) (by omega) ?_
                  show pCm _ _ _ _ [_, _, _, _, _, _, _] _ _
                  refine R_goto rfl ?_
                  have hg0 : good U A T dn k = 0 := by omega
                  have hkp : k ≠ pck U A T dn := fun w => by rw [w] at hg0; omega
                  refine ihi (k + 1) ⟨⟨by omega, by omega⟩, fun q q0 q1 => ?_⟩ (by omega)
                  by_cases z : q = k
                  · rw [z]; omega
                  · exact hng q q0 (by omega)
                · try simp only [ne_eq, b2i_e, b2i_1, Classical.not_not] at h184
                  have hnx1 := hnx (by omega)
                  refine R_aload rfl rfl rfl ?_
                  refine T_getr (v := 133) rfl rfl rfl rfl ?_
                  refine R_iload rfl rfl ?_
                  refine R_push rfl ?_
                  refine R_iload rfl rfl ?_
                  refine R_bin rfl ?_
                  refine R_bin rfl ?_
                  rw [pOr_nxt]
                  refine T_ald rfl rfl (by omega) (by omega) ?_
                  rw [hnx1.1]
                  refine R_if rfl (fun h198 => ?_) (fun h198 => ?_)
                  · try simp only [ne_eq, b2i_e, b2i_1, Classical.not_not] at h198
                    refine R_inc rfl rfl (by omega) (by omega) ?_
                    show pCm _ _ _ _ [_, _, _, _, _, _, _] _ _
                    refine R_goto rfl ?_
                    have hg0 : good U A T dn k = 0 := by omega
                    have hkp : k ≠ pck U A T dn := fun w => by rw [w] at hg0; omega
                    refine ihi (k + 1) ⟨⟨by omega, by omega⟩, fun q q0 q1 => ?_⟩ (by omega)
                    by_cases z : q = k
                    · rw [z]; omega
                    · exact hng q q0 (by omega)
                  · try simp only [ne_eq, b2i_e, b2i_1, Classical.not_not] at h198
                    refine R_aload rfl rfl rfl ?_
                    refine R_iload rfl rfl ?_
                    refine R_iload rfl rfl ?_
                    have hls := sp_X10_loses d (by omega) xs t dd rr s5 k dn U T (by rw [hF5.row 71 rfl]; exact hRa) hRb (by rw [hF5.fn 115 rfl]; exact hU3) hW ⟨by omega, by omega⟩
                    refine R_invv rfl rfl rfl rfl rfl rfl (hls) rfl ?_
                    show pCm _ _ _ 208 _ [(0, _)] _
                    refine R_aload rfl rfl rfl ?_
                    refine T_getr (v := 133) rfl rfl rfl rfl ?_
                    refine R_iload rfl rfl ?_
                    refine R_push rfl ?_
                    refine R_iload rfl rfl ?_
                    refine R_bin rfl ?_
                    refine R_bin rfl ?_
                    rw [pOr_nxt]
                    refine T_ald rfl rfl (by omega) (by omega) ?_
                    rw [hnx1.1]
                    refine R_add rfl (by omega) (by omega) ?_
                    refine R_aload rfl rfl rfl ?_
                    refine T_getr (v := 133) rfl rfl rfl rfl ?_
                    refine R_iload rfl rfl ?_
                    refine T_ald rfl rfl (by omega) (by omega) ?_
                    rw [hv5 dn hdz.1.1 hdz.1.2]
                    refine R_ic rfl (fun h226 => ?_) (fun h226 => ?_)
                    · try simp only [ne_eq, b2i_e, b2i_1, Classical.not_not] at h226
                      have hek : k = pck U A T dn := by
                        by_cases w : k < pck U A T dn
                        · exact absurd (by omega) (hpk.2.2 k hk0 w)
                        · omega
                      refine R_aload rfl rfl rfl ?_
                      refine T_getr (v := 134) rfl rfl rfl rfl ?_
                      refine R_iload rfl rfl ?_
                      refine R_aload rfl rfl rfl ?_
                      refine T_getr (v := 129) rfl rfl rfl rfl ?_
                      refine R_iload rfl rfl ?_
                      refine T_ald rfl rfl (by omega) (by omega) ?_
                      rw [hF5.row 113 rfl, hRc k (by omega) (by omega)]
                      refine T_iast rfl rfl (by omega) (by omega) ?_
                      refine R_iload rfl rfl ?_
                      refine R_push rfl ?_
                      refine R_iload rfl rfl ?_
                      refine R_bin rfl ?_
                      refine R_bin rfl ?_
                      refine R_istore rfl rfl ?_
                      show pCm _ _ _ _ [_, _, _, _, _, _, _] _ _
                      refine R_inc rfl rfl (by omega) (by omega) ?_
                      show pCm _ _ _ _ [_, _, _, _, _, _, _] _ _
                      refine R_goto rfl ?_
                      generalize hs6 : up2 s5 118 i _ = s6
                      refine fgt wc_X10_quarrel [1, 1, 1, 1, 1, 0, 0] ?_
                      have e2 : pOr dn (pShl 1 k) = dnz U A T (i + 1) := by rw [hds, ← hek]; rfl
                      rw [e2]
                      refine ih (i + 1, s6) ⟨by dsimp only; omega, by rw [← hs6]; exact hF5.upr rfl, fun e e0 e1 => by dsimp only; rw [← hs6, up_k (by decide)]; exact hv5 e e0 e1, Or.inr (by omega), fun q q0 q1 => ?_⟩ (by dsimp only; omega)
                      dsimp only at q1 ⊢
                      rw [← hs6]
                      by_cases z : q = i
                      · rw [z, up_s, hek, hdn]
                      · rw [up_i z]; exact ho q q0 (by omega)
                    · try simp only [ne_eq, b2i_e, b2i_1, Classical.not_not] at h226
                      refine R_inc rfl rfl (by omega) (by omega) ?_
                      show pCm _ _ _ _ [_, _, _, _, _, _, _] _ _
                      refine R_goto rfl ?_
                      have hg0 : good U A T dn k = 0 := by omega
                      have hkp : k ≠ pck U A T dn := fun w => by rw [w] at hg0; omega
                      refine ihi (k + 1) ⟨⟨by omega, by omega⟩, fun q q0 q1 => ?_⟩ (by omega)
                      by_cases z : q = k
                      · rw [z]; omega
                      · exact hng q q0 (by omega)
              · exact ⟨⟨by omega, by omega⟩, fun q q0 q1 => by omega⟩
        · exact ⟨⟨Int.le_refl _, hRb.1⟩, hF4.tr (r2 := []) (s2 := []) (r3 := [117, 118]) (s3 := []) Fr.rf rfl rfl, fun e e0 e1 => hv e (by omega) e1, Or.inl rfl, fun q q0 q1 => by dsimp only at q1; omega⟩
      · try simp only [ne_eq, b2i_e, b2i_1, Classical.not_not] at h38
        have J51 : ∀ b0 : Int, b0 = (if dn = pShl 1 T - 1 then 0 else bstf (cnd U A T (Lq U A T) dn) 0) → pCm (Ev d) k_X10_quarrel E 51 [(87, 0), (0, c), (0, pShl 1 T - 1), (0, dn), (9, 0), (9, 0), (9, 0)] [(0, b0)] (Wd xs t dd rr s4) := by
          intro b0 hb0
          refine R_istore rfl rfl ?_
          show pCm _ _ _ _ [_, _, _, _, _, _, _] _ _
          refine R_push rfl ?_
          refine R_istore rfl rfl ?_
          show pCm _ _ _ _ [_, _, _, _, _, _, _] _ _
          refine fgt wc_X10_quarrel [1, 1, 1, 1, 1, 1, 0] ?_
          refine loop (pc := 56) (α := Int × Int) (fun x => (T - x.2).toNat) (fun x => ([(87, 0), (0, c), (0, pShl 1 T - 1), (0, dn), (0, x.1), (0, x.2), (9, 0)], Wd xs t dd rr s4)) (fun x => (0 ≤ x.2 ∧ x.2 ≤ T) ∧ x.1 = (if dn = pShl 1 T - 1 then 0 else bstf (cnd U A T (Lq U A T) dn) x.2)) ?_ (b0, 0) ?_
          · intro ⟨n, k⟩ ⟨⟨hk0, hk1⟩, hn⟩ ihi
            dsimp only at hk0 hk1 hn ⊢
            have hbs := bstf_s (c := cnd U A T (Lq U A T) dn) hk0
            have hm01 := mc_01 (A := A) (k := k) (dn := dn)
            have hmt : k < T → dn = pShl 1 T - 1 → mc A k dn = 0 := fun w z => by rw [z]; exact mc_top hRb ⟨hk0, w⟩
            have hLk := hLb (nxt dn k)
            have hbd := bst_bd (A := A) (dn := dn) hW hRb hk0 hk1
            have hlo : k < T → _ := fun w => los_bd (dn := dn) hW hRb (k := k) ⟨hk0, by omega⟩ T hRb.1 (Int.le_refl _)
            have hnx : mc A k dn = 1 → k < T → s4 117 (nxt dn k) = Lq U A T (nxt dn k) ∧ 0 ≤ nxt dn k ∧ nxt dn k < pShl 1 T := fun w z => by
              have := nxt_bd hRb ⟨by omega, by omega⟩ ⟨hk0, z⟩ (mc_b w).1
              exact ⟨hv _ this.1 this.2, by omega, this.2⟩
            have hcd : (mc A k dn = 1 ∧ 0 ≤ Lq U A T (nxt dn k) ∧ cnd U A T (Lq U A T) dn k = los U T k dn + Lq U A T (nxt dn k)) ∨ (¬ (mc A k dn = 1 ∧ 0 ≤ Lq U A T (nxt dn k)) ∧ cnd U A T (Lq U A T) dn k = -1) := by
              unfold cnd
              by_cases w : mc A k dn = 1 ∧ 0 ≤ Lq U A T (nxt dn k)
              · rw [if_pos w]; exact Or.inl ⟨w.1, w.2, rfl⟩
              · rw [if_neg w]; exact Or.inr ⟨w, rfl⟩
            have hn2 : (dn = pShl 1 T - 1 ∧ n = 0) ∨ (dn ≠ pShl 1 T - 1 ∧ n = bstf (cnd U A T (Lq U A T) dn) k) := by
              rw [hn]; split <;> omega
            have hb2 : (bstf (cnd U A T (Lq U A T) dn) (k + 1) = cnd U A T (Lq U A T) dn k ∧ (0 ≤ cnd U A T (Lq U A T) dn k ∧ (bstf (cnd U A T (Lq U A T) dn) k < 0 ∨ cnd U A T (Lq U A T) dn k < bstf (cnd U A T (Lq U A T) dn) k))) ∨ (bstf (cnd U A T (Lq U A T) dn) (k + 1) = bstf (cnd U A T (Lq U A T) dn) k ∧ ¬ (0 ≤ cnd U A T (Lq U A T) dn k ∧ (bstf (cnd U A T (Lq U A T) dn) k < 0 ∨ cnd U A T (Lq U A T) dn k < bstf (cnd U A T (Lq U A T) dn) k))) := by
              rw [hbs]; split <;> omega
            clear hbs hn
            refine R_iload rfl rfl ?_
            refine R_aload rfl rfl rfl ?_
            refine T_geti rfl rfl rfl ?_
            rw [e55, hRa]
            refine R_ic rfl (fun h62 => ?_) (fun h62 => ?_)
            · try simp only [ne_eq, b2i_e, b2i_1, Classical.not_not] at h62
              refine R_aload rfl rfl rfl ?_
              refine T_getr (v := 133) rfl rfl rfl rfl ?_
              refine R_iload rfl rfl ?_
              refine R_iload rfl rfl ?_
              refine T_iast rfl rfl (by omega) (by omega) ?_
              refine R_inc rfl rfl (by omega) (by omega) ?_
              show pCm _ _ _ _ [_, _, _, _, _, _, _] _ _
              refine R_goto rfl ?_
              generalize hs5 : up2 s4 117 dn _ = s5
              refine fgt wc_X10_quarrel [1, 1, 1, 1, 0, 0, 0] ?_
              refine ih (dn - 1, s5) ⟨by dsimp only; omega, by rw [← hs5]; exact hF4.upr rfl, fun e e0 e1 => ?_⟩ (by dsimp only; omega)
              dsimp only at e0 ⊢
              rw [← hs5]
              by_cases q : e = dn
              · rw [q, up_s]
                rcases hn2 with w | w
                · rw [w.2, w.1, Lq_top hRb]
                · rw [w.2, show k = T by omega, Lq_e hRb (by omega) (by omega), if_neg w.1]
              · rw [up_i q]; exact hv e (by omega) e1
            · try simp only [ne_eq, b2i_e, b2i_1, Classical.not_not] at h62
              refine R_aload rfl rfl rfl ?_
              refine R_iload rfl rfl ?_
              refine R_iload rfl rfl ?_
              have hmc := sp_X10_mayComeA d (by omega) xs t dd rr s4 k dn A ⟨by omega, by omega⟩ (by rw [hF4.row 114 rfl]; exact hA3 k (by omega) (by omega))
              refine R_invv rfl rfl rfl rfl rfl rfl (hmc) rfl ?_
              show pCm _ _ _ 72 _ [(0, _)] _
              refine R_if rfl (fun h72 => ?_) (fun h72 => ?_)
              · try simp only [ne_eq, b2i_e, b2i_1, Classical.not_not] at h72
                refine R_inc rfl rfl (by omega) (by omega) ?_
                show pCm _ _ _ _ [_, _, _, _, _, _, _] _ _
                refine R_goto rfl ?_
                refine fgt wc_X10_quarrel [1, 1, 1, 1, 1, 1, 0] ?_
                have hmt := hmt (by omega)
                first
                | (refine ihi (los U T k dn + Lq U A T (nxt dn k), k + 1) ⟨by dsimp only; omega, ?_⟩ (by dsimp only; omega)
                   show los U T k dn + Lq U A T (nxt dn k) = if dn = pShl 1 T - 1 then 0 else bstf (cnd U A T (Lq U A T) dn) (k + 1)
                   rw [if_neg (by omega)]; omega)
                | (refine ihi (n, k + 1) ⟨by dsimp only; omega, ?_⟩ (by dsimp only; omega)
                   show n = if dn = pShl 1 T - 1 then 0 else bstf (cnd U A T (Lq U A T) dn) (k + 1)
                   split <;> omega)
              · try simp only [ne_eq, b2i_e, b2i_1, Classical.not_not] at h72
                have hnx1 := hnx (by omega) (by omega)
                have hlo1 := hlo (by omega)
                refine R_aload rfl rfl rfl ?_
                refine T_getr (v := 133) rfl rfl rfl rfl ?_
                refine R_iload rfl rfl ?_
                refine R_push rfl ?_
                refine R_iload rfl rfl ?_
                refine R_bin rfl ?_
                refine R_bin rfl ?_
                rw [pOr_nxt]
                refine T_ald rfl rfl (by omega) (by omega) ?_
                rw [hnx1.1]
                refine R_if rfl (fun h86 => ?_) (fun h86 => ?_)
                · try simp only [ne_eq, b2i_e, b2i_1, Classical.not_not] at h86
                  refine R_inc rfl rfl (by omega) (by omega) ?_
                  show pCm _ _ _ _ [_, _, _, _, _, _, _] _ _
                  refine R_goto rfl ?_
                  refine fgt wc_X10_quarrel [1, 1, 1, 1, 1, 1, 0] ?_
                  have hmt := hmt (by omega)
                  first
                  | (refine ihi (los U T k dn + Lq U A T (nxt dn k), k + 1) ⟨by dsimp only; omega, ?_⟩ (by dsimp only; omega)
                     show los U T k dn + Lq U A T (nxt dn k) = if dn = pShl 1 T - 1 then 0 else bstf (cnd U A T (Lq U A T) dn) (k + 1)
                     rw [if_neg (by omega)]; omega)
                  | (refine ihi (n, k + 1) ⟨by dsimp only; omega, ?_⟩ (by dsimp only; omega)
                     show n = if dn = pShl 1 T - 1 then 0 else bstf (cnd U A T (Lq U A T) dn) (k + 1)
                     split <;> omega)
                · try simp only [ne_eq, b2i_e, b2i_1, Classical.not_not] at h86
                  refine R_aload rfl rfl rfl ?_
                  refine R_iload rfl rfl ?_
                  refine R_iload rfl rfl ?_
                  have hls := sp_X10_loses d (by omega) xs t dd rr s4 k dn U T (by rw [hF4.row 71 rfl]; exact hRa) hRb (by rw [hF4.fn 115 rfl]; exact hU3) hW ⟨by omega, by omega⟩
                  refine R_invv rfl rfl rfl rfl rfl rfl (hls) rfl ?_
                  show pCm _ _ _ 96 _ [(0, _)] _
                  refine R_aload rfl rfl rfl ?_
                  refine T_getr (v := 133) rfl rfl rfl rfl ?_
                  refine R_iload rfl rfl ?_
                  refine R_push rfl ?_
                  refine R_iload rfl rfl ?_
                  refine R_bin rfl ?_
                  refine R_bin rfl ?_
                  rw [pOr_nxt]
                  refine T_ald rfl rfl (by omega) (by omega) ?_
                  rw [hnx1.1]
                  refine R_add rfl (by omega) (by omega) ?_
                  refine R_istore rfl rfl ?_
                  show pCm _ _ _ _ [_, _, _, _, _, _, _] _ _
                  refine R_iload rfl rfl ?_
                  refine R_if rfl (fun h112 => ?_) (fun h112 => ?_)
                  · try simp only [ne_eq, b2i_e, b2i_1, Classical.not_not] at h112
                    refine R_iload rfl rfl ?_
                    refine R_goto rfl ?_
                    refine R_istore rfl rfl ?_
                    show pCm _ _ _ _ [_, _, _, _, _, _, _] _ _
                    refine R_inc rfl rfl (by omega) (by omega) ?_
                    show pCm _ _ _ _ [_, _, _, _, _, _, _] _ _
                    refine R_goto rfl ?_
                    refine fgt wc_X10_quarrel [1, 1, 1, 1, 1, 1, 0] ?_
                    have hmt := hmt (by omega)
                    first
                    | (refine ihi (los U T k dn + Lq U A T (nxt dn k), k + 1) ⟨by dsimp only; omega, ?_⟩ (by dsimp only; omega)
                       show los U T k dn + Lq U A T (nxt dn k) = if dn = pShl 1 T - 1 then 0 else bstf (cnd U A T (Lq U A T) dn) (k + 1)
                       rw [if_neg (by omega)]; omega)
                    | (refine ihi (n, k + 1) ⟨by dsimp only; omega, ?_⟩ (by dsimp only; omega)
                       show n = if dn = pShl 1 T - 1 then 0 else bstf (cnd U A T (Lq U A T) dn) (k + 1)
                       split <;> omega)
                  · try simp only [ne_eq, b2i_e, b2i_1, Classical.not_not] at h112
                    refine R_iload rfl rfl ?_
                    refine R_iload rfl rfl ?_
                    refine R_ic rfl (fun h119 => ?_) (fun h119 => ?_)
                    · try simp only [ne_eq, b2i_e, b2i_1, Classical.not_not] at h119
                      refine R_iload rfl rfl ?_
                      refine R_istore rfl rfl ?_
                      show pCm _ _ _ _ [_, _, _, _, _, _, _] _ _
                      refine R_inc rfl rfl (by omega) (by omega) ?_
                      show pCm _ _ _ _ [_, _, _, _, _, _, _] _ _
                      refine R_goto rfl ?_
                      refine fgt wc_X10_quarrel [1, 1, 1, 1, 1, 1, 0] ?_
                      have hmt := hmt (by omega)
                      first
                      | (refine ihi (los U T k dn + Lq U A T (nxt dn k), k + 1) ⟨by dsimp only; omega, ?_⟩ (by dsimp only; omega)
                         show los U T k dn + Lq U A T (nxt dn k) = if dn = pShl 1 T - 1 then 0 else bstf (cnd U A T (Lq U A T) dn) (k + 1)
                         rw [if_neg (by omega)]; omega)
                      | (refine ihi (n, k + 1) ⟨by dsimp only; omega, ?_⟩ (by dsimp only; omega)
                         show n = if dn = pShl 1 T - 1 then 0 else bstf (cnd U A T (Lq U A T) dn) (k + 1)
                         split <;> omega)
                    · try simp only [ne_eq, b2i_e, b2i_1, Classical.not_not] at h119
                      refine R_iload rfl rfl ?_
                      refine R_goto rfl ?_
                      refine R_istore rfl rfl ?_
                      show pCm _ _ _ _ [_, _, _, _, _, _, _] _ _
                      refine R_inc rfl rfl (by omega) (by omega) ?_
                      show pCm _ _ _ _ [_, _, _, _, _, _, _] _ _
                      refine R_goto rfl ?_
                      refine fgt wc_X10_quarrel [1, 1, 1, 1, 1, 1, 0] ?_
                      have hmt := hmt (by omega)
                      first
                      | (refine ihi (los U T k dn + Lq U A T (nxt dn k), k + 1) ⟨by dsimp only; omega, ?_⟩ (by dsimp only; omega)
                         show los U T k dn + Lq U A T (nxt dn k) = if dn = pShl 1 T - 1 then 0 else bstf (cnd U A T (Lq U A T) dn) (k + 1)
                         rw [if_neg (by omega)]; omega)
                      | (refine ihi (n, k + 1) ⟨by dsimp only; omega, ?_⟩ (by dsimp only; omega)
                         show n = if dn = pShl 1 T - 1 then 0 else bstf (cnd U A T (Lq U A T) dn) (k + 1)
                         split <;> omega)
          · exact ⟨⟨Int.le_refl _, by dsimp only; omega⟩, hb0⟩
        refine R_iload rfl rfl ?_
        refine R_iload rfl rfl ?_
        refine R_ic rfl (fun h43 => ?_) (fun h43 => ?_)
        · try simp only [ne_eq, b2i_e, b2i_1, Classical.not_not] at h43
          refine R_push rfl ?_
          exact J51 _ (by first | rw [if_pos (by assumption)] | (rw [if_neg (by assumption)]; rfl))
        · try simp only [ne_eq, b2i_e, b2i_1, Classical.not_not] at h43
          refine R_push rfl ?_
          refine R_goto rfl ?_
          exact J51 _ (by first | rw [if_pos (by assumption)] | (rw [if_neg (by assumption)]; rfl))
    · exact ⟨by dsimp only; omega, Fr.rf, fun e e0 e1 => by dsimp only at e0; omega⟩
  · try simp only [ne_eq, b2i_e, b2i_1, Classical.not_not] at h11
    refine R_push rfl ?_
    refine R_iret rfl ?_
    exact hE _ _ (by rw [hqM, if_neg (by omega)]) ⟨(hF0.tr (r3 := [107, 111, 112, 113, 114, 115, 117, 118]) (s3 := [(71, 55)]) hF1 rfl rfl), fun p p0 p1 => by rw [hF1.row 111 rfl, hF1.row 112 rfl]; exact hc0 p p0 p1, by rw [hte, hR11], fun w => by rw [hqM, if_neg (by omega)] at w; omega⟩

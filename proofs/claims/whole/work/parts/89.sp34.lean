/-- the reference's pieces are in their bounds -/
def PBm (σ : Sg) (P : Int) : Prop := ∀ p, 0 ≤ p → p < P → (1 ≤ σ 89 p ∧ σ 89 p ≤ 200) ∧ (0 ≤ σ 90 p ∧ σ 90 p ≤ 999) ∧ (0 ≤ σ 91 p ∧ σ 91 p ≤ 999) ∧ (0 ≤ σ 92 p ∧ σ 92 p ≤ 4) ∧ (0 ≤ σ 93 p ∧ σ 93 p ≤ 99) ∧ (0 ≤ σ 94 p ∧ σ 94 p ≤ 99) ∧ (0 ≤ σ 95 p ∧ σ 95 p ≤ 9) ∧ (0 ≤ σ 96 p ∧ σ 96 p ≤ 1) ∧ (0 ≤ σ 97 p ∧ σ 97 p ≤ 9)
theorem MT_fr {σ σ' : Sg} {h N : Int} {kd nu len : Int → Int} {K W : Int → Int → Int} (hC : MT σ h N kd nu len K W) {r : List Nat} {sl : List (Nat × Int)} (hF : Fr r sl σ σ') (h1 : (r.contains 71 || sl.contains (71, 10)) = false) (h7 : (r.contains 77 || sl.any (fun q => q.1 == 77)) = false) (h8 : (r.contains 78 || sl.any (fun q => q.1 == 78)) = false) (h9 : (r.contains 79 || sl.any (fun q => q.1 == 79)) = false) (h0 : (r.contains 80 || sl.any (fun q => q.1 == 80)) = false) (h3 : (r.contains 83 || sl.any (fun q => q.1 == 83)) = false) (h4 : (r.contains 84 || sl.any (fun q => q.1 == 84)) = false) : MT σ' h N kd nu len K W := by
  unfold MT
  rw [hF.at 71 10 h1, hF.fn 77 h7, hF.fn 78 h8, hF.fn 79 h9, hF.fn 80 h0, hF.fn 83 h3, hF.fn 84 h4]
  exact hC
def stnM (σ : Sg) (N : Int) (kd nu len : Int → Int) (K W : Int → Int → Int) (p : Int) : Int := stn (σ 88) (kPc (σ 93) (σ 94) (σ 95) (σ 96) (σ 89) p) N kd nu len K W p
set_option maxRecDepth 20000 in
set_option maxHeartbeats 2000000 in
theorem sp_X10_stoneOf (d : Nat) (hd : 4 ≤ d) (xs : List (Nat × Nat)) (t dd rr : Nat) (σ : Sg) (p : Int) (hp : 0 ≤ p ∧ p < 40) (hs : -1 ≤ σ 88 p) (hb : 0 ≤ σ 96 p ∧ σ 96 p ≤ 1) (h N : Int) (kd nu len : Int → Int) (K W : Int → Int → Int) (hT : WT N kd nu len K W) (hC : MT σ h N kd nu len K W) (hnn : ∀ l, 0 ≤ l → l < N → 0 ≤ nu l ∧ nu l ≤ 99) : ∃ σ', Ev d 73 [(87, 0), (0, p)] (Wd xs t dd rr σ) (0, stnM σ N kd nu len K W p) (Wd xs t dd rr σ') ∧ Fr [85, 86, 87] [] σ σ' := by
  obtain ⟨d, rfl⟩ : ∃ e, d = e + 1 := ⟨d - 1, by omega⟩
  have hN := hT.1
  obtain ⟨hC0a, hC0b, hC0c, hC0d⟩ := id hC
  refine evS (nL := 3) (code := k_X10_stoneOf) rfl dc_X10_stoneOf rfl (fun E hE => ?_)
  show pCm (Ev d) k_X10_stoneOf E 0 [(87, 0), (0, p), (9, 0)] [] _
  refine R_aload rfl rfl rfl ?_
  refine T_getr (v := 104) rfl rfl rfl rfl ?_
  refine R_iload rfl rfl ?_
  refine T_ald rfl rfl (by omega) (by omega) ?_
  refine R_if rfl (fun h6 => ?_) (fun h6 => ?_)
  · try simp only [ne_eq, b2i_e, b2i_1, Classical.not_not] at h6
    refine R_push rfl ?_
    refine R_istore rfl rfl ?_
    refine loop (pc := 18) (α := Int × Sg) (fun x => (12 - x.1).toNat) (fun x => ([(87, 0), (0, p), (0, x.1)], Wd xs t dd rr x.2)) (fun x => (0 ≤ x.1 ∧ x.1 ≤ 12) ∧ Fr [85, 86, 87] [] σ x.2 ∧ ∀ i, 0 ≤ i → i < x.1 → x.2 85 i = 0) ?_ (0, σ) ?_
    · intro ⟨k, s0⟩ ⟨hk, F0, hv⟩ ih
      dsimp only at hk F0 hv ⊢
      refine R_iload rfl rfl ?_
      refine R_push rfl ?_
      refine R_ic rfl (fun h21 => ?_) (fun h21 => ?_)
      · try simp only [ne_eq, b2i_e, b2i_1, Classical.not_not] at h21
        refine R_aload rfl rfl rfl ?_
        refine T_getr (v := 101) rfl rfl rfl rfl ?_
        refine R_push rfl ?_
        refine R_aload rfl rfl rfl ?_
        refine T_getr (v := 109) rfl rfl rfl rfl ?_
        refine R_iload rfl rfl ?_
        refine T_ald rfl rfl (by omega) (by omega) ?_
        rw [F0.row 93 rfl]
        refine T_iast rfl rfl (by omega) (by omega) ?_
        generalize hs1 : up2 s0 85 _ _ = s1
        have F1 : Fr [85, 86, 87] [] σ s1 := by rw [← hs1]; exact F0.upr rfl
        refine R_aload rfl rfl rfl ?_
        refine T_getr (v := 101) rfl rfl rfl rfl ?_
        refine R_push rfl ?_
        refine R_aload rfl rfl rfl ?_
        refine T_getr (v := 110) rfl rfl rfl rfl ?_
        refine R_iload rfl rfl ?_
        refine T_ald rfl rfl (by omega) (by omega) ?_
        rw [F1.row 94 rfl]
        refine T_iast rfl rfl (by omega) (by omega) ?_
        generalize hs2 : up2 s1 85 _ _ = s2
        have F2 : Fr [85, 86, 87] [] σ s2 := by rw [← hs2]; exact F1.upr rfl
        refine R_aload rfl rfl rfl ?_
        refine T_getr (v := 101) rfl rfl rfl rfl ?_
        refine R_push rfl ?_
        refine R_aload rfl rfl rfl ?_
        refine T_getr (v := 111) rfl rfl rfl rfl ?_
        refine R_iload rfl rfl ?_
        refine T_ald rfl rfl (by omega) (by omega) ?_
        rw [F2.row 95 rfl]
        refine T_iast rfl rfl (by omega) (by omega) ?_
        generalize hs3 : up2 s2 85 _ _ = s3
        have F3 : Fr [85, 86, 87] [] σ s3 := by rw [← hs3]; exact F2.upr rfl
        refine R_aload rfl rfl rfl ?_
        refine T_getr (v := 101) rfl rfl rfl rfl ?_
        refine R_push rfl ?_
        refine R_aload rfl rfl rfl ?_
        refine T_getr (v := 112) rfl rfl rfl rfl ?_
        refine R_iload rfl rfl ?_
        refine T_ald rfl rfl (by omega) (by omega) ?_
        rw [F3.row 96 rfl]
        have J96 : ∀ v : Int, v = σ 96 p → pCm (Ev d) k_X10_stoneOf E 96 [(87, 0), (0, p), (0, k)] [(0, v), (0, 10), (101, 0)] (Wd xs t dd rr s3) := by
          intro v hv96
          rw [hv96]
          refine T_iast rfl rfl (by omega) (by omega) ?_
          generalize hs4 : up2 s3 85 _ _ = s4
          have F4 : Fr [85, 86, 87] [] σ s4 := by rw [← hs4]; exact F3.upr rfl
          refine R_aload rfl rfl rfl ?_
          refine T_getr (v := 101) rfl rfl rfl rfl ?_
          refine R_push rfl ?_
          refine R_aload rfl rfl rfl ?_
          refine T_getr (v := 105) rfl rfl rfl rfl ?_
          refine R_iload rfl rfl ?_
          refine T_ald rfl rfl (by omega) (by omega) ?_
          rw [F4.row 89 rfl]
          refine T_iast rfl rfl (by omega) (by omega) ?_
          generalize hs5 : up2 s4 85 _ _ = s5
          have F5 : Fr [85, 86, 87] [] σ s5 := by rw [← hs5]; exact F4.upr rfl
          have hkn : ∀ i, 0 ≤ i → i < 12 → s5 85 i = kPc (σ 93) (σ 94) (σ 95) (σ 96) (σ 89) p i := by
            intro i i0 i1
            have z := hv i i0 (by omega)
            rw [← hs5, ← hs4, ← hs3, ← hs2, ← hs1]
            unfold kPc
            simp only [up2, true_and]
            repeat' split
            all_goals first | rfl | omega | exact z
          refine R_aload rfl rfl rfl ?_
          have hCs := MT_fr hC F5 rfl rfl rfl rfl rfl rfl rfl
          obtain ⟨sT, hevT, hFT, hnT⟩ := sp_X10_tellsNames d (by omega) xs t dd rr s5 h N kd nu len K W hT hCs
          have FT : Fr [85, 86, 87] [] σ sT := F5.tr hFT rfl rfl
          have hCT := MT_fr hC FT rfl rfl rfl rfl rfl rfl rfl
          have e85 : sT 85 = s5 85 := hFT.fn 85 rfl
          have hkT : ∀ i, 0 ≤ i → i < 12 → sT 85 i = kPc (σ 93) (σ 94) (σ 95) (σ 96) (σ 89) p i := by
            rw [e85]
            exact hkn
          rw [← e85] at hnT
          refine R_invv rfl rfl rfl rfl rfl rfl (hevT) rfl ?_
          show pCm _ _ _ 114 _ [] _
          refine R_push rfl ?_
          refine R_aload rfl rfl rfl ?_
          refine T_geti rfl rfl rfl ?_
          rw [FT.row 71 rfl, hC0a]
          refine R_mul rfl (by omega) (by omega) ?_
          refine R_istore rfl rfl ?_
          suffices hh : pCm (Ev d) k_X10_stoneOf E 122 [(87, 0), (0, p), (0, 24 * h + 0)] [] (Wd xs t dd rr sT) by rwa [Int.add_zero] at hh
          refine loop (pc := 122) (α := Int × Sg) (fun x => (N - x.1).toNat) (fun x => ([(87, 0), (0, p), (0, 24 * h + x.1)], Wd xs t dd rr x.2)) (fun x => (0 ≤ x.1 ∧ x.1 ≤ N) ∧ Fr [87] [] sT x.2 ∧ frst (hld (sT 85) kd nu len K W 3) nu x.1 = -1) ?_ (0, sT) ?_
          · intro ⟨l, s1⟩ ⟨⟨hk0, hk1⟩, hF, hfr⟩ ih
            dsimp only at hk0 hk1 hF hfr ⊢
            have hC1 := MT_fr hCT hF rfl rfl rfl rfl rfl rfl rfl
            obtain ⟨hC1a, hC1b, hC1c, hC1d⟩ := hC1
            have hfs := frst_s (g := hld (sT 85) kd nu len K W 3) (nu := nu) hk0
            rw [if_pos hfr] at hfs
            have hg := hld_bd (kn := sT 85) (kd := kd) (nu := nu) (len := len) (K := K) (W := W) (k := 3) (l := l)
            refine R_iload rfl rfl ?_
            refine R_push rfl ?_
            refine R_aload rfl rfl rfl ?_
            refine T_geti rfl rfl rfl ?_
            rw [hC1a]
            refine R_mul rfl (by omega) (by omega) ?_
            refine R_aload rfl rfl rfl ?_
            refine T_getr (v := 93) rfl rfl rfl rfl ?_
            refine R_aload rfl rfl rfl ?_
            refine T_geti rfl rfl rfl ?_
            rw [hC1a]
            refine T_ald rfl rfl (by omega) (by omega) ?_
            rw [hC1c]
            refine R_add rfl (by omega) (by omega) ?_
            refine R_ic rfl (fun h140 => ?_) (fun h140 => ?_)
            · try simp only [ne_eq, b2i_e, b2i_1, Classical.not_not] at h140
              refine R_push rfl ?_
              refine R_iret rfl ?_
              exact hE _ _ (by
                unfold stnM stn
                rw [if_pos (by omega), ← frst_c (fun l l0 l1 => hld_kn hT hkT l0 l1), ← show l = N by omega, hfr]) (FT.tr hF rfl rfl)
            · try simp only [ne_eq, b2i_e, b2i_1, Classical.not_not] at h140
              refine R_aload rfl rfl rfl ?_
              refine R_iload rfl rfl ?_
              refine R_push rfl ?_
              obtain ⟨s2, hev, hF2⟩ := sp_X10_isSo d (by omega) xs t dd rr s1 l 3 h N kd nu len K W hT (MT_fr hCT hF rfl rfl rfl rfl rfl rfl rfl) ⟨by omega, by omega⟩ (by rw [hF.fn 86 rfl, hF.fn 85 rfl]; exact hnT)
              rw [hF.fn 85 rfl] at hev
              refine R_invv rfl rfl rfl rfl rfl rfl (hev) rfl ?_
              show pCm _ _ _ 149 _ [(0, _)] _
              refine R_if rfl (fun h149 => ?_) (fun h149 => ?_)
              · try simp only [ne_eq, b2i_e, b2i_1, Classical.not_not] at h149
                refine R_inc rfl rfl (by omega) (by omega) ?_
                refine R_goto rfl ?_
                rw [Int.add_assoc]
                exact ih (l + 1, s2) ⟨by dsimp only; omega, hF.tr (r3 := [87]) (s3 := []) hF2 rfl rfl, by dsimp only; rw [hfs, if_neg (by omega)]⟩ (by dsimp only; omega)
              · try simp only [ne_eq, b2i_e, b2i_1, Classical.not_not] at h149
                refine R_aload rfl rfl rfl ?_
                refine T_getr (v := 95) rfl rfl rfl rfl ?_
                refine R_iload rfl rfl ?_
                refine T_ald rfl rfl (by omega) (by omega) ?_
                rw [(hF.tr (r3 := [87]) (s3 := []) hF2 rfl rfl).row 79 rfl, FT.row 79 rfl, (hC0d l hk0 (by omega)).2.1]
                refine R_iret rfl ?_
                exact hE _ _ (by
                  have hg : hld (sT 85) kd nu len K W 3 l = 1 := by omega
                  have := frst_f hk0 hfr hg (by have := hnn l hk0 (by omega); omega) (N - (l + 1)).toNat
                  rw [show l + 1 + ((N - (l + 1)).toNat : Int) = N by omega] at this
                  unfold stnM stn
                  rw [if_pos (by omega), ← this, frst_c (fun l l0 l1 => hld_kn hT hkT l0 l1)]) (FT.tr (hF.tr (r3 := [87]) (s3 := []) hF2 rfl rfl) rfl rfl)
          · exact ⟨⟨Int.le_refl _, hT.1.1⟩, Fr.rf, rfl⟩
        refine R_if rfl (fun h88 => ?_) (fun h88 => ?_)
        · try simp only [ne_eq, b2i_e, b2i_1, Classical.not_not] at h88
          refine R_push rfl ?_
          exact J96 _ (by omega)
        · try simp only [ne_eq, b2i_e, b2i_1, Classical.not_not] at h88
          refine R_push rfl ?_
          refine R_goto rfl ?_
          exact J96 _ (by omega)
      · try simp only [ne_eq, b2i_e, b2i_1, Classical.not_not] at h21
        refine R_aload rfl rfl rfl ?_
        refine T_getr (v := 101) rfl rfl rfl rfl ?_
        refine R_iload rfl rfl ?_
        refine R_push rfl ?_
        refine T_iast rfl rfl (by omega) (by omega) ?_
        refine R_inc rfl rfl (by omega) (by omega) ?_
        refine R_goto rfl ?_
        generalize hs3 : up2 s0 85 k _ = s3
        refine ih (k + 1, s3) ⟨by dsimp only; omega, by rw [← hs3]; exact F0.upr rfl, fun i i0 i1 => ?_⟩ (by dsimp only; omega)
        dsimp only at i1 ⊢
        rw [← hs3]
        by_cases q : i = k
        · rw [q, up_s]
        · rw [up_i q]; exact hv i i0 (by omega)
    · exact ⟨by dsimp only; omega, Fr.rf, fun i i0 i1 => by dsimp only at i1; omega⟩
  · try simp only [ne_eq, b2i_e, b2i_1, Classical.not_not] at h6
    refine R_aload rfl rfl rfl ?_
    refine T_getr (v := 104) rfl rfl rfl rfl ?_
    refine R_iload rfl rfl ?_
    refine T_ald rfl rfl (by omega) (by omega) ?_
    refine R_iret rfl ?_
    exact hE _ _ (by unfold stnM stn; rw [if_neg (by omega)]) Fr.rf

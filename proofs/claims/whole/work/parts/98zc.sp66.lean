/-- the places of a text's tokens, one behind the other -/
def plz (c : Int → Int) (n i : Int) : Int := foldZ (fun _ p => skp c n (ten c n p)) i (skp c n 0)
theorem plz_s {c : Int → Int} {n i : Int} (h : 0 ≤ i) : plz c n (i + 1) = skp c n (ten c n (plz c n i)) := foldZ_s h
def isG (x : Int) : Int := b2i (x = 40 ∨ x = 41 ∨ x = 59 ∨ x = 61 ∨ x = 60 ∨ x = 43 ∨ x = 45 ∨ x = 42)
/-- a token's sort and worth, as the reference has it -/
def tso (c : Int → Int) (n p : Int) : Int := if isL c p = 1 then (if 8 < ten c n p - p then 4 else 1) else if isD c p = 1 then (if 4 < ten c n p - p then 4 else 2) else if isG (c p) = 1 then 3 else 4
def tva (c : Int → Int) (n p : Int) : Int := if isL c p = 1 then wvl 37 (fun i => c (p + i) - 96) (min (ten c n p - p) 8) else if isD c p = 1 then dvl (fun i => c (p + i) - 48) (min (ten c n p - p) 4) else c p
theorem skp_ok {c : Int → Int} {n k : Int} (h : k ≤ n) : k ≤ skp c n k ∧ skp c n k ≤ n ∧ (skp c n k < n → isB c (skp c n k) ≠ 1) := by
  have := RN_ok (p := isB c) (n := n) (n - k).toNat k (by omega)
  exact ⟨this.1, this.2.1, this.2.2.2⟩
theorem ten_ok {c : Int → Int} {n p : Int} (h : p < n) : p < ten c n p ∧ ten c n p ≤ n := by
  unfold ten
  split
  · rename_i q
    have h1 := RN_ok (p := isL c) (n := n) (n - (p + 1)).toNat (p + 1) (by omega)
    rw [RN_s h q]; omega
  · split
    · rename_i q
      have h1 := RN_ok (p := isD c) (n := n) (n - (p + 1)).toNat (p + 1) (by omega)
      rw [RN_s h q]; omega
    · omega
/-- the reference's rows hold the first m tokens -/
def TK (s : Sg) (c : Int → Int) (n m : Int) : Prop := ∀ j, 0 ≤ j → j < m → plz c n j < n ∧ s 74 j = plz c n j ∧ s 73 j = tso c n (plz c n j) ∧ s 75 j = tva c n (plz c n j)
set_option maxRecDepth 20000 in
set_option maxHeartbeats 2000000 in
theorem sp_X10_cutAll (d : Nat) (hd : 3 ≤ d) (xs : List (Nat × Nat)) (t dd rr : Nat) (σ : Sg) (n : Int) (hn : σ 71 2 = n) (h0 : 0 ≤ n ∧ n ≤ 1000) : ∃ σ', Ev d 39 [(87, 0)] (Wd xs t dd rr σ) (8, 0) (Wd xs t dd rr σ') ∧ Fr [73, 74, 75] [(71, 2), (71, 3), (71, 7), (71, 8)] σ σ' ∧ (σ' 71 2 = 0 ∧ σ' 71 3 = n ∧ σ' 71 7 = 0 ∧ σ' 71 8 = 0) ∧ ∃ m, (0 ≤ m ∧ m ≤ n) ∧ plz (σ 72) n m = n ∧ TK σ' (σ 72) n m ∧ σ' 73 m = 0 ∧ σ' 74 m = n := by
  obtain ⟨d, rfl⟩ : ∃ e, d = e + 1 := ⟨d - 1, by omega⟩
  refine evS (nL := 7) (code := k_X10_cutAll) rfl dc_X10_cutAll rfl (fun E hE => ?_)
  show pCm (Ev d) k_X10_cutAll E 0 [(87, 0), (9, 0), (9, 0), (9, 0), (9, 0), (9, 0), (9, 0)] [] _
  refine R_aload rfl rfl rfl ?_
  refine R_aload rfl rfl rfl ?_
  refine T_geti rfl rfl rfl ?_
  refine T_puti rfl rfl rfl ?_
  refine R_aload rfl rfl rfl ?_
  refine R_push rfl ?_
  refine T_puti rfl rfl rfl ?_
  generalize hs0 : up2 (up2 σ 71 3 (σ 71 2)) 71 2 0 = s0
  refine R_push rfl ?_
  refine R_istore rfl rfl ?_
  show pCm _ _ _ _ [_, _, _, _, _, _, _] _ _
  refine R_push rfl ?_
  refine R_istore rfl rfl ?_
  show pCm _ _ _ _ [_, _, _, _, _, _, _] _ _
  refine fgt wc_X10_cutAll [1, 1, 1, 0, 0, 0, 0] ?_
  refine loop (pc := 17) (α := Int × Int × Sg) (fun x => (n - x.2.1).toNat) (fun x => ([(87, 0), (0, x.1), (0, x.2.1), (9, 0), (9, 0), (9, 0), (9, 0)], Wd xs t dd rr x.2.2)) (fun x => (0 ≤ x.1 ∧ x.1 ≤ x.2.1 ∧ x.2.1 ≤ n) ∧ (Fr [73, 74, 75] [(71, 2), (71, 3)] σ x.2.2 ∧ x.2.2 71 3 = n ∧ x.2.2 71 2 = 0) ∧ plz (σ 72) n x.1 = skp (σ 72) n x.2.1 ∧ TK x.2.2 (σ 72) n x.1) ?_ (0, 0, s0) ?_
  · intro ⟨m, k, s1⟩ ⟨hmk, ⟨hF, h3, h2⟩, hpl, hT⟩ ih
    dsimp only at hmk hF h3 h2 hpl hT ⊢
    have e72 := hF.fn 72 rfl
    have hps := plz_s (c := σ 72) (n := n) (i := m) hmk.1
    refine R_iload rfl rfl ?_
    refine R_aload rfl rfl rfl ?_
    refine T_geti rfl rfl rfl ?_
    rw [h3]
    refine R_ic rfl (fun h22 => ?_) (fun h22 => ?_)
    · try simp only [ne_eq, b2i_e, b2i_1, Classical.not_not] at h22
      refine R_aload rfl rfl rfl ?_
      refine T_getr (v := 89) rfl rfl rfl rfl ?_
      refine R_iload rfl rfl ?_
      refine R_push rfl ?_
      refine T_iast rfl rfl (by omega) (by omega) ?_
      generalize hs5 : up2 s1 73 m 0 = s5
      have h35 : s5 71 3 = n := by rw [← hs5]; simp [up2]; exact h3
      refine R_aload rfl rfl rfl ?_
      refine T_getr (v := 90) rfl rfl rfl rfl ?_
      refine R_iload rfl rfl ?_
      refine R_aload rfl rfl rfl ?_
      refine T_geti rfl rfl rfl ?_
      rw [h35]
      refine T_iast rfl rfl (by omega) (by omega) ?_
      refine R_aload rfl rfl rfl ?_
      refine R_push rfl ?_
      refine T_puti rfl rfl rfl ?_
      refine R_aload rfl rfl rfl ?_
      refine R_push rfl ?_
      refine T_puti rfl rfl rfl ?_
      refine R_vret rfl ?_
      refine hE _ _ rfl ⟨?_, ?_, m, ⟨by omega, by omega⟩, ?_, ?_, ?_, ?_⟩
      · rw [← hs5]; exact ((((hF.tr (r2 := []) (s2 := []) (r3 := [73, 74, 75]) (s3 := [(71, 2), (71, 3), (71, 7), (71, 8)]) Fr.rf rfl rfl).upr rfl).upr rfl).up rfl).up rfl
      · rw [← hs5]; simp [up2]; exact ⟨h2, h3⟩
      · rw [hpl, show k = n by omega]; exact RN_e (by omega)
      · intro j j0 j1
        have hj := hT j j0 j1
        have z : j ≠ m := by omega
        rw [← hs5]
        simp [up2, z]
        exact hj
      · rw [← hs5]; simp [up2]
      · rw [← hs5]; simp [up2]
    · try simp only [ne_eq, b2i_e, b2i_1, Classical.not_not] at h22
      refine R_aload rfl rfl rfl ?_
      refine T_getr (v := 88) rfl rfl rfl rfl ?_
      refine R_iload rfl rfl ?_
      refine T_ald rfl rfl (by omega) (by omega) ?_
      rw [e72]
      refine R_istore rfl rfl ?_
      show pCm _ _ _ _ [_, _, _, _, _, _, _] _ _
      refine R_iload rfl rfl ?_
      refine R_push rfl ?_
      refine R_ic rfl (fun h35 => ?_) (fun h35 => ?_)
      · try simp only [ne_eq, b2i_e, b2i_1, Classical.not_not] at h35
        refine R_inc rfl rfl (by omega) (by omega) ?_
        show pCm _ _ _ _ [_, _, _, _, _, _, _] _ _
        refine R_goto rfl ?_
        refine fgt wc_X10_cutAll [1, 1, 1, 0, 0, 0, 0] ?_
        first
        | (have hb1 : isB (σ 72) k = 1 := b2i_t (by omega)
           exact ih (m, k + 1, s1) ⟨by dsimp only; omega, ⟨hF, h3, h2⟩, by dsimp only; rw [hpl]; exact RN_s (by omega) hb1, hT⟩ (by dsimp only; omega))
        | (refine ih (m + 1, k2, s4) ⟨by dsimp only; omega, ⟨hF4, h34, h24⟩, ?_, ?_⟩ (by dsimp only; omega)
           · dsimp only
             rw [hps, hpk, hten]
           · dsimp only
             intro j j0 j1
             by_cases z : j = m
             · rw [z, hpk]
               exact ⟨by omega, h74, h73, h75⟩
             · have hj := hT j j0 (by omega)
               rw [ho74 j z, ho73 j z, ho75 j z]
               exact hj)
      · try simp only [ne_eq, b2i_e, b2i_1, Classical.not_not] at h35
        refine R_iload rfl rfl ?_
        refine R_push rfl ?_
        refine R_ic rfl (fun h41 => ?_) (fun h41 => ?_)
        · try simp only [ne_eq, b2i_e, b2i_1, Classical.not_not] at h41
          refine R_iload rfl rfl ?_
          refine R_istore rfl rfl ?_
          show pCm _ _ _ _ [_, _, _, _, _, _, _] _ _
          refine R_push rfl ?_
          refine R_lstore rfl rfl ?_
          show pCm _ _ _ _ [_, _, _, _, _, _, _] _ _
          refine R_aload rfl rfl rfl ?_
          refine T_getr (v := 90) rfl rfl rfl rfl ?_
          refine R_iload rfl rfl ?_
          refine R_iload rfl rfl ?_
          refine T_iast rfl rfl (by omega) (by omega) ?_
          generalize hs2 : up2 s1 74 m k = s2
          have hF2 : Fr [73, 74, 75] [(71, 2), (71, 3)] σ s2 := by rw [← hs2]; exact hF.upr rfl
          have h32 : s2 71 3 = n := by rw [← hs2]; simp [up2]; exact h3
          have h22 : s2 71 2 = 0 := by rw [← hs2]; simp [up2]; exact h2
          have h742 : s2 74 m = k := by rw [← hs2]; simp [up2]
          have ho2 : ∀ r j, j ≠ m → s2 r j = s1 r j := fun r j z => by rw [← hs2]; simp [up2, z]
          have hnb : ¬ isB (σ 72) k = 1 := fun w => by
            have w : b2i (σ 72 k = 10 ∨ σ 72 k = 32) = 1 := w
            rw [b2i_f (by omega)] at w; omega
          have hpk : plz (σ 72) n m = k := by rw [hpl]; exact RN_e (fun w => hnb w.2)
          have J265 : ∀ (k2 v : Int) (s3 : Sg), (k < k2 ∧ k2 ≤ n) → ten (σ 72) n k = k2 → v = tva (σ 72) n k → s3 = up2 s2 73 m (tso (σ 72) n k) → pCm (Ev d) k_X10_cutAll E 265 [(87, 0), (0, m), (0, k2), (0, σ 72 k), (0, k), (1, v), (9, 0)] [] (Wd xs t dd rr s3) := by
            intro k2 v s3 hk2 hten hv hs3
            have hF3 : Fr [73, 74, 75] [(71, 2), (71, 3)] σ s3 := by rw [hs3]; exact hF2.upr rfl
            refine R_aload rfl rfl rfl ?_
            refine T_getr (v := 91) rfl rfl rfl rfl ?_
            refine R_iload rfl rfl ?_
            refine R_lload rfl rfl ?_
            refine T_last rfl rfl (by omega) (by omega) ?_
            generalize hs4 : up2 s3 75 m v = s4
            have hF4 : Fr [73, 74, 75] [(71, 2), (71, 3)] σ s4 := by rw [← hs4]; exact hF3.upr rfl
            have h34 : s4 71 3 = n := by rw [← hs4, hs3]; simp [up2]; exact h32
            have h24 : s4 71 2 = 0 := by rw [← hs4, hs3]; simp [up2]; exact h22
            have h74 : s4 74 m = k := by rw [← hs4, hs3]; simp [up2]; exact h742
            have h73 : s4 73 m = tso (σ 72) n k := by rw [← hs4, hs3]; simp [up2]
            have h75 : s4 75 m = tva (σ 72) n k := by rw [← hs4, hs3]; simp [up2]; exact hv
            have ho74 : ∀ j, j ≠ m → s4 74 j = s1 74 j := fun j z => by rw [← hs4, hs3]; simp [up2, z]; exact ho2 74 j z
            have ho73 : ∀ j, j ≠ m → s4 73 j = s1 73 j := fun j z => by rw [← hs4, hs3]; simp [up2, z]; exact ho2 73 j z
            have ho75 : ∀ j, j ≠ m → s4 75 j = s1 75 j := fun j z => by rw [← hs4, hs3]; simp [up2, z]; exact ho2 75 j z
            refine R_inc rfl rfl (by omega) (by omega) ?_
            show pCm _ _ _ _ [_, _, _, _, _, _, _] _ _
            refine R_goto rfl ?_
            refine fgt wc_X10_cutAll [1, 1, 1, 0, 0, 0, 0] ?_
            first
            | (have hb1 : isB (σ 72) k = 1 := b2i_t (by omega)
               exact ih (m, k + 1, s1) ⟨by dsimp only; omega, ⟨hF, h3, h2⟩, by dsimp only; rw [hpl]; exact RN_s (by omega) hb1, hT⟩ (by dsimp only; omega))
            | (refine ih (m + 1, k2, s4) ⟨by dsimp only; omega, ⟨hF4, h34, h24⟩, ?_, ?_⟩ (by dsimp only; omega)
               · dsimp only
                 rw [hps, hpk, hten]
               · dsimp only
                 intro j j0 j1
                 by_cases z : j = m
                 · rw [z, hpk]
                   exact ⟨by omega, h74, h73, h75⟩
                 · have hj := hT j j0 (by omega)
                   rw [ho74 j z, ho73 j z, ho75 j z]
                   exact hj)
          refine R_iload rfl rfl ?_
          refine R_inv rfl rfl rfl rfl rfl (sp_X10_isLetter d (by omega) _ (σ 72 k)) rfl ?_
          show pCm _ _ _ 67 _ [(0, _)] _
          refine R_if rfl (fun h67 => ?_) (fun h67 => ?_)
          · try simp only [ne_eq, b2i_e, b2i_1, Classical.not_not] at h67
            refine R_iload rfl rfl ?_
            refine R_inv rfl rfl rfl rfl rfl (sp_X10_isDigit d (by omega) _ (σ 72 k)) rfl ?_
            show pCm _ _ _ 156 _ [(0, _)] _
            refine R_if rfl (fun h156 => ?_) (fun h156 => ?_)
            · try simp only [ne_eq, b2i_e, b2i_1, Classical.not_not] at h156
              have hl0 : ¬ isL (σ 72) k = 1 := (fun w => by have w : b2i (97 ≤ σ 72 k ∧ σ 72 k ≤ 122) = 1 := w; rw [b2i_f (by omega)] at w; omega)
              have hd0 : ¬ isD (σ 72) k = 1 := (fun w => by have w : b2i (48 ≤ σ 72 k ∧ σ 72 k ≤ 57) = 1 := w; rw [b2i_f (by omega)] at w; omega)
              have hten : ten (σ 72) n k = k + 1 := by unfold ten; rw [if_neg hl0, if_neg hd0]
              have hvv : σ 72 k = tva (σ 72) n k := by unfold tva; rw [if_neg hl0, if_neg hd0]
              have hso : tso (σ 72) n k = (if isG (σ 72 k) = 1 then 3 else 4) := by unfold tso; rw [if_neg hl0, if_neg hd0]
              refine R_iload rfl rfl ?_
              refine R_i2l rfl ?_
              refine R_lstore rfl rfl ?_
              show pCm _ _ _ _ [_, _, _, _, _, _, _] _ _
              refine R_aload rfl rfl rfl ?_
              refine T_getr (v := 89) rfl rfl rfl rfl ?_
              refine R_iload rfl rfl ?_
              refine R_iload rfl rfl ?_
              have hsg : isG (σ 72 k) = 0 ∨ isG (σ 72 k) = 1 := by have := (b2i_bd (p := σ 72 k = 40 ∨ σ 72 k = 41 ∨ σ 72 k = 59 ∨ σ 72 k = 61 ∨ σ 72 k = 60 ∨ σ 72 k = 43 ∨ σ 72 k = 45 ∨ σ 72 k = 42)); unfold isG; omega
              have hsi := sp_X10_isSignOf d (by omega) (Wd xs t dd rr s2) (σ 72 k)
              have hsi : Ev d 38 [(0, σ 72 k)] (Wd xs t dd rr s2) (0, isG (σ 72 k)) (Wd xs t dd rr s2) := hsi
              refine R_inv rfl rfl rfl rfl rfl (hsi) rfl ?_
              show pCm _ _ _ 253 _ [(0, _), (0, _), (89, 0)] _
              refine R_if rfl (fun h253 => ?_) (fun h253 => ?_)
              · try simp only [ne_eq, b2i_e, b2i_1, Classical.not_not] at h253
                refine R_push rfl ?_
                refine T_iast rfl rfl (by omega) (by omega) ?_
                refine R_inc rfl rfl (by omega) (by omega) ?_
                show pCm _ _ _ _ [_, _, _, _, _, _, _] _ _
                exact J265 _ _ _ ⟨by omega, by omega⟩ hten hvv (by rw [hso]; first | rw [if_pos (by omega)] | rw [if_neg (by omega)])
              · try simp only [ne_eq, b2i_e, b2i_1, Classical.not_not] at h253
                refine R_push rfl ?_
                refine R_goto rfl ?_
                refine T_iast rfl rfl (by omega) (by omega) ?_
                refine R_inc rfl rfl (by omega) (by omega) ?_
                show pCm _ _ _ _ [_, _, _, _, _, _, _] _ _
                exact J265 _ _ _ ⟨by omega, by omega⟩ hten hvv (by rw [hso]; first | rw [if_pos (by omega)] | rw [if_neg (by omega)])
            · try simp only [ne_eq, b2i_e, b2i_1, Classical.not_not] at h156
              refine loop (pc := 159) (α := Int × Int) (fun x => (n - x.1).toNat) (fun x => ([(87, 0), (0, m), (0, x.1), (0, σ 72 k), (0, k), (1, x.2), (9, 0)], Wd xs t dd rr s2)) (fun x => (k ≤ x.1 ∧ x.1 ≤ n) ∧ RN (isD (σ 72)) n k = RN (isD (σ 72)) n x.1 ∧ (∀ i, k ≤ i → i < x.1 → 48 ≤ σ 72 i ∧ σ 72 i ≤ 57) ∧ x.2 = dvl (fun i => σ 72 (k + i) - 48) (min (x.1 - k) 4)) ?_ (k, 0) ?_
              · intro ⟨k2, v⟩ ⟨hk2, hrn, hall, hv⟩ ih2
                dsimp only at hk2 hrn hall hv ⊢
                have hvb := dvl_bd (f := (fun i => σ 72 (k + i) - 48)) (l := min (k2 - k) 4) (by omega) (by omega) (fun i i0 i1 => by have := hall (k + i) (by omega) (by omega); omega)
                refine R_iload rfl rfl ?_
                refine R_aload rfl rfl rfl ?_
                refine T_geti rfl rfl rfl ?_
                rw [h32]
                refine R_ic rfl (fun h164 => ?_) (fun h164 => ?_)
                · try simp only [ne_eq, b2i_e, b2i_1, Classical.not_not] at h164
                  have hl0 : ¬ isL (σ 72) k = 1 := (fun w => by have w : b2i (97 ≤ σ 72 k ∧ σ 72 k ≤ 122) = 1 := w; rw [b2i_f (by omega)] at w; omega)
                  have hd0 : isD (σ 72) k = 1 := b2i_t (by omega)
                  have hrn2 : RN (isD (σ 72)) n k = k2 := by
                    rw [hrn]
                    exact RN_e (fun w => by have w2 : b2i (48 ≤ σ 72 k2 ∧ σ 72 k2 ≤ 57) = 1 := w.2; unfold b2i at w2; split at w2 <;> omega)
                  have hten : ten (σ 72) n k = k2 := by unfold ten; rw [if_neg hl0, if_pos hd0, hrn2]
                  have htk := ten_ok (c := σ 72) (n := n) (p := k) (by omega)
                  have hvv : v = tva (σ 72) n k := by unfold tva; rw [if_neg hl0, if_pos hd0, hten, hv]
                  have hso : tso (σ 72) n k = (if 4 < k2 - k then 4 else 2) := by unfold tso; rw [if_neg hl0, if_pos hd0, hten]
                  refine R_aload rfl rfl rfl ?_
                  refine T_getr (v := 89) rfl rfl rfl rfl ?_
                  refine R_iload rfl rfl ?_
                  refine R_iload rfl rfl ?_
                  refine R_iload rfl rfl ?_
                  refine R_sub rfl (by omega) (by omega) ?_
                  refine R_push rfl ?_
                  refine R_ic rfl (fun h228 => ?_) (fun h228 => ?_)
                  · try simp only [ne_eq, b2i_e, b2i_1, Classical.not_not] at h228
                    refine R_push rfl ?_
                    refine T_iast rfl rfl (by omega) (by omega) ?_
                    refine R_goto rfl ?_
                    exact J265 _ _ _ ⟨by omega, by omega⟩ hten hvv (by rw [hso]; first | rw [if_pos (by omega)] | rw [if_neg (by omega)])
                  · try simp only [ne_eq, b2i_e, b2i_1, Classical.not_not] at h228
                    refine R_push rfl ?_
                    refine R_goto rfl ?_
                    refine T_iast rfl rfl (by omega) (by omega) ?_
                    refine R_goto rfl ?_
                    exact J265 _ _ _ ⟨by omega, by omega⟩ hten hvv (by rw [hso]; first | rw [if_pos (by omega)] | rw [if_neg (by omega)])
                · try simp only [ne_eq, b2i_e, b2i_1, Classical.not_not] at h164
                  refine R_aload rfl rfl rfl ?_
                  refine T_getr (v := 88) rfl rfl rfl rfl ?_
                  refine R_iload rfl rfl ?_
                  refine T_ald rfl rfl (by omega) (by omega) ?_
                  rw [hF2.row 72 rfl]
                  refine R_inv rfl rfl rfl rfl rfl (sp_X10_isDigit d (by omega) _ (σ 72 k2)) rfl ?_
                  show pCm _ _ _ 176 _ [(0, _)] _
                  refine R_if rfl (fun h176 => ?_) (fun h176 => ?_)
                  · try simp only [ne_eq, b2i_e, b2i_1, Classical.not_not] at h176
                    have hl0 : ¬ isL (σ 72) k = 1 := (fun w => by have w : b2i (97 ≤ σ 72 k ∧ σ 72 k ≤ 122) = 1 := w; rw [b2i_f (by omega)] at w; omega)
                    have hd0 : isD (σ 72) k = 1 := b2i_t (by omega)
                    have hrn2 : RN (isD (σ 72)) n k = k2 := by
                      rw [hrn]
                      exact RN_e (fun w => by have w2 : b2i (48 ≤ σ 72 k2 ∧ σ 72 k2 ≤ 57) = 1 := w.2; unfold b2i at w2; split at w2 <;> omega)
                    have hten : ten (σ 72) n k = k2 := by unfold ten; rw [if_neg hl0, if_pos hd0, hrn2]
                    have htk := ten_ok (c := σ 72) (n := n) (p := k) (by omega)
                    have hvv : v = tva (σ 72) n k := by unfold tva; rw [if_neg hl0, if_pos hd0, hten, hv]
                    have hso : tso (σ 72) n k = (if 4 < k2 - k then 4 else 2) := by unfold tso; rw [if_neg hl0, if_pos hd0, hten]
                    refine R_aload rfl rfl rfl ?_
                    refine T_getr (v := 89) rfl rfl rfl rfl ?_
                    refine R_iload rfl rfl ?_
                    refine R_iload rfl rfl ?_
                    refine R_iload rfl rfl ?_
                    refine R_sub rfl (by omega) (by omega) ?_
                    refine R_push rfl ?_
                    refine R_ic rfl (fun h228 => ?_) (fun h228 => ?_)
                    · try simp only [ne_eq, b2i_e, b2i_1, Classical.not_not] at h228
                      refine R_push rfl ?_
                      refine T_iast rfl rfl (by omega) (by omega) ?_
                      refine R_goto rfl ?_
                      exact J265 _ _ _ ⟨by omega, by omega⟩ hten hvv (by rw [hso]; first | rw [if_pos (by omega)] | rw [if_neg (by omega)])
                    · try simp only [ne_eq, b2i_e, b2i_1, Classical.not_not] at h228
                      refine R_push rfl ?_
                      refine R_goto rfl ?_
                      refine T_iast rfl rfl (by omega) (by omega) ?_
                      refine R_goto rfl ?_
                      exact J265 _ _ _ ⟨by omega, by omega⟩ hten hvv (by rw [hso]; first | rw [if_pos (by omega)] | rw [if_neg (by omega)])
                  · try simp only [ne_eq, b2i_e, b2i_1, Classical.not_not] at h176
                    refine R_iload rfl rfl ?_
                    refine R_iload rfl rfl ?_
                    refine R_sub rfl (by omega) (by omega) ?_
                    refine R_push rfl ?_
                    refine R_ic rfl (fun h184 => ?_) (fun h184 => ?_)
                    · try simp only [ne_eq, b2i_e, b2i_1, Classical.not_not] at h184
                      refine R_lload rfl rfl ?_
                      refine R_lstore rfl rfl ?_
                      show pCm _ _ _ _ [_, _, _, _, _, _, _] _ _
                      refine R_inc rfl rfl (by omega) (by omega) ?_
                      show pCm _ _ _ _ [_, _, _, _, _, _, _] _ _
                      refine R_goto rfl ?_
                      first
                      | (have hl1 : isD (σ 72) k2 = 1 := b2i_t (by omega)
                         refine ih2 (k2 + 1, 10 * v + σ 72 k2 - 48) ⟨by dsimp only; omega, by dsimp only; rw [hrn]; exact RN_s (by omega) hl1, fun i i0 i1 => ?_, ?_⟩ (by dsimp only; omega)
                         · dsimp only at i1
                           by_cases z : i = k2
                           · rw [z]; omega
                           · exact hall i i0 (by omega)
                         · show 10 * v + σ 72 k2 - 48 = dvl (fun i => σ 72 (k + i) - 48) (min (k2 + 1 - k) 4)
                           have hws := dvl_s (f := (fun i => σ 72 (k + i) - 48)) (l := k2 - k) (by omega)
                           rw [show min (k2 + 1 - k) 4 = k2 - k + 1 by omega, hws, hv, show min (k2 - k) 4 = k2 - k by omega, show k + (k2 - k) = k2 by omega]
                           omega)
                      | (have hl1 : isD (σ 72) k2 = 1 := b2i_t (by omega)
                         refine ih2 (k2 + 1, v) ⟨by dsimp only; omega, by dsimp only; rw [hrn]; exact RN_s (by omega) hl1, fun i i0 i1 => ?_, ?_⟩ (by dsimp only; omega)
                         · dsimp only at i1
                           by_cases z : i = k2
                           · rw [z]; omega
                           · exact hall i i0 (by omega)
                         · show v = dvl (fun i => σ 72 (k + i) - 48) (min (k2 + 1 - k) 4)
                           rw [hv, show min (k2 + 1 - k) 4 = min (k2 - k) 4 by omega])
                    · try simp only [ne_eq, b2i_e, b2i_1, Classical.not_not] at h184
                      refine R_push rfl ?_
                      refine R_lload rfl rfl ?_
                      refine R_lmul rfl (by omega) (by omega) ?_
                      refine R_aload rfl rfl rfl ?_
                      refine T_getr (v := 88) rfl rfl rfl rfl ?_
                      refine R_iload rfl rfl ?_
                      refine T_ald rfl rfl (by omega) (by omega) ?_
                      rw [hF2.row 72 rfl]
                      refine R_i2l rfl ?_
                      refine R_ladd rfl (by omega) (by omega) ?_
                      refine R_push rfl ?_
                      refine R_lsub rfl (by omega) (by omega) ?_
                      refine R_goto rfl ?_
                      refine R_lstore rfl rfl ?_
                      show pCm _ _ _ _ [_, _, _, _, _, _, _] _ _
                      refine R_inc rfl rfl (by omega) (by omega) ?_
                      show pCm _ _ _ _ [_, _, _, _, _, _, _] _ _
                      refine R_goto rfl ?_
                      first
                      | (have hl1 : isD (σ 72) k2 = 1 := b2i_t (by omega)
                         refine ih2 (k2 + 1, 10 * v + σ 72 k2 - 48) ⟨by dsimp only; omega, by dsimp only; rw [hrn]; exact RN_s (by omega) hl1, fun i i0 i1 => ?_, ?_⟩ (by dsimp only; omega)
                         · dsimp only at i1
                           by_cases z : i = k2
                           · rw [z]; omega
                           · exact hall i i0 (by omega)
                         · show 10 * v + σ 72 k2 - 48 = dvl (fun i => σ 72 (k + i) - 48) (min (k2 + 1 - k) 4)
                           have hws := dvl_s (f := (fun i => σ 72 (k + i) - 48)) (l := k2 - k) (by omega)
                           rw [show min (k2 + 1 - k) 4 = k2 - k + 1 by omega, hws, hv, show min (k2 - k) 4 = k2 - k by omega, show k + (k2 - k) = k2 by omega]
                           omega)
                      | (have hl1 : isD (σ 72) k2 = 1 := b2i_t (by omega)
                         refine ih2 (k2 + 1, v) ⟨by dsimp only; omega, by dsimp only; rw [hrn]; exact RN_s (by omega) hl1, fun i i0 i1 => ?_, ?_⟩ (by dsimp only; omega)
                         · dsimp only at i1
                           by_cases z : i = k2
                           · rw [z]; omega
                           · exact hall i i0 (by omega)
                         · show v = dvl (fun i => σ 72 (k + i) - 48) (min (k2 + 1 - k) 4)
                           rw [hv, show min (k2 + 1 - k) 4 = min (k2 - k) 4 by omega])
              · exact ⟨by dsimp only; omega, rfl, fun i i0 i1 => by dsimp only at i1; omega, by dsimp only; rw [show min (k - k) 4 = 0 by omega]; rfl⟩
          · try simp only [ne_eq, b2i_e, b2i_1, Classical.not_not] at h67
            refine loop (pc := 70) (α := Int × Int) (fun x => (n - x.1).toNat) (fun x => ([(87, 0), (0, m), (0, x.1), (0, σ 72 k), (0, k), (1, x.2), (9, 0)], Wd xs t dd rr s2)) (fun x => (k ≤ x.1 ∧ x.1 ≤ n) ∧ RN (isL (σ 72)) n k = RN (isL (σ 72)) n x.1 ∧ (∀ i, k ≤ i → i < x.1 → 97 ≤ σ 72 i ∧ σ 72 i ≤ 122) ∧ x.2 = wvl 37 (fun i => σ 72 (k + i) - 96) (min (x.1 - k) 8)) ?_ (k, 0) ?_
            · intro ⟨k2, v⟩ ⟨hk2, hrn, hall, hv⟩ ih2
              dsimp only at hk2 hrn hall hv ⊢
              have hvb := wvl_bd (b := 37) (f := (fun i => σ 72 (k + i) - 96)) (l := min (k2 - k) 8) (Or.inr rfl) (by omega) (by omega) (fun i i0 i1 => by have := hall (k + i) (by omega) (by omega); omega)
              refine R_iload rfl rfl ?_
              refine R_aload rfl rfl rfl ?_
              refine T_geti rfl rfl rfl ?_
              rw [h32]
              refine R_ic rfl (fun h75 => ?_) (fun h75 => ?_)
              · try simp only [ne_eq, b2i_e, b2i_1, Classical.not_not] at h75
                have hl0 : isL (σ 72) k = 1 := b2i_t (by omega)
                have hrn2 : RN (isL (σ 72)) n k = k2 := by
                  rw [hrn]
                  exact RN_e (fun w => by have w2 : b2i (97 ≤ σ 72 k2 ∧ σ 72 k2 ≤ 122) = 1 := w.2; unfold b2i at w2; split at w2 <;> omega)
                have hten : ten (σ 72) n k = k2 := by unfold ten; rw [if_pos hl0, hrn2]
                have htk := ten_ok (c := σ 72) (n := n) (p := k) (by omega)
                have hvv : v = tva (σ 72) n k := by unfold tva; rw [if_pos hl0, hten, hv]
                have hso : tso (σ 72) n k = (if 8 < k2 - k then 4 else 1) := by unfold tso; rw [if_pos hl0, hten]
                refine R_aload rfl rfl rfl ?_
                refine T_getr (v := 89) rfl rfl rfl rfl ?_
                refine R_iload rfl rfl ?_
                refine R_iload rfl rfl ?_
                refine R_iload rfl rfl ?_
                refine R_sub rfl (by omega) (by omega) ?_
                refine R_push rfl ?_
                refine R_ic rfl (fun h140 => ?_) (fun h140 => ?_)
                · try simp only [ne_eq, b2i_e, b2i_1, Classical.not_not] at h140
                  refine R_push rfl ?_
                  refine T_iast rfl rfl (by omega) (by omega) ?_
                  refine R_goto rfl ?_
                  exact J265 _ _ _ ⟨by omega, by omega⟩ hten hvv (by rw [hso]; first | rw [if_pos (by omega)] | rw [if_neg (by omega)])
                · try simp only [ne_eq, b2i_e, b2i_1, Classical.not_not] at h140
                  refine R_push rfl ?_
                  refine R_goto rfl ?_
                  refine T_iast rfl rfl (by omega) (by omega) ?_
                  refine R_goto rfl ?_
                  exact J265 _ _ _ ⟨by omega, by omega⟩ hten hvv (by rw [hso]; first | rw [if_pos (by omega)] | rw [if_neg (by omega)])
              · try simp only [ne_eq, b2i_e, b2i_1, Classical.not_not] at h75
                refine R_aload rfl rfl rfl ?_
                refine T_getr (v := 88) rfl rfl rfl rfl ?_
                refine R_iload rfl rfl ?_
                refine T_ald rfl rfl (by omega) (by omega) ?_
                rw [hF2.row 72 rfl]
                refine R_inv rfl rfl rfl rfl rfl (sp_X10_isLetter d (by omega) _ (σ 72 k2)) rfl ?_
                show pCm _ _ _ 87 _ [(0, _)] _
                refine R_if rfl (fun h87 => ?_) (fun h87 => ?_)
                · try simp only [ne_eq, b2i_e, b2i_1, Classical.not_not] at h87
                  have hl0 : isL (σ 72) k = 1 := b2i_t (by omega)
                  have hrn2 : RN (isL (σ 72)) n k = k2 := by
                    rw [hrn]
                    exact RN_e (fun w => by have w2 : b2i (97 ≤ σ 72 k2 ∧ σ 72 k2 ≤ 122) = 1 := w.2; unfold b2i at w2; split at w2 <;> omega)
                  have hten : ten (σ 72) n k = k2 := by unfold ten; rw [if_pos hl0, hrn2]
                  have htk := ten_ok (c := σ 72) (n := n) (p := k) (by omega)
                  have hvv : v = tva (σ 72) n k := by unfold tva; rw [if_pos hl0, hten, hv]
                  have hso : tso (σ 72) n k = (if 8 < k2 - k then 4 else 1) := by unfold tso; rw [if_pos hl0, hten]
                  refine R_aload rfl rfl rfl ?_
                  refine T_getr (v := 89) rfl rfl rfl rfl ?_
                  refine R_iload rfl rfl ?_
                  refine R_iload rfl rfl ?_
                  refine R_iload rfl rfl ?_
                  refine R_sub rfl (by omega) (by omega) ?_
                  refine R_push rfl ?_
                  refine R_ic rfl (fun h140 => ?_) (fun h140 => ?_)
                  · try simp only [ne_eq, b2i_e, b2i_1, Classical.not_not] at h140
                    refine R_push rfl ?_
                    refine T_iast rfl rfl (by omega) (by omega) ?_
                    refine R_goto rfl ?_
                    exact J265 _ _ _ ⟨by omega, by omega⟩ hten hvv (by rw [hso]; first | rw [if_pos (by omega)] | rw [if_neg (by omega)])
                  · try simp only [ne_eq, b2i_e, b2i_1, Classical.not_not] at h140
                    refine R_push rfl ?_
                    refine R_goto rfl ?_
                    refine T_iast rfl rfl (by omega) (by omega) ?_
                    refine R_goto rfl ?_
                    exact J265 _ _ _ ⟨by omega, by omega⟩ hten hvv (by rw [hso]; first | rw [if_pos (by omega)] | rw [if_neg (by omega)])
                · try simp only [ne_eq, b2i_e, b2i_1, Classical.not_not] at h87
                  refine R_iload rfl rfl ?_
                  refine R_iload rfl rfl ?_
                  refine R_sub rfl (by omega) (by omega) ?_
                  refine R_push rfl ?_
                  refine R_ic rfl (fun h96 => ?_) (fun h96 => ?_)
                  · try simp only [ne_eq, b2i_e, b2i_1, Classical.not_not] at h96
                    refine R_lload rfl rfl ?_
                    refine R_lstore rfl rfl ?_
                    show pCm _ _ _ _ [_, _, _, _, _, _, _] _ _
                    refine R_inc rfl rfl (by omega) (by omega) ?_
                    show pCm _ _ _ _ [_, _, _, _, _, _, _] _ _
                    refine R_goto rfl ?_
                    first
                    | (have hl1 : isL (σ 72) k2 = 1 := b2i_t (by omega)
                       refine ih2 (k2 + 1, 37 * v + (σ 72 k2 - 96)) ⟨by dsimp only; omega, by dsimp only; rw [hrn]; exact RN_s (by omega) hl1, fun i i0 i1 => ?_, ?_⟩ (by dsimp only; omega)
                       · dsimp only at i1
                         by_cases z : i = k2
                         · rw [z]; omega
                         · exact hall i i0 (by omega)
                       · show 37 * v + (σ 72 k2 - 96) = wvl 37 (fun i => σ 72 (k + i) - 96) (min (k2 + 1 - k) 8)
                         have hws := wvl_s (b := 37) (f := (fun i => σ 72 (k + i) - 96)) (l := k2 - k) (by omega)
                         rw [show min (k2 + 1 - k) 8 = k2 - k + 1 by omega, hws, hv, show min (k2 - k) 8 = k2 - k by omega]
                         congr 2
                         congr 1
                         omega)
                    | (have hl1 : isL (σ 72) k2 = 1 := b2i_t (by omega)
                       refine ih2 (k2 + 1, v) ⟨by dsimp only; omega, by dsimp only; rw [hrn]; exact RN_s (by omega) hl1, fun i i0 i1 => ?_, ?_⟩ (by dsimp only; omega)
                       · dsimp only at i1
                         by_cases z : i = k2
                         · rw [z]; omega
                         · exact hall i i0 (by omega)
                       · show v = wvl 37 (fun i => σ 72 (k + i) - 96) (min (k2 + 1 - k) 8)
                         rw [hv, show min (k2 + 1 - k) 8 = min (k2 - k) 8 by omega])
                  · try simp only [ne_eq, b2i_e, b2i_1, Classical.not_not] at h96
                    refine R_push rfl ?_
                    refine R_lload rfl rfl ?_
                    refine R_lmul rfl (by omega) (by omega) ?_
                    refine R_aload rfl rfl rfl ?_
                    refine T_getr (v := 88) rfl rfl rfl rfl ?_
                    refine R_iload rfl rfl ?_
                    refine T_ald rfl rfl (by omega) (by omega) ?_
                    rw [hF2.row 72 rfl]
                    refine R_inv rfl rfl rfl rfl rfl (sp_X10_rank d (by omega) _ (σ 72 k2) ⟨by omega, by omega⟩) rfl ?_
                    show pCm _ _ _ 114 _ [(0, _), (1, _)] _
                    refine R_i2l rfl ?_
                    refine R_ladd rfl (by omega) (by omega) ?_
                    refine R_goto rfl ?_
                    refine R_lstore rfl rfl ?_
                    show pCm _ _ _ _ [_, _, _, _, _, _, _] _ _
                    refine R_inc rfl rfl (by omega) (by omega) ?_
                    show pCm _ _ _ _ [_, _, _, _, _, _, _] _ _
                    refine R_goto rfl ?_
                    first
                    | (have hl1 : isL (σ 72) k2 = 1 := b2i_t (by omega)
                       refine ih2 (k2 + 1, 37 * v + (σ 72 k2 - 96)) ⟨by dsimp only; omega, by dsimp only; rw [hrn]; exact RN_s (by omega) hl1, fun i i0 i1 => ?_, ?_⟩ (by dsimp only; omega)
                       · dsimp only at i1
                         by_cases z : i = k2
                         · rw [z]; omega
                         · exact hall i i0 (by omega)
                       · show 37 * v + (σ 72 k2 - 96) = wvl 37 (fun i => σ 72 (k + i) - 96) (min (k2 + 1 - k) 8)
                         have hws := wvl_s (b := 37) (f := (fun i => σ 72 (k + i) - 96)) (l := k2 - k) (by omega)
                         rw [show min (k2 + 1 - k) 8 = k2 - k + 1 by omega, hws, hv, show min (k2 - k) 8 = k2 - k by omega]
                         congr 2
                         congr 1
                         omega)
                    | (have hl1 : isL (σ 72) k2 = 1 := b2i_t (by omega)
                       refine ih2 (k2 + 1, v) ⟨by dsimp only; omega, by dsimp only; rw [hrn]; exact RN_s (by omega) hl1, fun i i0 i1 => ?_, ?_⟩ (by dsimp only; omega)
                       · dsimp only at i1
                         by_cases z : i = k2
                         · rw [z]; omega
                         · exact hall i i0 (by omega)
                       · show v = wvl 37 (fun i => σ 72 (k + i) - 96) (min (k2 + 1 - k) 8)
                         rw [hv, show min (k2 + 1 - k) 8 = min (k2 - k) 8 by omega])
            · exact ⟨by dsimp only; omega, rfl, fun i i0 i1 => by dsimp only at i1; omega, by dsimp only; rw [show min (k - k) 8 = 0 by omega]; rfl⟩
        · try simp only [ne_eq, b2i_e, b2i_1, Classical.not_not] at h41
          refine R_inc rfl rfl (by omega) (by omega) ?_
          show pCm _ _ _ _ [_, _, _, _, _, _, _] _ _
          refine R_goto rfl ?_
          refine fgt wc_X10_cutAll [1, 1, 1, 0, 0, 0, 0] ?_
          first
          | (have hb1 : isB (σ 72) k = 1 := b2i_t (by omega)
             exact ih (m, k + 1, s1) ⟨by dsimp only; omega, ⟨hF, h3, h2⟩, by dsimp only; rw [hpl]; exact RN_s (by omega) hb1, hT⟩ (by dsimp only; omega))
          | (refine ih (m + 1, k2, s4) ⟨by dsimp only; omega, ⟨hF4, h34, h24⟩, ?_, ?_⟩ (by dsimp only; omega)
             · dsimp only
               rw [hps, hpk, hten]
             · dsimp only
               intro j j0 j1
               by_cases z : j = m
               · rw [z, hpk]
                 exact ⟨by omega, h74, h73, h75⟩
               · have hj := hT j j0 (by omega)
                 rw [ho74 j z, ho73 j z, ho75 j z]
                 exact hj)
  · exact ⟨⟨Int.le_refl _, Int.le_refl _, h0.1⟩, ⟨by rw [← hs0]; exact (Fr.rf.up rfl).up rfl, by show s0 71 3 = n; rw [← hs0]; simp [up2]; exact hn, by show s0 71 2 = 0; rw [← hs0]; simp [up2]⟩, rfl, fun j j0 j1 => by dsimp only at j1; omega⟩

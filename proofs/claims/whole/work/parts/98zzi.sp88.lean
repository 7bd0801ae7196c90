/-- what advance leaves: the token at p -/
def ADP (σ σ' : Sg) (n M p : Int) : Prop := Fr [] [(52, 4), (52, 5), (52, 6), (52, 7), (52, 8)] σ σ' ∧ σ' 52 5 = p ∧ (n ≤ p → σ' 52 4 = 0 ∧ σ' 52 7 = 0) ∧ (p < n → σ' 52 6 = ten (σ 53) n p ∧ (isL (σ 53) p = 1 → σ' 52 4 = (if 8 < ten (σ 53) n p - p then 1 else wtk (fnd (σ 54) (wvl 32 (fun i => σ 53 (p + i) - 96) (ten (σ 53) n p - p)) 8) (fnd (σ 55) (wvl 32 (fun i => σ 53 (p + i) - 96) (ten (σ 53) n p - p)) 12) (fnd (σ 56) (wvl 32 (fun i => σ 53 (p + i) - 96) (ten (σ 53) n p - p)) M)) ∧ σ' 52 7 = (if 8 < ten (σ 53) n p - p then 0 else wtw (fnd (σ 54) (wvl 32 (fun i => σ 53 (p + i) - 96) (ten (σ 53) n p - p)) 8) (fnd (σ 55) (wvl 32 (fun i => σ 53 (p + i) - 96) (ten (σ 53) n p - p)) 12) (fnd (σ 56) (wvl 32 (fun i => σ 53 (p + i) - 96) (ten (σ 53) n p - p)) M)) ∧ (¬ 8 < ten (σ 53) n p - p → σ' 52 8 = wvl 32 (fun i => σ 53 (p + i) - 96) (ten (σ 53) n p - p))) ∧ (isL (σ 53) p ≠ 1 → isD (σ 53) p = 1 → σ' 52 4 = (if 4 < ten (σ 53) n p - p then 1 else 2) ∧ σ' 52 7 = (if 4 < ten (σ 53) n p - p then 0 else dvl (fun i => σ 53 (p + i) - 48) (ten (σ 53) n p - p))) ∧ (isL (σ 53) p ≠ 1 → isD (σ 53) p ≠ 1 → σ' 52 4 = (if isG (σ 53 p) = 1 then σ 53 p else 1) ∧ σ' 52 7 = 0))
set_option maxRecDepth 20000 in
set_option maxHeartbeats 2000000 in
theorem sp_X7_advance_37 (d : Nat) (hd : 6 ≤ d) (xs : List (Nat × Nat)) (t dd rr : Nat) (σ : Sg) (n M e : Int) (hr : rr = 53) (h0 : σ 52 0 = n) (hn : 0 ≤ n ∧ n ≤ 1000) (hM : σ 37 1 = M) (hM0 : 0 ≤ M ∧ M ≤ 8) (he : σ 52 6 = e) (he0 : 0 ≤ e ∧ e ≤ n) (hc : ∀ i, 0 ≤ i → i < n → 0 ≤ σ 53 i ∧ σ 53 i ≤ 127)  : ∃ σ', Ev d 227 [(68, 0)] (Wd xs t dd rr σ) (8, 0) (Wd xs t dd rr σ') ∧ ADP σ σ' n M (skp (σ 53) n e) := by
  obtain ⟨d, rfl⟩ : ∃ e, d = e + 1 := ⟨d - 1, by omega⟩
  subst hr
  refine evS (nL := 2) (code := k_X7_advance) rfl dc_X7_advance rfl (fun E hE => ?_)
  show pCm (Ev d) k_X7_advance E 0 [(68, 0), (9, 0)] [] _
  refine R_aload rfl rfl rfl ?_
  have J41 : ∀ p : Int, 0 ≤ p ∧ p ≤ n → skp (σ 53) n e = p → pCm (Ev d) k_X7_advance E 41 [(68, 0), (0, p)] [] (Wd xs t dd 53 σ) := by
    intro p hp hsk
    refine R_aload rfl rfl rfl ?_
    refine R_iload rfl rfl ?_
    refine T_puti rfl rfl rfl ?_
    refine R_aload rfl rfl rfl ?_
    refine R_iload rfl rfl ?_
    refine R_push rfl ?_
    refine R_add rfl (by omega) (by omega) ?_
    refine T_puti rfl rfl rfl ?_
    refine R_aload rfl rfl rfl ?_
    refine R_push rfl ?_
    refine T_puti rfl rfl rfl ?_
    generalize hs1 : up2 (up2 (up2 σ 52 5 p) 52 6 (p + 1)) 52 7 0 = s1
    have F1 : Fr [] [(52, 5), (52, 6), (52, 7)] σ s1 := by rw [← hs1]; exact ((Fr.rf.up rfl).up rfl).up rfl
    have g5 : s1 52 5 = p := by rw [← hs1]; simp [up2]
    have g6 : s1 52 6 = p + 1 := by rw [← hs1]; simp [up2]
    have g7 : s1 52 7 = 0 := by rw [← hs1]; simp [up2]
    have g0 : s1 52 0 = n := by rw [F1.at 52 0 rfl]; exact h0
    have g53 : s1 53 = σ 53 := F1.fn 53 rfl
    have gx : s1 53 p = σ 53 p := F1.row 53 rfl p
    refine R_iload rfl rfl ?_
    refine R_aload rfl rfl rfl ?_
    refine T_geti rfl rfl rfl ?_
    rw [g0]
    refine R_ic rfl (fun h63 => ?_) (fun h63 => ?_)
    · try simp only [ne_eq, b2i_e, b2i_1, Classical.not_not] at h63
      refine R_aload rfl rfl rfl ?_
      refine T_getr (v := 69) rfl rfl rfl rfl ?_
      refine R_iload rfl rfl ?_
      refine T_ald rfl rfl (by omega) (by omega) ?_
      rw [gx]
      refine R_push rfl ?_
      refine R_push rfl ?_
      refine R_inv rfl rfl rfl rfl rfl (sp_X9_within d (by omega) _ _ _ _) rfl ?_
      show pCm _ _ _ 92 _ [(0, _)] _
      refine R_if rfl (fun h92 => ?_) (fun h92 => ?_)
      · try simp only [ne_eq, b2i_e, b2i_1, Classical.not_not] at h92
        refine R_aload rfl rfl rfl ?_
        refine T_getr (v := 69) rfl rfl rfl rfl ?_
        refine R_iload rfl rfl ?_
        refine T_ald rfl rfl (by omega) (by omega) ?_
        rw [gx]
        refine R_push rfl ?_
        refine R_push rfl ?_
        refine R_inv rfl rfl rfl rfl rfl (sp_X9_within d (by omega) _ _ _ _) rfl ?_
        show pCm _ _ _ 128 _ [(0, _)] _
        refine R_if rfl (fun h128 => ?_) (fun h128 => ?_)
        · try simp only [ne_eq, b2i_e, b2i_1, Classical.not_not] at h128
          refine R_aload rfl rfl rfl ?_
          refine R_push rfl ?_
          refine R_aload rfl rfl rfl ?_
          refine T_getr (v := 69) rfl rfl rfl rfl ?_
          refine R_iload rfl rfl ?_
          refine T_ald rfl rfl (by omega) (by omega) ?_
          rw [gx]
          have hcp := hc p hp.1 (by omega)
          have hL : ¬ isL (σ 53) p = 1 := fun w => by
            have w : b2i (97 ≤ σ 53 p ∧ σ 53 p ≤ 122) = 1 := w
            rw [b2i_f (by omega)] at w; omega
          have hDd : ¬ isD (σ 53) p = 1 := fun w => by
            have w : b2i (48 ≤ σ 53 p ∧ σ 53 p ≤ 57) = 1 := w
            rw [b2i_f (by omega)] at w; omega
          have et : ten (σ 53) n p = p + 1 := by unfold ten; rw [if_neg hL, if_neg hDd]
          have hsg := sig_e (x := σ 53 p)
          refine R_invS rfl rfl rfl rfl rfl (by omega) (by omega) (sp_J0_indexOf_0f7a4 d (by omega) (Wd xs t dd 53 s1) 2 (σ 53 p) ⟨by omega, by omega⟩ hcp.1 hcp.2) rfl ?_
          show pCm _ _ _ 163 _ [(0, _), (68, 0)] _
          refine R_if rfl (fun h163 => ?_) (fun h163 => ?_)
          · try simp only [ne_eq, b2i_e, b2i_1, Classical.not_not] at h163
            refine R_push rfl ?_
            refine T_puti rfl rfl rfl ?_
            refine R_vret rfl ?_
            first
            | (refine hE _ _ rfl ⟨Fr.tr (s3 := [(52, 4), (52, 5), (52, 6), (52, 7), (52, 8)]) F2 f3 rfl rfl, by rw [hsk]; exact k5, fun w => absurd w (by omega), fun _ => ?_⟩
               rw [hsk]
               exact ⟨k6, fun _ => ⟨q4, q7, q8⟩, fun w => absurd hL w, fun w => absurd hL w⟩)
            | (refine hE _ _ rfl ⟨Fr.tr (s3 := [(52, 4), (52, 5), (52, 6), (52, 7), (52, 8)]) F2 f3 rfl rfl, by rw [hsk]; exact k5, fun w => absurd w (by omega), fun _ => ?_⟩
               rw [hsk]
               exact ⟨k6, fun w => absurd w hL, fun _ _ => ⟨q4, q7⟩, fun _ w => absurd hDd w⟩)
            | (refine hE _ _ rfl ⟨Fr.tr (s3 := [(52, 4), (52, 5), (52, 6), (52, 7), (52, 8)]) F1 (Fr.rf (rows := []) (sl := [(52, 4)]) |>.up rfl) rfl rfl, by rw [hsk]; simp [up2]; exact g5, fun w => absurd w (by omega), fun _ => ?_⟩
               rw [hsk]
               refine ⟨by rw [et]; simp [up2]; exact g6, fun w => absurd w hL, fun _ w => absurd w hDd, fun _ _ => ⟨?_, by simp [up2]; exact g7⟩⟩
               rw [up_s]
               first
               | rw [if_pos (hsg.mp (by omega))]
               | rw [if_neg (fun w => absurd (hsg.mpr w) (by omega))])
            | (refine hE _ _ rfl ⟨Fr.tr (s3 := [(52, 4), (52, 5), (52, 6), (52, 7), (52, 8)]) F1 ((Fr.rf (rows := []) (sl := [(52, 4), (52, 6)]) |>.up rfl).up rfl) rfl rfl, by rw [hsk]; simp [up2]; exact g5, fun _ => ⟨by simp [up2], by simp [up2]; exact g7⟩, fun w => absurd w (by omega)⟩)
          · try simp only [ne_eq, b2i_e, b2i_1, Classical.not_not] at h163
            refine R_aload rfl rfl rfl ?_
            refine T_getr (v := 69) rfl rfl rfl rfl ?_
            refine R_iload rfl rfl ?_
            refine T_ald rfl rfl (by omega) (by omega) ?_
            rw [gx]
            refine R_goto rfl ?_
            refine T_puti rfl rfl rfl ?_
            refine R_vret rfl ?_
            first
            | (refine hE _ _ rfl ⟨Fr.tr (s3 := [(52, 4), (52, 5), (52, 6), (52, 7), (52, 8)]) F2 f3 rfl rfl, by rw [hsk]; exact k5, fun w => absurd w (by omega), fun _ => ?_⟩
               rw [hsk]
               exact ⟨k6, fun _ => ⟨q4, q7, q8⟩, fun w => absurd hL w, fun w => absurd hL w⟩)
            | (refine hE _ _ rfl ⟨Fr.tr (s3 := [(52, 4), (52, 5), (52, 6), (52, 7), (52, 8)]) F2 f3 rfl rfl, by rw [hsk]; exact k5, fun w => absurd w (by omega), fun _ => ?_⟩
               rw [hsk]
               exact ⟨k6, fun w => absurd w hL, fun _ _ => ⟨q4, q7⟩, fun _ w => absurd hDd w⟩)
            | (refine hE _ _ rfl ⟨Fr.tr (s3 := [(52, 4), (52, 5), (52, 6), (52, 7), (52, 8)]) F1 (Fr.rf (rows := []) (sl := [(52, 4)]) |>.up rfl) rfl rfl, by rw [hsk]; simp [up2]; exact g5, fun w => absurd w (by omega), fun _ => ?_⟩
               rw [hsk]
               refine ⟨by rw [et]; simp [up2]; exact g6, fun w => absurd w hL, fun _ w => absurd w hDd, fun _ _ => ⟨?_, by simp [up2]; exact g7⟩⟩
               rw [up_s]
               first
               | rw [if_pos (hsg.mp (by omega))]
               | rw [if_neg (fun w => absurd (hsg.mpr w) (by omega))])
            | (refine hE _ _ rfl ⟨Fr.tr (s3 := [(52, 4), (52, 5), (52, 6), (52, 7), (52, 8)]) F1 ((Fr.rf (rows := []) (sl := [(52, 4), (52, 6)]) |>.up rfl).up rfl) rfl rfl, by rw [hsk]; simp [up2]; exact g5, fun _ => ⟨by simp [up2], by simp [up2]; exact g7⟩, fun w => absurd w (by omega)⟩)
        · try simp only [ne_eq, b2i_e, b2i_1, Classical.not_not] at h128
          refine R_aload rfl rfl rfl ?_
          refine R_aload rfl rfl rfl ?_
          refine R_iload rfl rfl ?_
          refine R_push rfl ?_
          refine R_push rfl ?_
          have hrn := sp_X7_runEnd d (by omega) xs t dd 53 s1 p 48 57 n g0 hn hp
          rw [g53] at hrn
          have hrn : Ev d 228 [(68, 0), (0, p), (0, 48), (0, 57)] (Wd xs t dd 53 s1) (0, RN (isD (σ 53)) n p) (Wd xs t dd 53 s1) := hrn
          refine R_invv rfl rfl rfl rfl rfl rfl (hrn) rfl ?_
          show pCm _ _ _ 141 _ [(0, _), (68, 0)] _
          refine T_puti rfl rfl rfl ?_
          refine R_aload rfl rfl rfl ?_
          have hL : ¬ isL (σ 53) p = 1 := fun w => by
            have w : b2i (97 ≤ σ 53 p ∧ σ 53 p ≤ 122) = 1 := w
            rw [b2i_f (by omega)] at w; omega
          have hDd : isD (σ 53) p = 1 := b2i_t (by omega)
          have et : ten (σ 53) n p = RN (isD (σ 53)) n p := by unfold ten; rw [if_neg hL, if_pos hDd]
          have hrk := RN_ok (p := isD (σ 53)) (n := n) (n - p).toNat p (by omega)
          have htk := ten_ok (c := σ 53) (n := n) (p := p) (by omega)
          rw [← et] at hrk ⊢
          generalize hs2 : up2 s1 52 6 (ten (σ 53) n p) = s2
          have F2 : Fr [] [(52, 5), (52, 6), (52, 7)] σ s2 := by rw [← hs2]; exact F1.up rfl
          obtain ⟨s3, hev3, f3, q4, q7⟩ := sp_X7_takeNumber d (by omega) xs t dd 53 s2 p (ten (σ 53) n p) (by rw [← hs2]; simp [up2]; exact g5) (by rw [← hs2]; simp [up2]) (by omega) (by rw [← hs2]; simp [up2]; exact g7) (fun i i0 i1 => by
            have hq := hrk.2.2.1 (p + i) (by omega) (by omega)
            rw [F2.row 53 rfl]
            unfold isD b2i at hq
            split at hq
            · assumption
            · omega)
          rw [F2.fn 53 rfl] at q7
          have k6 : s3 52 6 = ten (σ 53) n p := by rw [f3.at 52 6 rfl, ← hs2]; simp [up2]
          have k5 : s3 52 5 = p := by rw [f3.at 52 5 rfl, ← hs2]; simp [up2]; exact g5
          refine R_invv rfl rfl rfl rfl rfl rfl (hev3) rfl ?_
          show pCm _ _ _ 148 _ [] _
          refine R_goto rfl ?_
          refine R_vret rfl ?_
          first
          | (refine hE _ _ rfl ⟨Fr.tr (s3 := [(52, 4), (52, 5), (52, 6), (52, 7), (52, 8)]) F2 f3 rfl rfl, by rw [hsk]; exact k5, fun w => absurd w (by omega), fun _ => ?_⟩
             rw [hsk]
             exact ⟨k6, fun _ => ⟨q4, q7, q8⟩, fun w => absurd hL w, fun w => absurd hL w⟩)
          | (refine hE _ _ rfl ⟨Fr.tr (s3 := [(52, 4), (52, 5), (52, 6), (52, 7), (52, 8)]) F2 f3 rfl rfl, by rw [hsk]; exact k5, fun w => absurd w (by omega), fun _ => ?_⟩
             rw [hsk]
             exact ⟨k6, fun w => absurd w hL, fun _ _ => ⟨q4, q7⟩, fun _ w => absurd hDd w⟩)
          | (refine hE _ _ rfl ⟨Fr.tr (s3 := [(52, 4), (52, 5), (52, 6), (52, 7), (52, 8)]) F1 (Fr.rf (rows := []) (sl := [(52, 4)]) |>.up rfl) rfl rfl, by rw [hsk]; simp [up2]; exact g5, fun w => absurd w (by omega), fun _ => ?_⟩
             rw [hsk]
             refine ⟨by rw [et]; simp [up2]; exact g6, fun w => absurd w hL, fun _ w => absurd w hDd, fun _ _ => ⟨?_, by simp [up2]; exact g7⟩⟩
             rw [up_s]
             first
             | rw [if_pos (hsg.mp (by omega))]
             | rw [if_neg (fun w => absurd (hsg.mpr w) (by omega))])
          | (refine hE _ _ rfl ⟨Fr.tr (s3 := [(52, 4), (52, 5), (52, 6), (52, 7), (52, 8)]) F1 ((Fr.rf (rows := []) (sl := [(52, 4), (52, 6)]) |>.up rfl).up rfl) rfl rfl, by rw [hsk]; simp [up2]; exact g5, fun _ => ⟨by simp [up2], by simp [up2]; exact g7⟩, fun w => absurd w (by omega)⟩)
      · try simp only [ne_eq, b2i_e, b2i_1, Classical.not_not] at h92
        refine R_aload rfl rfl rfl ?_
        refine R_aload rfl rfl rfl ?_
        refine R_iload rfl rfl ?_
        refine R_push rfl ?_
        refine R_push rfl ?_
        have hrn := sp_X7_runEnd d (by omega) xs t dd 53 s1 p 97 122 n g0 hn hp
        rw [g53] at hrn
        have hrn : Ev d 228 [(68, 0), (0, p), (0, 97), (0, 122)] (Wd xs t dd 53 s1) (0, RN (isL (σ 53)) n p) (Wd xs t dd 53 s1) := hrn
        refine R_invv rfl rfl rfl rfl rfl rfl (hrn) rfl ?_
        show pCm _ _ _ 105 _ [(0, _), (68, 0)] _
        refine T_puti rfl rfl rfl ?_
        refine R_aload rfl rfl rfl ?_
        have hL : isL (σ 53) p = 1 := b2i_t (by omega)
        have et : ten (σ 53) n p = RN (isL (σ 53)) n p := by unfold ten; rw [if_pos hL]
        have hrk := RN_ok (p := isL (σ 53)) (n := n) (n - p).toNat p (by omega)
        have htk := ten_ok (c := σ 53) (n := n) (p := p) (by omega)
        rw [← et] at hrk ⊢
        generalize hs2 : up2 s1 52 6 (ten (σ 53) n p) = s2
        have F2 : Fr [] [(52, 5), (52, 6), (52, 7)] σ s2 := by rw [← hs2]; exact F1.up rfl
        obtain ⟨s3, hev3, f3, q4, q7, q8⟩ := sp_X7_takeWord_37 d (by omega) xs t dd 53 s2 p (ten (σ 53) n p) M rfl (by rw [F2.at 37 1 rfl]; exact hM) hM0 (by rw [← hs2]; simp [up2]; exact g5) (by rw [← hs2]; simp [up2]) (by omega) (by rw [← hs2]; simp [up2]; exact g7) (fun i i0 i1 => by
          have hq := hrk.2.2.1 (p + i) (by omega) (by omega)
          rw [F2.row 53 rfl]
          unfold isL b2i at hq
          split at hq
          · assumption
          · omega)
        rw [F2.fn 53 rfl, F2.fn 54 rfl, F2.fn 55 rfl, F2.fn 56 rfl] at q4 q7
        rw [F2.fn 53 rfl] at q8
        have k6 : s3 52 6 = ten (σ 53) n p := by rw [f3.at 52 6 rfl, ← hs2]; simp [up2]
        have k5 : s3 52 5 = p := by rw [f3.at 52 5 rfl, ← hs2]; simp [up2]; exact g5
        refine R_invv rfl rfl rfl rfl rfl rfl (hev3) rfl ?_
        show pCm _ _ _ 112 _ [] _
        refine R_goto rfl ?_
        refine R_vret rfl ?_
        first
        | (refine hE _ _ rfl ⟨Fr.tr (s3 := [(52, 4), (52, 5), (52, 6), (52, 7), (52, 8)]) F2 f3 rfl rfl, by rw [hsk]; exact k5, fun w => absurd w (by omega), fun _ => ?_⟩
           rw [hsk]
           exact ⟨k6, fun _ => ⟨q4, q7, q8⟩, fun w => absurd hL w, fun w => absurd hL w⟩)
        | (refine hE _ _ rfl ⟨Fr.tr (s3 := [(52, 4), (52, 5), (52, 6), (52, 7), (52, 8)]) F2 f3 rfl rfl, by rw [hsk]; exact k5, fun w => absurd w (by omega), fun _ => ?_⟩
           rw [hsk]
           exact ⟨k6, fun w => absurd w hL, fun _ _ => ⟨q4, q7⟩, fun _ w => absurd hDd w⟩)
        | (refine hE _ _ rfl ⟨Fr.tr (s3 := [(52, 4), (52, 5), (52, 6), (52, 7), (52, 8)]) F1 (Fr.rf (rows := []) (sl := [(52, 4)]) |>.up rfl) rfl rfl, by rw [hsk]; simp [up2]; exact g5, fun w => absurd w (by omega), fun _ => ?_⟩
           rw [hsk]
           refine ⟨by rw [et]; simp [up2]; exact g6, fun w => absurd w hL, fun _ w => absurd w hDd, fun _ _ => ⟨?_, by simp [up2]; exact g7⟩⟩
           rw [up_s]
           first
           | rw [if_pos (hsg.mp (by omega))]
           | rw [if_neg (fun w => absurd (hsg.mpr w) (by omega))])
        | (refine hE _ _ rfl ⟨Fr.tr (s3 := [(52, 4), (52, 5), (52, 6), (52, 7), (52, 8)]) F1 ((Fr.rf (rows := []) (sl := [(52, 4), (52, 6)]) |>.up rfl).up rfl) rfl rfl, by rw [hsk]; simp [up2]; exact g5, fun _ => ⟨by simp [up2], by simp [up2]; exact g7⟩, fun w => absurd w (by omega)⟩)
    · try simp only [ne_eq, b2i_e, b2i_1, Classical.not_not] at h63
      refine R_aload rfl rfl rfl ?_
      refine R_push rfl ?_
      refine T_puti rfl rfl rfl ?_
      refine R_aload rfl rfl rfl ?_
      refine R_iload rfl rfl ?_
      refine T_puti rfl rfl rfl ?_
      refine R_goto rfl ?_
      refine R_vret rfl ?_
      first
      | (refine hE _ _ rfl ⟨Fr.tr (s3 := [(52, 4), (52, 5), (52, 6), (52, 7), (52, 8)]) F2 f3 rfl rfl, by rw [hsk]; exact k5, fun w => absurd w (by omega), fun _ => ?_⟩
         rw [hsk]
         exact ⟨k6, fun _ => ⟨q4, q7, q8⟩, fun w => absurd hL w, fun w => absurd hL w⟩)
      | (refine hE _ _ rfl ⟨Fr.tr (s3 := [(52, 4), (52, 5), (52, 6), (52, 7), (52, 8)]) F2 f3 rfl rfl, by rw [hsk]; exact k5, fun w => absurd w (by omega), fun _ => ?_⟩
         rw [hsk]
         exact ⟨k6, fun w => absurd w hL, fun _ _ => ⟨q4, q7⟩, fun _ w => absurd hDd w⟩)
      | (refine hE _ _ rfl ⟨Fr.tr (s3 := [(52, 4), (52, 5), (52, 6), (52, 7), (52, 8)]) F1 (Fr.rf (rows := []) (sl := [(52, 4)]) |>.up rfl) rfl rfl, by rw [hsk]; simp [up2]; exact g5, fun w => absurd w (by omega), fun _ => ?_⟩
         rw [hsk]
         refine ⟨by rw [et]; simp [up2]; exact g6, fun w => absurd w hL, fun _ w => absurd w hDd, fun _ _ => ⟨?_, by simp [up2]; exact g7⟩⟩
         rw [up_s]
         first
         | rw [if_pos (hsg.mp (by omega))]
         | rw [if_neg (fun w => absurd (hsg.mpr w) (by omega))])
      | (refine hE _ _ rfl ⟨Fr.tr (s3 := [(52, 4), (52, 5), (52, 6), (52, 7), (52, 8)]) F1 ((Fr.rf (rows := []) (sl := [(52, 4), (52, 6)]) |>.up rfl).up rfl) rfl rfl, by rw [hsk]; simp [up2]; exact g5, fun _ => ⟨by simp [up2], by simp [up2]; exact g7⟩, fun w => absurd w (by omega)⟩)
  refine T_geti rfl rfl rfl ?_
  rw [he]
  refine R_istore rfl rfl ?_
  show pCm _ _ _ _ [_, _] _ _
  refine loop (pc := 5) (α := Int) (fun x => (n - x).toNat) (fun x => ([(68, 0), (0, x)], Wd xs t dd 53 σ)) (fun x => (e ≤ x ∧ x ≤ n) ∧ skp (σ 53) n x = skp (σ 53) n e) ?_ e ?_
  · intro x ⟨hx, hs⟩ ih
    dsimp only at hx hs ⊢
    refine R_iload rfl rfl ?_
    refine R_aload rfl rfl rfl ?_
    refine T_geti rfl rfl rfl ?_
    rw [h0]
    refine R_ic rfl (fun h10 => ?_) (fun h10 => ?_)
    · try simp only [ne_eq, b2i_e, b2i_1, Classical.not_not] at h10
      refine J41 x (by omega) ?_
      rw [← hs]
      refine RN_e (fun w => ?_)
      have w2 : b2i (σ 53 x = 10 ∨ σ 53 x = 32) = 1 := w.2
      rw [b2i_f (by omega)] at w2
      omega
    · try simp only [ne_eq, b2i_e, b2i_1, Classical.not_not] at h10
      refine R_aload rfl rfl rfl ?_
      refine T_getr (v := 69) rfl rfl rfl rfl ?_
      refine R_iload rfl rfl ?_
      refine T_ald rfl rfl (by omega) (by omega) ?_
      refine R_push rfl ?_
      refine R_ic rfl (fun h21 => ?_) (fun h21 => ?_)
      · try simp only [ne_eq, b2i_e, b2i_1, Classical.not_not] at h21
        refine R_inc rfl rfl (by omega) (by omega) ?_
        show pCm _ _ _ _ [_, _] _ _
        refine R_goto rfl ?_
        have hb1 : isB (σ 53) x = 1 := b2i_t (by omega)
        exact ih (x + 1) ⟨by omega, by rw [← hs]; exact (RN_s (p := isB (σ 53)) (n := n) (k := x) (by omega) hb1).symm⟩ (by omega)
      · try simp only [ne_eq, b2i_e, b2i_1, Classical.not_not] at h21
        refine R_aload rfl rfl rfl ?_
        refine T_getr (v := 69) rfl rfl rfl rfl ?_
        refine R_iload rfl rfl ?_
        refine T_ald rfl rfl (by omega) (by omega) ?_
        refine R_push rfl ?_
        refine R_ic rfl (fun h32 => ?_) (fun h32 => ?_)
        · try simp only [ne_eq, b2i_e, b2i_1, Classical.not_not] at h32
          refine J41 x (by omega) ?_
          rw [← hs]
          refine RN_e (fun w => ?_)
          have w2 : b2i (σ 53 x = 10 ∨ σ 53 x = 32) = 1 := w.2
          rw [b2i_f (by omega)] at w2
          omega
        · try simp only [ne_eq, b2i_e, b2i_1, Classical.not_not] at h32
          refine R_inc rfl rfl (by omega) (by omega) ?_
          show pCm _ _ _ _ [_, _] _ _
          refine R_goto rfl ?_
          have hb1 : isB (σ 53) x = 1 := b2i_t (by omega)
          exact ih (x + 1) ⟨by omega, by rw [← hs]; exact (RN_s (p := isB (σ 53)) (n := n) (k := x) (by omega) hb1).symm⟩ (by omega)
  · exact ⟨⟨Int.le_refl _, he0.2⟩, rfl⟩
set_option maxRecDepth 20000 in
set_option maxHeartbeats 2000000 in
theorem sp_X7_advance_44 (d : Nat) (hd : 6 ≤ d) (xs : List (Nat × Nat)) (t dd rr : Nat) (σ : Sg) (n M e : Int) (hr : rr = 60) (h0 : σ 52 0 = n) (hn : 0 ≤ n ∧ n ≤ 1000) (hM : σ 44 1 = M) (hM0 : 0 ≤ M ∧ M ≤ 8) (he : σ 52 6 = e) (he0 : 0 ≤ e ∧ e ≤ n) (hc : ∀ i, 0 ≤ i → i < n → 0 ≤ σ 53 i ∧ σ 53 i ≤ 127)  : ∃ σ', Ev d 227 [(68, 0)] (Wd xs t dd rr σ) (8, 0) (Wd xs t dd rr σ') ∧ ADP σ σ' n M (skp (σ 53) n e) := by
  obtain ⟨d, rfl⟩ : ∃ e, d = e + 1 := ⟨d - 1, by omega⟩
  subst hr
  refine evS (nL := 2) (code := k_X7_advance) rfl dc_X7_advance rfl (fun E hE => ?_)
  show pCm (Ev d) k_X7_advance E 0 [(68, 0), (9, 0)] [] _
  refine R_aload rfl rfl rfl ?_
  have J41 : ∀ p : Int, 0 ≤ p ∧ p ≤ n → skp (σ 53) n e = p → pCm (Ev d) k_X7_advance E 41 [(68, 0), (0, p)] [] (Wd xs t dd 60 σ) := by
    intro p hp hsk
    refine R_aload rfl rfl rfl ?_
    refine R_iload rfl rfl ?_
    refine T_puti rfl rfl rfl ?_
    refine R_aload rfl rfl rfl ?_
    refine R_iload rfl rfl ?_
    refine R_push rfl ?_
    refine R_add rfl (by omega) (by omega) ?_
    refine T_puti rfl rfl rfl ?_
    refine R_aload rfl rfl rfl ?_
    refine R_push rfl ?_
    refine T_puti rfl rfl rfl ?_
    generalize hs1 : up2 (up2 (up2 σ 52 5 p) 52 6 (p + 1)) 52 7 0 = s1
    have F1 : Fr [] [(52, 5), (52, 6), (52, 7)] σ s1 := by rw [← hs1]; exact ((Fr.rf.up rfl).up rfl).up rfl
    have g5 : s1 52 5 = p := by rw [← hs1]; simp [up2]
    have g6 : s1 52 6 = p + 1 := by rw [← hs1]; simp [up2]
    have g7 : s1 52 7 = 0 := by rw [← hs1]; simp [up2]
    have g0 : s1 52 0 = n := by rw [F1.at 52 0 rfl]; exact h0
    have g53 : s1 53 = σ 53 := F1.fn 53 rfl
    have gx : s1 53 p = σ 53 p := F1.row 53 rfl p
    refine R_iload rfl rfl ?_
    refine R_aload rfl rfl rfl ?_
    refine T_geti rfl rfl rfl ?_
    rw [g0]
    refine R_ic rfl (fun h63 => ?_) (fun h63 => ?_)
    · try simp only [ne_eq, b2i_e, b2i_1, Classical.not_not] at h63
      refine R_aload rfl rfl rfl ?_
      refine T_getr (v := 69) rfl rfl rfl rfl ?_
      refine R_iload rfl rfl ?_
      refine T_ald rfl rfl (by omega) (by omega) ?_
      rw [gx]
      refine R_push rfl ?_
      refine R_push rfl ?_
      refine R_inv rfl rfl rfl rfl rfl (sp_X9_within d (by omega) _ _ _ _) rfl ?_
      show pCm _ _ _ 92 _ [(0, _)] _
      refine R_if rfl (fun h92 => ?_) (fun h92 => ?_)
      · try simp only [ne_eq, b2i_e, b2i_1, Classical.not_not] at h92
        refine R_aload rfl rfl rfl ?_
        refine T_getr (v := 69) rfl rfl rfl rfl ?_
        refine R_iload rfl rfl ?_
        refine T_ald rfl rfl (by omega) (by omega) ?_
        rw [gx]
        refine R_push rfl ?_
        refine R_push rfl ?_
        refine R_inv rfl rfl rfl rfl rfl (sp_X9_within d (by omega) _ _ _ _) rfl ?_
        show pCm _ _ _ 128 _ [(0, _)] _
        refine R_if rfl (fun h128 => ?_) (fun h128 => ?_)
        · try simp only [ne_eq, b2i_e, b2i_1, Classical.not_not] at h128
          refine R_aload rfl rfl rfl ?_
          refine R_push rfl ?_
          refine R_aload rfl rfl rfl ?_
          refine T_getr (v := 69) rfl rfl rfl rfl ?_
          refine R_iload rfl rfl ?_
          refine T_ald rfl rfl (by omega) (by omega) ?_
          rw [gx]
          have hcp := hc p hp.1 (by omega)
          have hL : ¬ isL (σ 53) p = 1 := fun w => by
            have w : b2i (97 ≤ σ 53 p ∧ σ 53 p ≤ 122) = 1 := w
            rw [b2i_f (by omega)] at w; omega
          have hDd : ¬ isD (σ 53) p = 1 := fun w => by
            have w : b2i (48 ≤ σ 53 p ∧ σ 53 p ≤ 57) = 1 := w
            rw [b2i_f (by omega)] at w; omega
          have et : ten (σ 53) n p = p + 1 := by unfold ten; rw [if_neg hL, if_neg hDd]
          have hsg := sig_e (x := σ 53 p)
          refine R_invS rfl rfl rfl rfl rfl (by omega) (by omega) (sp_J0_indexOf_0f7a4 d (by omega) (Wd xs t dd 60 s1) 2 (σ 53 p) ⟨by omega, by omega⟩ hcp.1 hcp.2) rfl ?_
          show pCm _ _ _ 163 _ [(0, _), (68, 0)] _
          refine R_if rfl (fun h163 => ?_) (fun h163 => ?_)
          · try simp only [ne_eq, b2i_e, b2i_1, Classical.not_not] at h163
            refine R_push rfl ?_
            refine T_puti rfl rfl rfl ?_
            refine R_vret rfl ?_
            first
            | (refine hE _ _ rfl ⟨Fr.tr (s3 := [(52, 4), (52, 5), (52, 6), (52, 7), (52, 8)]) F2 f3 rfl rfl, by rw [hsk]; exact k5, fun w => absurd w (by omega), fun _ => ?_⟩
               rw [hsk]
               exact ⟨k6, fun _ => ⟨q4, q7, q8⟩, fun w => absurd hL w, fun w => absurd hL w⟩)
            | (refine hE _ _ rfl ⟨Fr.tr (s3 := [(52, 4), (52, 5), (52, 6), (52, 7), (52, 8)]) F2 f3 rfl rfl, by rw [hsk]; exact k5, fun w => absurd w (by omega), fun _ => ?_⟩
               rw [hsk]
               exact ⟨k6, fun w => absurd w hL, fun _ _ => ⟨q4, q7⟩, fun _ w => absurd hDd w⟩)
            | (refine hE _ _ rfl ⟨Fr.tr (s3 := [(52, 4), (52, 5), (52, 6), (52, 7), (52, 8)]) F1 (Fr.rf (rows := []) (sl := [(52, 4)]) |>.up rfl) rfl rfl, by rw [hsk]; simp [up2]; exact g5, fun w => absurd w (by omega), fun _ => ?_⟩
               rw [hsk]
               refine ⟨by rw [et]; simp [up2]; exact g6, fun w => absurd w hL, fun _ w => absurd w hDd, fun _ _ => ⟨?_, by simp [up2]; exact g7⟩⟩
               rw [up_s]
               first
               | rw [if_pos (hsg.mp (by omega))]
               | rw [if_neg (fun w => absurd (hsg.mpr w) (by omega))])
            | (refine hE _ _ rfl ⟨Fr.tr (s3 := [(52, 4), (52, 5), (52, 6), (52, 7), (52, 8)]) F1 ((Fr.rf (rows := []) (sl := [(52, 4), (52, 6)]) |>.up rfl).up rfl) rfl rfl, by rw [hsk]; simp [up2]; exact g5, fun _ => ⟨by simp [up2], by simp [up2]; exact g7⟩, fun w => absurd w (by omega)⟩)
          · try simp only [ne_eq, b2i_e, b2i_1, Classical.not_not] at h163
            refine R_aload rfl rfl rfl ?_
            refine T_getr (v := 69) rfl rfl rfl rfl ?_
            refine R_iload rfl rfl ?_
            refine T_ald rfl rfl (by omega) (by omega) ?_
            rw [gx]
            refine R_goto rfl ?_
            refine T_puti rfl rfl rfl ?_
            refine R_vret rfl ?_
            first
            | (refine hE _ _ rfl ⟨Fr.tr (s3 := [(52, 4), (52, 5), (52, 6), (52, 7), (52, 8)]) F2 f3 rfl rfl, by rw [hsk]; exact k5, fun w => absurd w (by omega), fun _ => ?_⟩
               rw [hsk]
               exact ⟨k6, fun _ => ⟨q4, q7, q8⟩, fun w => absurd hL w, fun w => absurd hL w⟩)
            | (refine hE _ _ rfl ⟨Fr.tr (s3 := [(52, 4), (52, 5), (52, 6), (52, 7), (52, 8)]) F2 f3 rfl rfl, by rw [hsk]; exact k5, fun w => absurd w (by omega), fun _ => ?_⟩
               rw [hsk]
               exact ⟨k6, fun w => absurd w hL, fun _ _ => ⟨q4, q7⟩, fun _ w => absurd hDd w⟩)
            | (refine hE _ _ rfl ⟨Fr.tr (s3 := [(52, 4), (52, 5), (52, 6), (52, 7), (52, 8)]) F1 (Fr.rf (rows := []) (sl := [(52, 4)]) |>.up rfl) rfl rfl, by rw [hsk]; simp [up2]; exact g5, fun w => absurd w (by omega), fun _ => ?_⟩
               rw [hsk]
               refine ⟨by rw [et]; simp [up2]; exact g6, fun w => absurd w hL, fun _ w => absurd w hDd, fun _ _ => ⟨?_, by simp [up2]; exact g7⟩⟩
               rw [up_s]
               first
               | rw [if_pos (hsg.mp (by omega))]
               | rw [if_neg (fun w => absurd (hsg.mpr w) (by omega))])
            | (refine hE _ _ rfl ⟨Fr.tr (s3 := [(52, 4), (52, 5), (52, 6), (52, 7), (52, 8)]) F1 ((Fr.rf (rows := []) (sl := [(52, 4), (52, 6)]) |>.up rfl).up rfl) rfl rfl, by rw [hsk]; simp [up2]; exact g5, fun _ => ⟨by simp [up2], by simp [up2]; exact g7⟩, fun w => absurd w (by omega)⟩)
        · try simp only [ne_eq, b2i_e, b2i_1, Classical.not_not] at h128
          refine R_aload rfl rfl rfl ?_
          refine R_aload rfl rfl rfl ?_
          refine R_iload rfl rfl ?_
          refine R_push rfl ?_
          refine R_push rfl ?_
          have hrn := sp_X7_runEnd d (by omega) xs t dd 60 s1 p 48 57 n g0 hn hp
          rw [g53] at hrn
          have hrn : Ev d 228 [(68, 0), (0, p), (0, 48), (0, 57)] (Wd xs t dd 60 s1) (0, RN (isD (σ 53)) n p) (Wd xs t dd 60 s1) := hrn
          refine R_invv rfl rfl rfl rfl rfl rfl (hrn) rfl ?_
          show pCm _ _ _ 141 _ [(0, _), (68, 0)] _
          refine T_puti rfl rfl rfl ?_
          refine R_aload rfl rfl rfl ?_
          have hL : ¬ isL (σ 53) p = 1 := fun w => by
            have w : b2i (97 ≤ σ 53 p ∧ σ 53 p ≤ 122) = 1 := w
            rw [b2i_f (by omega)] at w; omega
          have hDd : isD (σ 53) p = 1 := b2i_t (by omega)
          have et : ten (σ 53) n p = RN (isD (σ 53)) n p := by unfold ten; rw [if_neg hL, if_pos hDd]
          have hrk := RN_ok (p := isD (σ 53)) (n := n) (n - p).toNat p (by omega)
          have htk := ten_ok (c := σ 53) (n := n) (p := p) (by omega)
          rw [← et] at hrk ⊢
          generalize hs2 : up2 s1 52 6 (ten (σ 53) n p) = s2
          have F2 : Fr [] [(52, 5), (52, 6), (52, 7)] σ s2 := by rw [← hs2]; exact F1.up rfl
          obtain ⟨s3, hev3, f3, q4, q7⟩ := sp_X7_takeNumber d (by omega) xs t dd 60 s2 p (ten (σ 53) n p) (by rw [← hs2]; simp [up2]; exact g5) (by rw [← hs2]; simp [up2]) (by omega) (by rw [← hs2]; simp [up2]; exact g7) (fun i i0 i1 => by
            have hq := hrk.2.2.1 (p + i) (by omega) (by omega)
            rw [F2.row 53 rfl]
            unfold isD b2i at hq
            split at hq
            · assumption
            · omega)
          rw [F2.fn 53 rfl] at q7
          have k6 : s3 52 6 = ten (σ 53) n p := by rw [f3.at 52 6 rfl, ← hs2]; simp [up2]
          have k5 : s3 52 5 = p := by rw [f3.at 52 5 rfl, ← hs2]; simp [up2]; exact g5
          refine R_invv rfl rfl rfl rfl rfl rfl (hev3) rfl ?_
          show pCm _ _ _ 148 _ [] _
          refine R_goto rfl ?_
          refine R_vret rfl ?_
          first
          | (refine hE _ _ rfl ⟨Fr.tr (s3 := [(52, 4), (52, 5), (52, 6), (52, 7), (52, 8)]) F2 f3 rfl rfl, by rw [hsk]; exact k5, fun w => absurd w (by omega), fun _ => ?_⟩
             rw [hsk]
             exact ⟨k6, fun _ => ⟨q4, q7, q8⟩, fun w => absurd hL w, fun w => absurd hL w⟩)
          | (refine hE _ _ rfl ⟨Fr.tr (s3 := [(52, 4), (52, 5), (52, 6), (52, 7), (52, 8)]) F2 f3 rfl rfl, by rw [hsk]; exact k5, fun w => absurd w (by omega), fun _ => ?_⟩
             rw [hsk]
             exact ⟨k6, fun w => absurd w hL, fun _ _ => ⟨q4, q7⟩, fun _ w => absurd hDd w⟩)
          | (refine hE _ _ rfl ⟨Fr.tr (s3 := [(52, 4), (52, 5), (52, 6), (52, 7), (52, 8)]) F1 (Fr.rf (rows := []) (sl := [(52, 4)]) |>.up rfl) rfl rfl, by rw [hsk]; simp [up2]; exact g5, fun w => absurd w (by omega), fun _ => ?_⟩
             rw [hsk]
             refine ⟨by rw [et]; simp [up2]; exact g6, fun w => absurd w hL, fun _ w => absurd w hDd, fun _ _ => ⟨?_, by simp [up2]; exact g7⟩⟩
             rw [up_s]
             first
             | rw [if_pos (hsg.mp (by omega))]
             | rw [if_neg (fun w => absurd (hsg.mpr w) (by omega))])
          | (refine hE _ _ rfl ⟨Fr.tr (s3 := [(52, 4), (52, 5), (52, 6), (52, 7), (52, 8)]) F1 ((Fr.rf (rows := []) (sl := [(52, 4), (52, 6)]) |>.up rfl).up rfl) rfl rfl, by rw [hsk]; simp [up2]; exact g5, fun _ => ⟨by simp [up2], by simp [up2]; exact g7⟩, fun w => absurd w (by omega)⟩)
      · try simp only [ne_eq, b2i_e, b2i_1, Classical.not_not] at h92
        refine R_aload rfl rfl rfl ?_
        refine R_aload rfl rfl rfl ?_
        refine R_iload rfl rfl ?_
        refine R_push rfl ?_
        refine R_push rfl ?_
        have hrn := sp_X7_runEnd d (by omega) xs t dd 60 s1 p 97 122 n g0 hn hp
        rw [g53] at hrn
        have hrn : Ev d 228 [(68, 0), (0, p), (0, 97), (0, 122)] (Wd xs t dd 60 s1) (0, RN (isL (σ 53)) n p) (Wd xs t dd 60 s1) := hrn
        refine R_invv rfl rfl rfl rfl rfl rfl (hrn) rfl ?_
        show pCm _ _ _ 105 _ [(0, _), (68, 0)] _
        refine T_puti rfl rfl rfl ?_
        refine R_aload rfl rfl rfl ?_
        have hL : isL (σ 53) p = 1 := b2i_t (by omega)
        have et : ten (σ 53) n p = RN (isL (σ 53)) n p := by unfold ten; rw [if_pos hL]
        have hrk := RN_ok (p := isL (σ 53)) (n := n) (n - p).toNat p (by omega)
        have htk := ten_ok (c := σ 53) (n := n) (p := p) (by omega)
        rw [← et] at hrk ⊢
        generalize hs2 : up2 s1 52 6 (ten (σ 53) n p) = s2
        have F2 : Fr [] [(52, 5), (52, 6), (52, 7)] σ s2 := by rw [← hs2]; exact F1.up rfl
        obtain ⟨s3, hev3, f3, q4, q7, q8⟩ := sp_X7_takeWord_44 d (by omega) xs t dd 60 s2 p (ten (σ 53) n p) M rfl (by rw [F2.at 44 1 rfl]; exact hM) hM0 (by rw [← hs2]; simp [up2]; exact g5) (by rw [← hs2]; simp [up2]) (by omega) (by rw [← hs2]; simp [up2]; exact g7) (fun i i0 i1 => by
          have hq := hrk.2.2.1 (p + i) (by omega) (by omega)
          rw [F2.row 53 rfl]
          unfold isL b2i at hq
          split at hq
          · assumption
          · omega)
        rw [F2.fn 53 rfl, F2.fn 54 rfl, F2.fn 55 rfl, F2.fn 56 rfl] at q4 q7
        rw [F2.fn 53 rfl] at q8
        have k6 : s3 52 6 = ten (σ 53) n p := by rw [f3.at 52 6 rfl, ← hs2]; simp [up2]
        have k5 : s3 52 5 = p := by rw [f3.at 52 5 rfl, ← hs2]; simp [up2]; exact g5
        refine R_invv rfl rfl rfl rfl rfl rfl (hev3) rfl ?_
        show pCm _ _ _ 112 _ [] _
        refine R_goto rfl ?_
        refine R_vret rfl ?_
        first
        | (refine hE _ _ rfl ⟨Fr.tr (s3 := [(52, 4), (52, 5), (52, 6), (52, 7), (52, 8)]) F2 f3 rfl rfl, by rw [hsk]; exact k5, fun w => absurd w (by omega), fun _ => ?_⟩
           rw [hsk]
           exact ⟨k6, fun _ => ⟨q4, q7, q8⟩, fun w => absurd hL w, fun w => absurd hL w⟩)
        | (refine hE _ _ rfl ⟨Fr.tr (s3 := [(52, 4), (52, 5), (52, 6), (52, 7), (52, 8)]) F2 f3 rfl rfl, by rw [hsk]; exact k5, fun w => absurd w (by omega), fun _ => ?_⟩
           rw [hsk]
           exact ⟨k6, fun w => absurd w hL, fun _ _ => ⟨q4, q7⟩, fun _ w => absurd hDd w⟩)
        | (refine hE _ _ rfl ⟨Fr.tr (s3 := [(52, 4), (52, 5), (52, 6), (52, 7), (52, 8)]) F1 (Fr.rf (rows := []) (sl := [(52, 4)]) |>.up rfl) rfl rfl, by rw [hsk]; simp [up2]; exact g5, fun w => absurd w (by omega), fun _ => ?_⟩
           rw [hsk]
           refine ⟨by rw [et]; simp [up2]; exact g6, fun w => absurd w hL, fun _ w => absurd w hDd, fun _ _ => ⟨?_, by simp [up2]; exact g7⟩⟩
           rw [up_s]
           first
           | rw [if_pos (hsg.mp (by omega))]
           | rw [if_neg (fun w => absurd (hsg.mpr w) (by omega))])
        | (refine hE _ _ rfl ⟨Fr.tr (s3 := [(52, 4), (52, 5), (52, 6), (52, 7), (52, 8)]) F1 ((Fr.rf (rows := []) (sl := [(52, 4), (52, 6)]) |>.up rfl).up rfl) rfl rfl, by rw [hsk]; simp [up2]; exact g5, fun _ => ⟨by simp [up2], by simp [up2]; exact g7⟩, fun w => absurd w (by omega)⟩)
    · try simp only [ne_eq, b2i_e, b2i_1, Classical.not_not] at h63
      refine R_aload rfl rfl rfl ?_
      refine R_push rfl ?_
      refine T_puti rfl rfl rfl ?_
      refine R_aload rfl rfl rfl ?_
      refine R_iload rfl rfl ?_
      refine T_puti rfl rfl rfl ?_
      refine R_goto rfl ?_
      refine R_vret rfl ?_
      first
      | (refine hE _ _ rfl ⟨Fr.tr (s3 := [(52, 4), (52, 5), (52, 6), (52, 7), (52, 8)]) F2 f3 rfl rfl, by rw [hsk]; exact k5, fun w => absurd w (by omega), fun _ => ?_⟩
         rw [hsk]
         exact ⟨k6, fun _ => ⟨q4, q7, q8⟩, fun w => absurd hL w, fun w => absurd hL w⟩)
      | (refine hE _ _ rfl ⟨Fr.tr (s3 := [(52, 4), (52, 5), (52, 6), (52, 7), (52, 8)]) F2 f3 rfl rfl, by rw [hsk]; exact k5, fun w => absurd w (by omega), fun _ => ?_⟩
         rw [hsk]
         exact ⟨k6, fun w => absurd w hL, fun _ _ => ⟨q4, q7⟩, fun _ w => absurd hDd w⟩)
      | (refine hE _ _ rfl ⟨Fr.tr (s3 := [(52, 4), (52, 5), (52, 6), (52, 7), (52, 8)]) F1 (Fr.rf (rows := []) (sl := [(52, 4)]) |>.up rfl) rfl rfl, by rw [hsk]; simp [up2]; exact g5, fun w => absurd w (by omega), fun _ => ?_⟩
         rw [hsk]
         refine ⟨by rw [et]; simp [up2]; exact g6, fun w => absurd w hL, fun _ w => absurd w hDd, fun _ _ => ⟨?_, by simp [up2]; exact g7⟩⟩
         rw [up_s]
         first
         | rw [if_pos (hsg.mp (by omega))]
         | rw [if_neg (fun w => absurd (hsg.mpr w) (by omega))])
      | (refine hE _ _ rfl ⟨Fr.tr (s3 := [(52, 4), (52, 5), (52, 6), (52, 7), (52, 8)]) F1 ((Fr.rf (rows := []) (sl := [(52, 4), (52, 6)]) |>.up rfl).up rfl) rfl rfl, by rw [hsk]; simp [up2]; exact g5, fun _ => ⟨by simp [up2], by simp [up2]; exact g7⟩, fun w => absurd w (by omega)⟩)
  refine T_geti rfl rfl rfl ?_
  rw [he]
  refine R_istore rfl rfl ?_
  show pCm _ _ _ _ [_, _] _ _
  refine loop (pc := 5) (α := Int) (fun x => (n - x).toNat) (fun x => ([(68, 0), (0, x)], Wd xs t dd 60 σ)) (fun x => (e ≤ x ∧ x ≤ n) ∧ skp (σ 53) n x = skp (σ 53) n e) ?_ e ?_
  · intro x ⟨hx, hs⟩ ih
    dsimp only at hx hs ⊢
    refine R_iload rfl rfl ?_
    refine R_aload rfl rfl rfl ?_
    refine T_geti rfl rfl rfl ?_
    rw [h0]
    refine R_ic rfl (fun h10 => ?_) (fun h10 => ?_)
    · try simp only [ne_eq, b2i_e, b2i_1, Classical.not_not] at h10
      refine J41 x (by omega) ?_
      rw [← hs]
      refine RN_e (fun w => ?_)
      have w2 : b2i (σ 53 x = 10 ∨ σ 53 x = 32) = 1 := w.2
      rw [b2i_f (by omega)] at w2
      omega
    · try simp only [ne_eq, b2i_e, b2i_1, Classical.not_not] at h10
      refine R_aload rfl rfl rfl ?_
      refine T_getr (v := 69) rfl rfl rfl rfl ?_
      refine R_iload rfl rfl ?_
      refine T_ald rfl rfl (by omega) (by omega) ?_
      refine R_push rfl ?_
      refine R_ic rfl (fun h21 => ?_) (fun h21 => ?_)
      · try simp only [ne_eq, b2i_e, b2i_1, Classical.not_not] at h21
        refine R_inc rfl rfl (by omega) (by omega) ?_
        show pCm _ _ _ _ [_, _] _ _
        refine R_goto rfl ?_
        have hb1 : isB (σ 53) x = 1 := b2i_t (by omega)
        exact ih (x + 1) ⟨by omega, by rw [← hs]; exact (RN_s (p := isB (σ 53)) (n := n) (k := x) (by omega) hb1).symm⟩ (by omega)
      · try simp only [ne_eq, b2i_e, b2i_1, Classical.not_not] at h21
        refine R_aload rfl rfl rfl ?_
        refine T_getr (v := 69) rfl rfl rfl rfl ?_
        refine R_iload rfl rfl ?_
        refine T_ald rfl rfl (by omega) (by omega) ?_
        refine R_push rfl ?_
        refine R_ic rfl (fun h32 => ?_) (fun h32 => ?_)
        · try simp only [ne_eq, b2i_e, b2i_1, Classical.not_not] at h32
          refine J41 x (by omega) ?_
          rw [← hs]
          refine RN_e (fun w => ?_)
          have w2 : b2i (σ 53 x = 10 ∨ σ 53 x = 32) = 1 := w.2
          rw [b2i_f (by omega)] at w2
          omega
        · try simp only [ne_eq, b2i_e, b2i_1, Classical.not_not] at h32
          refine R_inc rfl rfl (by omega) (by omega) ?_
          show pCm _ _ _ _ [_, _] _ _
          refine R_goto rfl ?_
          have hb1 : isB (σ 53) x = 1 := b2i_t (by omega)
          exact ih (x + 1) ⟨by omega, by rw [← hs]; exact (RN_s (p := isB (σ 53)) (n := n) (k := x) (by omega) hb1).symm⟩ (by omega)
  · exact ⟨⟨Int.le_refl _, he0.2⟩, rfl⟩

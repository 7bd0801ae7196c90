theorem stk_ex {hs so who mt : Int → Int} {w : Int} : ∀ n : Nat, stk hs so who mt w n = 1 → ∃ f, 0 ≤ f ∧ f < (n : Int) ∧ hs f = 1 ∧ who (f / 8) = w := by
  intro n
  induction n with
  | zero => intro h; have h : (0 : Int) = 1 := h; omega
  | succ n ih =>
    intro h
    have e : stk hs so who mt w ((n + 1 : Nat) : Int) = _ := stk_s (n := n) (by omega)
    rw [e] at h
    by_cases q : hs n = 1 ∧ who ((n : Int) / 8) = w ∧ so n = 1 ∧ 0 ≤ mt n
    · exact ⟨n, by omega, by omega, q.1, q.2.1⟩
    · rw [if_neg q] at h
      obtain ⟨f, f0, f1, f2⟩ := ih h
      exact ⟨f, f0, by omega, f2⟩
/-- the places of wholes that were struck, as bits -/
def pstk (R : Int → Int) (T c : Int) (hs so co who mt : Int → Int) (n : Int) : Int := foldZ (fun f x => if hs f = 1 ∧ co (f / 8) = c ∧ so f = 1 ∧ 0 ≤ mt f then pOr x (if idx R T (who (f / 8)) = -1 then 0 else pShl 1 (idx R T (who (f / 8)))) else x) n 0
theorem pstk_s {R : Int → Int} {T c : Int} {hs so co who mt : Int → Int} {n : Int} (h : 0 ≤ n) : pstk R T c hs so co who mt (n + 1) = if hs n = 1 ∧ co (n / 8) = c ∧ so n = 1 ∧ 0 ≤ mt n then pOr (pstk R T c hs so co who mt n) (if idx R T (who (n / 8)) = -1 then 0 else pShl 1 (idx R T (who (n / 8)))) else pstk R T c hs so co who mt n := foldZ_s h
theorem pstk_bx {R : Int → Int} {T c : Int} {hs so co who mt : Int → Int} (hT : 0 ≤ T ∧ T ≤ 12) (hR : ∀ i j, 0 ≤ i → i < j → j < T → R i < R j) {k : Int} (hk : 0 ≤ k ∧ k < T) : ∀ n : Nat, (∀ f, 0 ≤ f → f < (n : Int) → who (f / 8) = R k → co (f / 8) = c) → (bx (pstk R T c hs so co who mt n) k = 1 ↔ stk hs so who mt (R k) n = 1) := by
  intro n
  induction n with
  | zero =>
    intro _
    show bx 0 k = 1 ↔ (0 : Int) = 1
    rw [bx_0 ⟨hk.1, by omega⟩]
  | succ n ih =>
    intro hc
    have ih := ih (fun f f0 f1 => hc f f0 (by omega))
    have e1 : stk hs so who mt (R k) ((n + 1 : Nat) : Int) = _ := stk_s (n := n) (by omega)
    have e2 : pstk R T c hs so co who mt ((n + 1 : Nat) : Int) = _ := pstk_s (n := n) (by omega)
    rw [e1, e2]
    have hcn := hc n (by omega) (by omega)
    generalize pstk R T c hs so co who mt n = x at *
    by_cases q : hs n = 1 ∧ co ((n : Int) / 8) = c ∧ so n = 1 ∧ 0 ≤ mt n
    · rw [if_pos q]
      by_cases z : who ((n : Int) / 8) = R k
      · rw [if_pos (c := hs n = 1 ∧ who ((n : Int) / 8) = R k ∧ so n = 1 ∧ 0 ≤ mt n) ⟨q.1, z, q.2.2⟩, z, idx_at hR hk.1 hk.2, if_neg (by omega), bx_or ⟨hk.1, by omega⟩, bx_shl ⟨hk.1, by omega⟩ ⟨hk.1, by omega⟩, if_pos rfl]
        simp
      · rw [if_neg (c := hs n = 1 ∧ who ((n : Int) / 8) = R k ∧ so n = 1 ∧ 0 ≤ mt n) (fun w => z w.2.1), ← ih, bx_or ⟨hk.1, by omega⟩]
        have hy : bx (if idx R T (who ((n : Int) / 8)) = -1 then 0 else pShl 1 (idx R T (who ((n : Int) / 8)))) k = 0 := by
          rcases idx_c (R := R) (T := T) (y := who ((n : Int) / 8)) hT.1 with w | w
          · rw [if_pos w.1]; exact bx_0 ⟨hk.1, by omega⟩
          · rw [if_neg (by omega), bx_shl ⟨w.1, by omega⟩ ⟨hk.1, by omega⟩, if_neg (fun e => z (by rw [e]; exact w.2.2.symm))]
        rw [hy]
        have := bx_01 (n := x) (j := k) ⟨hk.1, by omega⟩
        rcases this with e | e <;> rw [e] <;> simp
    · rw [if_neg q]
      by_cases z : hs n = 1 ∧ who ((n : Int) / 8) = R k ∧ so n = 1 ∧ 0 ≤ mt n
      · exact absurd ⟨z.1, hcn z.2.1, z.2.2⟩ q
      · rw [if_neg z]; exact ih
theorem srf_st {R : Int → Int} {T P c : Int} {hs so co who mt : Int → Int} (hT : 0 ≤ T) (hR : ∀ i j, 0 ≤ i → i < j → j < T → R i < R j) (hR0 : ∀ i, 0 ≤ i → i < T → 0 ≤ R i) {q f : Int} (hq : 0 ≤ q ∧ q < T) (f0 : 0 ≤ f) (hc : who (f / 8) = R q → co (f / 8) = c) (hin : hs f = 1 → co (f / 8) = c → 0 ≤ bl P so co who mt f → 0 ≤ idx R T (bl P so co who mt f)) : srf R T P hs so co who mt q (f + 1) = if hs f = 1 ∧ co (f / 8) = c ∧ so f = 0 ∧ idx R T (who (f / 8)) = q ∧ idx R T (bl P so co who mt f) ≠ -1 ∧ idx R T (bl P so co who mt f) ≠ idx R T (who (f / 8)) then pOr (srf R T P hs so co who mt q f) (pShl 1 (idx R T (bl P so co who mt f))) else srf R T P hs so co who mt q f := by
  rw [srf_s f0]
  have hso : 0 ≤ bl P so co who mt f → so f = 0 := fun h => by
    rw [bl_e] at h
    by_cases z : so f = 0 ∧ 2 ≤ mny co P (co (f / 8))
    · exact z.1
    · rw [if_neg z] at h; omega
  have key : (hs f = 1 ∧ who (f / 8) = R q ∧ 0 ≤ bl P so co who mt f ∧ bl P so co who mt f ≠ R q) ↔ (hs f = 1 ∧ co (f / 8) = c ∧ so f = 0 ∧ idx R T (who (f / 8)) = q ∧ idx R T (bl P so co who mt f) ≠ -1 ∧ idx R T (bl P so co who mt f) ≠ idx R T (who (f / 8))) := by
    constructor
    · intro ⟨a, b, c1, d⟩
      have e1 : idx R T (who (f / 8)) = q := by rw [b]; exact idx_at hR hq.1 hq.2
      have e2 := hin a (hc b) c1
      refine ⟨a, hc b, hso c1, e1, by omega, fun e => d ?_⟩
      rcases idx_c (R := R) (T := T) (y := bl P so co who mt f) hT with w | w
      · omega
      · rw [← w.2.2, e, e1]
    · intro ⟨a, b, c1, d, e, g⟩
      have e1 : R q = who (f / 8) := by
        rcases idx_c (R := R) (T := T) (y := who (f / 8)) hT with w | w
        · omega
        · rw [← d]; exact w.2.2
      rcases idx_c (R := R) (T := T) (y := bl P so co who mt f) hT with w | w
      · omega
      · have := hR0 _ w.1 w.2.1
        refine ⟨a, e1.symm, by omega, fun z => g ?_⟩
        rw [z, idx_at hR hq.1 hq.2, d]
  by_cases z : hs f = 1 ∧ who (f / 8) = R q ∧ 0 ≤ bl P so co who mt f ∧ bl P so co who mt f ≠ R q
  · rw [if_pos z, if_pos (key.mp z)]
  · rw [if_neg z, if_neg (fun w => z (key.mpr w))]
/-- the class's row of blows is the one that was gathered -/
def RG (s σ : Sg) (P J c : Int) : Prop := RT s (gtS σ P J c (8 * P)).2 (gtS σ P J c (8 * P)).1
theorem RG_of {s σ : Sg} {P J c : Int} (hH : BH σ P J) (h : RW s (gtS σ P J c (8 * P))) (h12 : s 57 5 ≤ 12) : RG s σ P J c := by
  obtain ⟨g1, g2, g3, g4⟩ := gt2_ok (c := c) (hs := hsS σ) (so := σ 14) (co := σ 29) (who := σ 30) (mt := mtS σ J) hH.2.1.1
  have e : s 57 5 = (gtS σ P J c (8 * P)).1 := h.1
  refine ⟨e, ⟨g1, by omega⟩, fun i i0 i1 => h.2 i i0 i1 (by omega), g4, fun i i0 i1 => ?_⟩
  have := g2 i i0 i1
  unfold BN at this
  rcases this with w | w
  · exact w.1
  · have := w.1
    show 0 ≤ (gt2 P c (hsS σ) (σ 14) (σ 29) (σ 30) (mtS σ J) (8 * P)).2 i
    omega
theorem RG_co {σ : Sg} {P J c : Int} (hH : BH σ P J) {q p : Int} (q0 : 0 ≤ q) (q1 : q < (gtS σ P J c (8 * P)).1) (p0 : 0 ≤ p) (p1 : p < P) (h : σ 30 p = (gtS σ P J c (8 * P)).2 q) : σ 29 p = c := by
  obtain ⟨g1, g2, g3, g4⟩ := gt2_ok (c := c) (hs := hsS σ) (so := σ 14) (co := σ 29) (who := σ 30) (mt := mtS σ J) hH.2.1.1
  have hh := hH.2.1.2.1 p p0 p1
  have hb := hH.2.1.1
  have := g2 q q0 q1
  have e : (gtS σ P J c (8 * P)).2 q = (gt2 P c (hsS σ) (σ 14) (σ 29) (σ 30) (mtS σ J) (8 * P)).2 q := rfl
  rw [← e, ← h] at this
  rcases this with w | w
  · have w3 := w.2.2
    unfold gg1 b2i at w3
    split at w3
    · rename_i z; rw [← z.1, hh.2.2.2]
    · omega
  · omega
theorem RG_in {σ : Sg} {P J c : Int} (hH : BH σ P J) {f : Int} (f0 : 0 ≤ f) (f1 : f < 8 * P) (hf : hsS σ f = 1) (hc : σ 29 (f / 8) = c) (hb : 0 ≤ blS σ P J f) : 0 ≤ idx (gtS σ P J c (8 * P)).2 (gtS σ P J c (8 * P)).1 (blS σ P J f) ∧ idx (gtS σ P J c (8 * P)).2 (gtS σ P J c (8 * P)).1 (blS σ P J f) < (gtS σ P J c (8 * P)).1 := by
  have := idx_in (c := c) hH.2.1.1 (bl_in (so := σ 14) hH.2.1 f0 f1 hf hc hb)
  exact ⟨this.1, this.2.1⟩
theorem RG_who {σ : Sg} {P J c : Int} (hH : BH σ P J) {p : Int} (p0 : 0 ≤ p) (p1 : p < P) (hc : σ 29 p = c) : 0 ≤ idx (gtS σ P J c (8 * P)).2 (gtS σ P J c (8 * P)).1 (σ 30 p) ∧ idx (gtS σ P J c (8 * P)).2 (gtS σ P J c (8 * P)).1 (σ 30 p) < (gtS σ P J c (8 * P)).1 := by
  have hh := hH.2.1.2.1 p p0 p1
  have := idx_in (c := c) (hs := hsS σ) (so := σ 14) (co := σ 29) (who := σ 30) (mt := mtS σ J) hH.2.1.1 (y := σ 30 p) (Or.inl ⟨hh.2.1.1, hh.2.1.2, b2i_t ⟨by rw [hh.2.2.2, hc], hh.2.2.1⟩⟩)
  exact ⟨this.1, this.2.1⟩
set_option maxRecDepth 20000 in
set_option maxHeartbeats 2000000 in
theorem sp_X0_placesStruck (d : Nat) (hd : 3 ≤ d) (xs : List (Nat × Nat)) (t dd rr : Nat) (σ s : Sg) (c : Int) (P J : Int) (hH : BH σ P J) (hFb : Fb σ s) (hR : RG s σ P J c) : Ev d 144 [(73, 0), (0, c)] (Wd xs t dd rr s) (0, pstk (gtS σ P J c (8 * P)).2 (gtS σ P J c (8 * P)).1 c (hsS σ) (σ 14) (σ 29) (σ 30) (mtS σ J) (8 * P)) (Wd xs t dd rr s) := by
  obtain ⟨d, rfl⟩ : ∃ e, d = e + 1 := ⟨d - 1, by omega⟩
  obtain ⟨⟨hP, hJ, h0, hJ0, hJB⟩, hHH, h32, h17, hcut⟩ := id hH
  refine evP (nL := 5) (code := k_X0_placesStruck) rfl pb0 rfl (fun E hE => ?_)
  show pCm (Ev d) k_X0_placesStruck E 0 [(73, 0), (0, c), (9, 0), (9, 0), (9, 0)] [] _
  refine R_push rfl ?_
  refine R_istore rfl rfl ?_
  refine R_push rfl ?_
  refine R_istore rfl rfl ?_
  refine fgt wc_X0_placesStruck [1, 1, 1, 1, 0] ?_
  refine loop (pc := 4) (α := Int × Int) (fun x => (8 * P - x.2).toNat) (fun x => ([(73, 0), (0, c), (0, x.1), (0, x.2), (9, 0)], Wd xs t dd rr s)) (fun x => (0 ≤ x.2 ∧ x.2 ≤ 8 * P) ∧ x.1 = pstk (gtS σ P J c (8 * P)).2 (gtS σ P J c (8 * P)).1 c (hsS σ) (σ 14) (σ 29) (σ 30) (mtS σ J) x.2) ?_ (0, 0) ?_
  · intro ⟨n, k⟩ ⟨⟨hk0, hk1⟩, hn⟩ ih
    dsimp only at hk0 hk1 hn ⊢
    have hps := pstk_s (R := (gtS σ P J c (8 * P)).2) (T := (gtS σ P J c (8 * P)).1) (c := c) (hs := hsS σ) (so := σ 14) (co := σ 29) (who := σ 30) (mt := mtS σ J) hk0
    have hmt : k < 8 * P → hsS σ k = 1 → _ := fun w1 w2 => mtS_iff hH hk0 w1 w2
    have e1 := hFb.row 1 rfl 0
    have e14 := hFb.row 14 rfl k
    have e17 := hFb.row 17 rfl k
    refine R_iload rfl rfl ?_
    refine R_aload rfl rfl rfl ?_
    refine T_getr (v := 17) rfl rfl rfl rfl ?_
    refine T_geti rfl rfl rfl ?_
    refine R_push rfl ?_
    refine R_mul rfl (by omega) (by omega) ?_
    refine R_ic rfl (fun h15 => ?_) (fun h15 => ?_)
    · try simp only [ne_eq, b2i_e, b2i_1, Classical.not_not] at h15
      refine R_iload rfl rfl ?_
      refine R_iret rfl ?_
      exact hE _ (by congr 1; rw [hn]; congr 1; omega)
    · try simp only [ne_eq, b2i_e, b2i_1, Classical.not_not] at h15
      refine R_aload rfl rfl rfl ?_
      refine R_iload rfl rfl ?_
      refine R_iload rfl rfl ?_
      have hfo := sp_X0_isFaceOf d (by omega) xs t dd rr s c P J (BH_fr hH hFb) k ⟨by omega, by omega⟩
      rw [hsS_fr (hFb.fn 13 rfl), hFb.row 29 rfl] at hfo
      refine R_invv rfl rfl rfl rfl rfl rfl (hfo) rfl ?_
      show pCm _ _ _ 24 _ [(0, _)] _
      refine R_if rfl (fun h24 => ?_) (fun h24 => ?_)
      · try simp only [ne_eq, b2i_e, b2i_1, Classical.not_not] at h24
        refine R_inc rfl rfl (by omega) (by omega) ?_
        refine R_goto rfl ?_
        refine fgt wc_X0_placesStruck [1, 1, 1, 1, 0] ?_
        first
        | (exfalso; omega)
        | (have hmt := hmt (by omega) (by omega)
           exact ih (pOr n (pShl 1 (idx (gtS σ P J c (8 * P)).2 (gtS σ P J c (8 * P)).1 (σ 30 (k / 8)))), k + 1) ⟨by dsimp only; omega, by show pOr n _ = _; rw [hps, if_pos (by omega), if_neg (by omega), hn]⟩ (by dsimp only; omega))
        | (have hmt := hmt (by omega) (by omega)
           exact ih (n, k + 1) ⟨by dsimp only; omega, by show n = _; rw [hps, if_neg (by omega), hn]⟩ (by dsimp only; omega))
        | exact ih (n, k + 1) ⟨by dsimp only; omega, by show n = _; rw [hps, if_neg (by omega), hn]⟩ (by dsimp only; omega)
      · try simp only [ne_eq, b2i_e, b2i_1, Classical.not_not] at h24
        have hwh := (hHH.2.1 (k / 8) (by omega) (by omega)).2.1
        have hidx := RG_who hH (c := c) (p := k / 8) (by omega) (by omega) (by omega)
        refine R_aload rfl rfl rfl ?_
        refine T_getr (v := 28) rfl rfl rfl rfl ?_
        refine T_getr (v := 30) rfl rfl rfl rfl ?_
        refine R_iload rfl rfl ?_
        refine T_ald rfl rfl (by omega) (by omega) ?_
        refine R_push rfl ?_
        refine R_ic rfl (fun h37 => ?_) (fun h37 => ?_)
        · try simp only [ne_eq, b2i_e, b2i_1, Classical.not_not] at h37
          refine R_inc rfl rfl (by omega) (by omega) ?_
          refine R_goto rfl ?_
          refine fgt wc_X0_placesStruck [1, 1, 1, 1, 0] ?_
          first
          | (exfalso; omega)
          | (have hmt := hmt (by omega) (by omega)
             exact ih (pOr n (pShl 1 (idx (gtS σ P J c (8 * P)).2 (gtS σ P J c (8 * P)).1 (σ 30 (k / 8)))), k + 1) ⟨by dsimp only; omega, by show pOr n _ = _; rw [hps, if_pos (by omega), if_neg (by omega), hn]⟩ (by dsimp only; omega))
          | (have hmt := hmt (by omega) (by omega)
             exact ih (n, k + 1) ⟨by dsimp only; omega, by show n = _; rw [hps, if_neg (by omega), hn]⟩ (by dsimp only; omega))
          | exact ih (n, k + 1) ⟨by dsimp only; omega, by show n = _; rw [hps, if_neg (by omega), hn]⟩ (by dsimp only; omega)
        · try simp only [ne_eq, b2i_e, b2i_1, Classical.not_not] at h37
          refine R_aload rfl rfl rfl ?_
          refine T_getr (v := 28) rfl rfl rfl rfl ?_
          refine T_getr (v := 33) rfl rfl rfl rfl ?_
          refine R_iload rfl rfl ?_
          refine T_ald rfl rfl (by omega) (by omega) ?_
          refine R_push rfl ?_
          refine R_ic rfl (fun h50 => ?_) (fun h50 => ?_)
          · try simp only [ne_eq, b2i_e, b2i_1, Classical.not_not] at h50
            refine R_inc rfl rfl (by omega) (by omega) ?_
            refine R_goto rfl ?_
            refine fgt wc_X0_placesStruck [1, 1, 1, 1, 0] ?_
            first
            | (exfalso; omega)
            | (have hmt := hmt (by omega) (by omega)
               exact ih (pOr n (pShl 1 (idx (gtS σ P J c (8 * P)).2 (gtS σ P J c (8 * P)).1 (σ 30 (k / 8)))), k + 1) ⟨by dsimp only; omega, by show pOr n _ = _; rw [hps, if_pos (by omega), if_neg (by omega), hn]⟩ (by dsimp only; omega))
            | (have hmt := hmt (by omega) (by omega)
               exact ih (n, k + 1) ⟨by dsimp only; omega, by show n = _; rw [hps, if_neg (by omega), hn]⟩ (by dsimp only; omega))
            | exact ih (n, k + 1) ⟨by dsimp only; omega, by show n = _; rw [hps, if_neg (by omega), hn]⟩ (by dsimp only; omega)
          · try simp only [ne_eq, b2i_e, b2i_1, Classical.not_not] at h50
            refine R_aload rfl rfl rfl ?_
            refine R_aload rfl rfl rfl ?_
            refine T_getr (v := 44) rfl rfl rfl rfl ?_
            refine T_getr (v := 46) rfl rfl rfl rfl ?_
            refine R_iload rfl rfl ?_
            refine R_push rfl ?_
            refine R_dv rfl (by omega) (by omega) (by omega) ?_
            refine T_ald rfl rfl (by omega) (by omega) ?_
            rw [hFb.row 30 rfl]
            have hpl := sp_X0_placeOf d (by omega) xs t dd rr s (σ 30 (k / 8)) (gtS σ P J c (8 * P)).2 (gtS σ P J c (8 * P)).1 hR
            refine R_invv rfl rfl rfl rfl rfl rfl (hpl) rfl ?_
            show pCm _ _ _ 69 _ [(0, _)] _
            refine R_istore rfl rfl ?_
            refine R_iload rfl rfl ?_
            refine R_iload rfl rfl ?_
            refine R_push rfl ?_
            refine R_ic rfl (fun h75 => ?_) (fun h75 => ?_)
            · try simp only [ne_eq, b2i_e, b2i_1, Classical.not_not] at h75
              refine R_push rfl ?_
              refine R_iload rfl rfl ?_
              refine R_bin rfl ?_
              refine R_bin rfl ?_
              refine R_istore rfl rfl ?_
              refine R_inc rfl rfl (by omega) (by omega) ?_
              refine R_goto rfl ?_
              refine fgt wc_X0_placesStruck [1, 1, 1, 1, 0] ?_
              first
              | (exfalso; omega)
              | (have hmt := hmt (by omega) (by omega)
                 exact ih (pOr n (pShl 1 (idx (gtS σ P J c (8 * P)).2 (gtS σ P J c (8 * P)).1 (σ 30 (k / 8)))), k + 1) ⟨by dsimp only; omega, by show pOr n _ = _; rw [hps, if_pos (by omega), if_neg (by omega), hn]⟩ (by dsimp only; omega))
              | (have hmt := hmt (by omega) (by omega)
                 exact ih (n, k + 1) ⟨by dsimp only; omega, by show n = _; rw [hps, if_neg (by omega), hn]⟩ (by dsimp only; omega))
              | exact ih (n, k + 1) ⟨by dsimp only; omega, by show n = _; rw [hps, if_neg (by omega), hn]⟩ (by dsimp only; omega)
            · try simp only [ne_eq, b2i_e, b2i_1, Classical.not_not] at h75
              refine R_push rfl ?_
              refine R_goto rfl ?_
              refine R_bin rfl ?_
              refine R_istore rfl rfl ?_
              refine R_inc rfl rfl (by omega) (by omega) ?_
              refine R_goto rfl ?_
              refine fgt wc_X0_placesStruck [1, 1, 1, 1, 0] ?_
              first
              | (exfalso; omega)
              | (have hmt := hmt (by omega) (by omega)
                 exact ih (pOr n (pShl 1 (idx (gtS σ P J c (8 * P)).2 (gtS σ P J c (8 * P)).1 (σ 30 (k / 8)))), k + 1) ⟨by dsimp only; omega, by show pOr n _ = _; rw [hps, if_pos (by omega), if_neg (by omega), hn]⟩ (by dsimp only; omega))
              | (have hmt := hmt (by omega) (by omega)
                 exact ih (n, k + 1) ⟨by dsimp only; omega, by show n = _; rw [hps, if_neg (by omega), hn]⟩ (by dsimp only; omega))
              | exact ih (n, k + 1) ⟨by dsimp only; omega, by show n = _; rw [hps, if_neg (by omega), hn]⟩ (by dsimp only; omega)
  · exact ⟨⟨Int.le_refl _, by dsimp only; omega⟩, rfl⟩

/-- the reference's faces and mates, as rows have them -/
def hsM (σ : Sg) (f : Int) : Int := b2i (f % 8 < σ 98 (f / 8))
def mtM (σ : Sg) (J f : Int) : Int := mateZ (onM σ) (σ 102) (σ 103) J f
def blM (σ : Sg) (P J f : Int) : Int := bl P (σ 99) (σ 111) (σ 112) (mtM σ J) f
def gtM (σ : Sg) (P J c n : Int) : Int × (Int → Int) := gt2 P c (hsM σ) (σ 99) (σ 111) (σ 112) (mtM σ J) n
/-- a piece of a cobble of two and more has a face in a join -/
def HJ (P : Int) (hs co mt : Int → Int) : Prop := ∀ p, 0 ≤ p → p < P → 2 ≤ mny co P (co p) → ∃ f, 8 * p ≤ f ∧ f < 8 * p + 8 ∧ hs f = 1 ∧ 0 ≤ mt f
theorem gt_cap {P c : Int} {hs so co who mt : Int → Int} (hH : HH P hs co who mt) (hJ : HJ P hs co mt) {n : Int} (n0 : 0 ≤ n) (n1 : n ≤ 8 * P) : (gt2 P c hs so co who mt n).1 ≤ 8 * P := by
  have hP := hH.1
  have e := gt2_1 (c := c) (hs := hs) (so := so) (co := co) (who := who) (mt := mt) hP.1 n.toNat
  rw [Int.toNat_of_nonneg n0] at e
  rw [e]
  have m := sumZ_mono (f := gg2 P c hs so co who mt) (n := 8 * P) (fun i _ _ => b2i_bd.1) n n0 n1
  have ns := sumZ_nest (g := gg2 P c hs so co who mt) P.toNat
  rw [Int.toNat_of_nonneg hP.1] at ns
  have key : ∀ m : Nat, (m : Int) ≤ P → sumZ (gg1 c co who) m + sumZ (fun f => sumZ (fun k => gg2 P c hs so co who mt (8 * f + k)) 8) m ≤ 8 * m := by
    intro m
    induction m with
    | zero => intro _; exact Int.le_refl _
    | succ m ih =>
      intro hm
      have ih := ih (by omega)
      have e1 : sumZ (gg1 c co who) ((m + 1 : Nat) : Int) = sumZ (gg1 c co who) m + gg1 c co who m := sumZ_s (n := m) (by omega)
      have e2 : sumZ (fun f => sumZ (fun k => gg2 P c hs so co who mt (8 * f + k)) 8) ((m + 1 : Nat) : Int) = sumZ (fun f => sumZ (fun k => gg2 P c hs so co who mt (8 * f + k)) 8) m + sumZ (fun k => gg2 P c hs so co who mt (8 * (m : Int) + k)) 8 := sumZ_s (n := m) (by omega)
      have b1 : 0 ≤ gg1 c co who m ∧ gg1 c co who m ≤ 1 := b2i_bd
      have b2 : sumZ (fun k => gg2 P c hs so co who mt (8 * (m : Int) + k)) 8 ≤ 7 := by
        by_cases q : 2 ≤ mny co P (co m)
        · obtain ⟨f, f0, f1, f2, f3⟩ := hJ m (by omega) (by omega) q
          have hz : gg2 P c hs so co who mt (8 * (m : Int) + (f - 8 * m)) = 0 := by
            rw [show 8 * (m : Int) + (f - 8 * m) = f by omega]
            apply b2i_f
            intro w
            have hm := hH.2.2 f (by omega) (by omega) f2
            have h1 := w.2.2
            rw [bl_e] at h1
            split at h1
            · have := (hH.2.1 (mt f / 8) (by omega) (by omega)).2.1
              omega
            · omega
          have := sumZ_at (f := fun k => gg2 P c hs so co who mt (8 * (m : Int) + k)) (g := fun k => if k = f - 8 * m then 1 else gg2 P c hs so co who mt (8 * (m : Int) + k)) (n := 8) (i := f - 8 * m) (by omega) (by omega) (fun k hk => by rw [if_neg hk])
          rw [if_pos rfl] at this
          have hb := sumZ_bd (f := fun k => if k = f - 8 * m then 1 else gg2 P c hs so co who mt (8 * (m : Int) + k)) (c := 1) (n := 8) (by omega) (fun k _ _ => by
            have : 0 ≤ gg2 P c hs so co who mt (8 * (m : Int) + k) ∧ gg2 P c hs so co who mt (8 * (m : Int) + k) ≤ 1 := b2i_bd
            split <;> omega)
          omega
        · have hz : sumZ (fun k => gg2 P c hs so co who mt (8 * (m : Int) + k)) 8 = sumZ (fun _ => 0) 8 := sumZ_congr (fun k k0 k1 => by
            apply b2i_f
            intro w
            have h1 := w.2.2
            rw [bl_e, show (8 * (m : Int) + k) / 8 = m by omega, if_neg (fun z => q z.2)] at h1
            omega)
          rw [hz]; decide
      omega
  have := key P.toNat (by omega)
  rw [Int.toNat_of_nonneg hP.1] at this
  omega
def MH (σ : Sg) (P J : Int) : Prop := MB σ P J ∧ HH P (hsM σ) (σ 111) (σ 112) (mtM σ J) ∧ (∀ f k, 0 ≤ f → f < 8 * P → 0 ≤ k → k < 8 → (0 ≤ σ 116 (8 * f + k) ∧ σ 116 (8 * f + k) ≤ 15) ∧ (0 < σ 116 (8 * f + k) → hsM σ f = 1 ∧ hsM σ (f / 8 * 8 + k) = 1)) ∧ HJ P (hsM σ) (σ 111) (mtM σ J)
/-- what is found of blows alone changed -/
def Fm (σ s : Sg) : Prop := Fr [113, 114, 115, 117, 118] [(71, 55)] σ s
theorem mtM_fr {σ s : Sg} {J : Int} (e1 : s 106 = σ 106) (e2 : s 102 = σ 102) (e3 : s 103 = σ 103) : mtM s J = mtM σ J := by
  funext f; unfold mtM
  have : onM s = onM σ := by funext j; unfold onM; rw [e1]
  rw [e2, e3, this]
theorem hsM_fr {σ s : Sg} (e : s 98 = σ 98) : hsM s = hsM σ := by funext f; unfold hsM; rw [e]
theorem MH_fr {σ s : Sg} {P J : Int} (h : MH σ P J) (hF : Fm σ s) : MH s P J := by
  unfold MH MB
  rw [hsM_fr (hF.fn 98 rfl), mtM_fr (hF.fn 106 rfl) (hF.fn 102 rfl) (hF.fn 103 rfl), hF.fn 111 rfl, hF.fn 112 rfl, hF.fn 116 rfl, hF.at 71 26 rfl, hF.at 71 43 rfl, hF.fn 102 rfl, hF.fn 103 rfl]
  exact h
theorem blM_fr {σ s : Sg} {P J : Int} (hF : Fm σ s) : blM s P J = blM σ P J := by
  funext f
  unfold blM
  rw [mtM_fr (hF.fn 106 rfl) (hF.fn 102 rfl) (hF.fn 103 rfl), hF.fn 111 rfl, hF.fn 112 rfl, hF.fn 99 rfl]
theorem gtM_fr {σ s : Sg} {P J c n : Int} (hF : Fm σ s) : gtM s P J c n = gtM σ P J c n := by
  unfold gtM
  rw [hsM_fr (hF.fn 98 rfl), mtM_fr (hF.fn 106 rfl) (hF.fn 102 rfl) (hF.fn 103 rfl), hF.fn 111 rfl, hF.fn 112 rfl, hF.fn 99 rfl]
set_option maxRecDepth 20000 in
set_option maxHeartbeats 2000000 in
theorem sp_X10_blowOf (d : Nat) (hd : 3 ≤ d) (xs : List (Nat × Nat)) (t dd rr : Nat) (σ : Sg) (P J : Int) (hH : MH σ P J) (f : Int) (hf : 0 ≤ f ∧ f < 8 * P) (hs : hsM σ f = 1) : Ev d 93 [(87, 0), (0, f)] (Wd xs t dd rr σ) (0, blM σ P J f) (Wd xs t dd rr σ) := by
  obtain ⟨d, rfl⟩ : ∃ e, d = e + 1 := ⟨d - 1, by omega⟩
  obtain ⟨⟨hP, hJ, h0, hJ0, hJB⟩, hHH, hcut, hHJ⟩ := id hH
  have hco := (hHH.2.1 (f / 8) (by omega) (by omega)).1
  have hm := hHH.2.2 f hf.1 hf.2 hs
  have hble : blM σ P J f = _ := bl_e
  rw [hble]
  refine evP (nL := 3) (code := k_X10_blowOf) rfl pb0 rfl (fun E hE => ?_)
  show pCm (Ev d) k_X10_blowOf E 0 [(87, 0), (0, f), (9, 0)] [] _
  refine R_aload rfl rfl rfl ?_
  refine R_iload rfl rfl ?_
  have hmt := sp_X10_mate d (by omega) xs t dd rr σ (f) J hJ hJ0
  have hmt : Ev d 81 [(87, 0), (0, f)] (Wd xs t dd rr σ) (0, mtM σ J (f)) (Wd xs t dd rr σ) := hmt
  refine R_invv rfl rfl rfl rfl rfl rfl (hmt) rfl ?_
  show pCm _ _ _ 5 _ [(0, _)] _
  refine R_istore rfl rfl ?_
  refine R_aload rfl rfl rfl ?_
  refine T_getr (v := 115) rfl rfl rfl rfl ?_
  refine R_iload rfl rfl ?_
  refine T_ald rfl rfl (by omega) (by omega) ?_
  refine R_if rfl (fun h12 => ?_) (fun h12 => ?_)
  · try simp only [ne_eq, b2i_e, b2i_1, Classical.not_not] at h12
    refine R_push rfl ?_
    refine R_iret rfl ?_
    first
    | exact hE _ (by rw [if_neg (by omega)])
    | exact hE _ (by rw [if_pos (by omega), if_neg (by omega)])
    | exact hE _ (by rw [if_pos (by omega), if_pos (by omega)])
  · try simp only [ne_eq, b2i_e, b2i_1, Classical.not_not] at h12
    refine R_aload rfl rfl rfl ?_
    refine R_aload rfl rfl rfl ?_
    refine T_getr (v := 127) rfl rfl rfl rfl ?_
    refine R_iload rfl rfl ?_
    refine R_push rfl ?_
    refine R_dv rfl (by omega) (by omega) (by omega) ?_
    refine T_ald rfl rfl (by omega) (by omega) ?_
    have hmy := sp_X10_manyOf d (by omega) xs t dd rr σ (σ 111 (f / 8)) P hP h0.1 h0.2
    have hmy : Ev d 92 [(87, 0), (0, σ 111 (f / 8))] (Wd xs t dd rr σ) (0, mny (σ 111) P (σ 111 (f / 8))) (Wd xs t dd rr σ) := hmy
    refine R_invv rfl rfl rfl rfl rfl rfl (hmy) rfl ?_
    show pCm _ _ _ 28 _ [(0, _)] _
    refine R_push rfl ?_
    refine R_ic rfl (fun h29 => ?_) (fun h29 => ?_)
    · try simp only [ne_eq, b2i_e, b2i_1, Classical.not_not] at h29
      refine R_iload rfl rfl ?_
      refine R_if rfl (fun h35 => ?_) (fun h35 => ?_)
      · try simp only [ne_eq, b2i_e, b2i_1, Classical.not_not] at h35
        refine R_push rfl ?_
        refine R_iload rfl rfl ?_
        refine R_add rfl (by omega) (by omega) ?_
        refine R_iret rfl ?_
        first
        | exact hE _ (by rw [if_neg (by omega)])
        | exact hE _ (by rw [if_pos (by omega), if_neg (by omega)])
        | exact hE _ (by rw [if_pos (by omega), if_pos (by omega)])
      · try simp only [ne_eq, b2i_e, b2i_1, Classical.not_not] at h35
        refine R_aload rfl rfl rfl ?_
        refine T_getr (v := 128) rfl rfl rfl rfl ?_
        refine R_iload rfl rfl ?_
        refine R_push rfl ?_
        refine R_dv rfl (by omega) (by omega) (by omega) ?_
        refine T_ald rfl rfl (by omega) (by omega) ?_
        refine R_goto rfl ?_
        refine R_iret rfl ?_
        first
        | exact hE _ (by rw [if_neg (by omega)])
        | exact hE _ (by rw [if_pos (by omega), if_neg (by omega)])
        | exact hE _ (by rw [if_pos (by omega), if_pos (by omega)])
    · try simp only [ne_eq, b2i_e, b2i_1, Classical.not_not] at h29
      refine R_push rfl ?_
      refine R_iret rfl ?_
      first
      | exact hE _ (by rw [if_neg (by omega)])
      | exact hE _ (by rw [if_pos (by omega), if_neg (by omega)])
      | exact hE _ (by rw [if_pos (by omega), if_pos (by omega)])
def RWm (s : Sg) (a : Int × (Int → Int)) : Prop := s 71 55 = a.1 ∧ ∀ i, 0 ≤ i → i < a.1 → s 113 i = a.2 i
theorem RWm_add {s s' : Sg} {a : Int × (Int → Int)} {g v : Int → Int} {x y : Int} (h : RWm s a) (h5 : s' 71 55 = s 71 55 + 1) (hr : ∀ i, s' 113 i = if i = s 71 55 then y else s 113 i) (hg : g x = 1) (hv : v x = y) : RWm s' (gst g v x a) := by
  unfold gst
  rw [if_pos hg]
  refine ⟨by rw [h5, h.1], fun i i0 i1 => ?_⟩
  have i1 : i < a.1 + 1 := i1
  have e := h.1
  rw [hr]
  show _ = fup a.2 a.1 (v x) i
  by_cases q : i = a.1
  · rw [if_pos (by omega), q, fup_s, hv]
  · rw [if_neg (by omega), fup_o q]; exact h.2 i i0 (by omega)
theorem RWm_skip {s : Sg} {a : Int × (Int → Int)} {g v : Int → Int} {x : Int} (h : RWm s a) (hg : g x ≠ 1) : RWm s (gst g v x a) := by
  unfold gst
  rw [if_neg hg]; exact h
set_option maxRecDepth 20000 in
set_option maxHeartbeats 2000000 in
theorem sp_X10_indexOf (d : Nat) (hd : 1 ≤ d) (xs : List (Nat × Nat)) (t dd rr : Nat) (σ : Sg) (y : Int) (R : Int → Int) (T : Int) (h5 : σ 71 55 = T) (hT : 0 ≤ T ∧ T ≤ 320) (hR : ∀ i, 0 ≤ i → i < T → σ 113 i = R i) : Ev d 95 [(87, 0), (0, y)] (Wd xs t dd rr σ) (0, idx R T y) (Wd xs t dd rr σ) := by
  obtain ⟨d, rfl⟩ : ∃ e, d = e + 1 := ⟨d - 1, by omega⟩
  refine evP (nL := 4) (code := k_X10_indexOf) rfl pb0 rfl (fun E hE => ?_)
  show pCm (Ev d) k_X10_indexOf E 0 [(87, 0), (0, y), (9, 0), (9, 0)] [] _
  refine R_push rfl ?_
  refine R_istore rfl rfl ?_
  refine R_push rfl ?_
  refine R_istore rfl rfl ?_
  refine loop (pc := 4) (α := Int × Int) (fun x => (T - x.2).toNat) (fun x => ([(87, 0), (0, y), (0, x.1), (0, x.2)], Wd xs t dd rr σ)) (fun x => (0 ≤ x.2 ∧ x.2 ≤ T) ∧ x.1 = idx R x.2 y) ?_ (-1, 0) ?_
  · intro ⟨n, k⟩ ⟨⟨hk0, hk1⟩, hn⟩ ih
    dsimp only at hk0 hk1 hn ⊢
    have hrk : k < T → σ 113 k = R k := hR k hk0
    have his := idx_s (R := R) (y := y) hk0
    refine R_iload rfl rfl ?_
    refine R_aload rfl rfl rfl ?_
    refine T_geti rfl rfl rfl ?_
    refine R_ic rfl (fun h9 => ?_) (fun h9 => ?_)
    · try simp only [ne_eq, b2i_e, b2i_1, Classical.not_not] at h9
      refine R_iload rfl rfl ?_
      refine R_iret rfl ?_
      exact hE _ (by rw [hn, show k = T by omega])
    · try simp only [ne_eq, b2i_e, b2i_1, Classical.not_not] at h9
      refine R_aload rfl rfl rfl ?_
      refine T_getr (v := 129) rfl rfl rfl rfl ?_
      refine R_iload rfl rfl ?_
      refine T_ald rfl rfl (by omega) (by omega) ?_
      refine R_iload rfl rfl ?_
      refine R_ic rfl (fun h19 => ?_) (fun h19 => ?_)
      · try simp only [ne_eq, b2i_e, b2i_1, Classical.not_not] at h19
        refine R_iload rfl rfl ?_
        refine R_istore rfl rfl ?_
        refine R_inc rfl rfl (by omega) (by omega) ?_
        refine R_goto rfl ?_
        first
        | exact ih (k, k + 1) ⟨by dsimp only; omega, by show k = _; rw [his, if_pos (by have := hrk (by omega); omega)]⟩ (by dsimp only; omega)
        | exact ih (n, k + 1) ⟨by dsimp only; omega, by show n = _; rw [his, if_neg (by have := hrk (by omega); omega), hn]⟩ (by dsimp only; omega)
      · try simp only [ne_eq, b2i_e, b2i_1, Classical.not_not] at h19
        refine R_iload rfl rfl ?_
        refine R_goto rfl ?_
        refine R_istore rfl rfl ?_
        refine R_inc rfl rfl (by omega) (by omega) ?_
        refine R_goto rfl ?_
        first
        | exact ih (k, k + 1) ⟨by dsimp only; omega, by show k = _; rw [his, if_pos (by have := hrk (by omega); omega)]⟩ (by dsimp only; omega)
        | exact ih (n, k + 1) ⟨by dsimp only; omega, by show n = _; rw [his, if_neg (by have := hrk (by omega); omega), hn]⟩ (by dsimp only; omega)
  · exact ⟨⟨Int.le_refl _, by dsimp only; omega⟩, rfl⟩
set_option maxRecDepth 20000 in
set_option maxHeartbeats 2000000 in
theorem sp_X10_hasStruckBelly (d : Nat) (hd : 3 ≤ d) (xs : List (Nat × Nat)) (t dd rr : Nat) (σ : Sg) (w : Int) (P J : Int) (hH : MH σ P J)  : Ev d 96 [(87, 0), (0, w)] (Wd xs t dd rr σ) (0, stk (hsM σ) (σ 99) (σ 112) (mtM σ J) w (8 * P)) (Wd xs t dd rr σ) := by
  obtain ⟨d, rfl⟩ : ∃ e, d = e + 1 := ⟨d - 1, by omega⟩
  obtain ⟨⟨hP, hJ, h0, hJ0, hJB⟩, hHH, hcut, hHJ⟩ := id hH
  refine evP (nL := 4) (code := k_X10_hasStruckBelly) rfl pb0 rfl (fun E hE => ?_)
  show pCm (Ev d) k_X10_hasStruckBelly E 0 [(87, 0), (0, w), (9, 0), (9, 0)] [] _
  refine R_push rfl ?_
  refine R_istore rfl rfl ?_
  refine R_push rfl ?_
  refine R_istore rfl rfl ?_
  refine loop (pc := 4) (α := Int × Int) (fun x => (8 * P - x.2).toNat) (fun x => ([(87, 0), (0, w), (0, x.1), (0, x.2)], Wd xs t dd rr σ)) (fun x => (0 ≤ x.2 ∧ x.2 ≤ 8 * P) ∧ x.1 = stk (hsM σ) (σ 99) (σ 112) (mtM σ J) w x.2) ?_ (0, 0) ?_
  · intro ⟨n, k⟩ ⟨⟨hk0, hk1⟩, hn⟩ ih
    dsimp only at hk0 hk1 hn ⊢
    have hss := stk_s (hs := hsM σ) (so := σ 99) (who := σ 112) (mt := mtM σ J) (w := w) hk0
    have h01 := stk_01 (hs := hsM σ) (so := σ 99) (who := σ 112) (mt := mtM σ J) (w := w) k.toNat
    rw [Int.toNat_of_nonneg hk0, ← hn] at h01
    have hsb : hsM σ k = 0 ∨ hsM σ k = 1 := by have := (b2i_bd (p := k % 8 < σ 98 (k / 8))); unfold hsM; omega
    refine R_iload rfl rfl ?_
    refine R_push rfl ?_
    refine R_aload rfl rfl rfl ?_
    refine T_geti rfl rfl rfl ?_
    refine R_mul rfl (by omega) (by omega) ?_
    refine R_ic rfl (fun h12 => ?_) (fun h12 => ?_)
    · try simp only [ne_eq, b2i_e, b2i_1, Classical.not_not] at h12
      have hkP : k = 8 * P := by omega
      refine R_iload rfl rfl ?_
      refine R_zret rfl (by first | exact Or.inl rfl | exact Or.inr rfl | omega | grind) ?_
      exact hE _ (by rw [hn, show k = 8 * P by omega])
    · try simp only [ne_eq, b2i_e, b2i_1, Classical.not_not] at h12
      refine R_iload rfl rfl ?_
      refine R_if rfl (fun h16 => ?_) (fun h16 => ?_)
      · try simp only [ne_eq, b2i_e, b2i_1, Classical.not_not] at h16
        refine R_push rfl ?_
        refine R_goto rfl ?_
        refine R_istore rfl rfl ?_
        refine R_inc rfl rfl (by omega) (by omega) ?_
        refine R_goto rfl ?_
        first
        | exact ih (1, k + 1) ⟨by dsimp only; omega, by show 1 = _; rw [hss, if_pos (by omega)]⟩ (by dsimp only; omega)
        | exact ih (0, k + 1) ⟨by dsimp only; omega, by show 0 = _; rw [hss, if_neg (by omega)]; omega⟩ (by dsimp only; omega)
        | (refine ih (1, k + 1) ⟨by dsimp only; omega, ?_⟩ (by dsimp only; omega)
           show 1 = _
           rw [hss]
           split
           · rfl
           · omega)
      · try simp only [ne_eq, b2i_e, b2i_1, Classical.not_not] at h16
        refine R_aload rfl rfl rfl ?_
        refine R_iload rfl rfl ?_
        have hfo := sp_X10_isFace d (by omega) xs t dd rr σ k P hP h0 (by omega)
        rw [show b2i (0 ≤ k ∧ k / 8 < P ∧ k % 8 < σ 98 (k / 8)) = hsM σ k from b2i_iff ⟨fun w => w.2.2, fun w => ⟨by omega, by omega, w⟩⟩] at hfo
        refine R_invv rfl rfl rfl rfl rfl rfl (hfo) rfl ?_
        show pCm _ _ _ 24 _ [(0, _)] _
        refine R_if rfl (fun h24 => ?_) (fun h24 => ?_)
        · try simp only [ne_eq, b2i_e, b2i_1, Classical.not_not] at h24
          refine R_push rfl ?_
          refine R_istore rfl rfl ?_
          refine R_inc rfl rfl (by omega) (by omega) ?_
          refine R_goto rfl ?_
          first
          | exact ih (1, k + 1) ⟨by dsimp only; omega, by show 1 = _; rw [hss, if_pos (by omega)]⟩ (by dsimp only; omega)
          | exact ih (0, k + 1) ⟨by dsimp only; omega, by show 0 = _; rw [hss, if_neg (by omega)]; omega⟩ (by dsimp only; omega)
          | (refine ih (1, k + 1) ⟨by dsimp only; omega, ?_⟩ (by dsimp only; omega)
             show 1 = _
             rw [hss]
             split
             · rfl
             · omega)
        · try simp only [ne_eq, b2i_e, b2i_1, Classical.not_not] at h24
          refine R_aload rfl rfl rfl ?_
          refine T_getr (v := 128) rfl rfl rfl rfl ?_
          refine R_iload rfl rfl ?_
          refine R_push rfl ?_
          refine R_dv rfl (by omega) (by omega) (by omega) ?_
          refine T_ald rfl rfl (by omega) (by omega) ?_
          refine R_iload rfl rfl ?_
          refine R_ic rfl (fun h37 => ?_) (fun h37 => ?_)
          · try simp only [ne_eq, b2i_e, b2i_1, Classical.not_not] at h37
            refine R_push rfl ?_
            refine R_istore rfl rfl ?_
            refine R_inc rfl rfl (by omega) (by omega) ?_
            refine R_goto rfl ?_
            first
            | exact ih (1, k + 1) ⟨by dsimp only; omega, by show 1 = _; rw [hss, if_pos (by omega)]⟩ (by dsimp only; omega)
            | exact ih (0, k + 1) ⟨by dsimp only; omega, by show 0 = _; rw [hss, if_neg (by omega)]; omega⟩ (by dsimp only; omega)
            | (refine ih (1, k + 1) ⟨by dsimp only; omega, ?_⟩ (by dsimp only; omega)
               show 1 = _
               rw [hss]
               split
               · rfl
               · omega)
          · try simp only [ne_eq, b2i_e, b2i_1, Classical.not_not] at h37
            refine R_aload rfl rfl rfl ?_
            refine T_getr (v := 115) rfl rfl rfl rfl ?_
            refine R_iload rfl rfl ?_
            refine T_ald rfl rfl (by omega) (by omega) ?_
            refine R_push rfl ?_
            refine R_ic rfl (fun h47 => ?_) (fun h47 => ?_)
            · try simp only [ne_eq, b2i_e, b2i_1, Classical.not_not] at h47
              refine R_push rfl ?_
              refine R_istore rfl rfl ?_
              refine R_inc rfl rfl (by omega) (by omega) ?_
              refine R_goto rfl ?_
              first
              | exact ih (1, k + 1) ⟨by dsimp only; omega, by show 1 = _; rw [hss, if_pos (by omega)]⟩ (by dsimp only; omega)
              | exact ih (0, k + 1) ⟨by dsimp only; omega, by show 0 = _; rw [hss, if_neg (by omega)]; omega⟩ (by dsimp only; omega)
              | (refine ih (1, k + 1) ⟨by dsimp only; omega, ?_⟩ (by dsimp only; omega)
                 show 1 = _
                 rw [hss]
                 split
                 · rfl
                 · omega)
            · try simp only [ne_eq, b2i_e, b2i_1, Classical.not_not] at h47
              refine R_aload rfl rfl rfl ?_
              refine R_iload rfl rfl ?_
              have hmt := sp_X10_mate d (by omega) xs t dd rr σ (k) J hJ hJ0
              have hmt : Ev d 81 [(87, 0), (0, k)] (Wd xs t dd rr σ) (0, mtM σ J (k)) (Wd xs t dd rr σ) := hmt
              refine R_invv rfl rfl rfl rfl rfl rfl (hmt) rfl ?_
              show pCm _ _ _ 55 _ [(0, _)] _
              refine R_if rfl (fun h55 => ?_) (fun h55 => ?_)
              · try simp only [ne_eq, b2i_e, b2i_1, Classical.not_not] at h55
                refine R_push rfl ?_
                refine R_istore rfl rfl ?_
                refine R_inc rfl rfl (by omega) (by omega) ?_
                refine R_goto rfl ?_
                first
                | exact ih (1, k + 1) ⟨by dsimp only; omega, by show 1 = _; rw [hss, if_pos (by omega)]⟩ (by dsimp only; omega)
                | exact ih (0, k + 1) ⟨by dsimp only; omega, by show 0 = _; rw [hss, if_neg (by omega)]; omega⟩ (by dsimp only; omega)
                | (refine ih (1, k + 1) ⟨by dsimp only; omega, ?_⟩ (by dsimp only; omega)
                   show 1 = _
                   rw [hss]
                   split
                   · rfl
                   · omega)
              · try simp only [ne_eq, b2i_e, b2i_1, Classical.not_not] at h55
                refine R_push rfl ?_
                refine R_goto rfl ?_
                refine R_istore rfl rfl ?_
                refine R_inc rfl rfl (by omega) (by omega) ?_
                refine R_goto rfl ?_
                first
                | exact ih (1, k + 1) ⟨by dsimp only; omega, by show 1 = _; rw [hss, if_pos (by omega)]⟩ (by dsimp only; omega)
                | exact ih (0, k + 1) ⟨by dsimp only; omega, by show 0 = _; rw [hss, if_neg (by omega)]; omega⟩ (by dsimp only; omega)
                | (refine ih (1, k + 1) ⟨by dsimp only; omega, ?_⟩ (by dsimp only; omega)
                   show 1 = _
                   rw [hss]
                   split
                   · rfl
                   · omega)
  · exact ⟨⟨Int.le_refl _, by dsimp only; omega⟩, rfl⟩

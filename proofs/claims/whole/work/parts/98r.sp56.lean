/-- the class's told text, whichever of its two Rules holds it -/
def TSx (σ : Sg) (t : Nat) (N : Int) (kd nu len : Int → Int) (K W : Int → Int → Int) : Prop := (t = 53 ∧ CT σ 37 N kd nu len K W) ∨ (t = 60 ∧ CT σ 44 N kd nu len K W)
def JS (σ : Sg) (t : Nat) (P N : Int) (kd nu len : Int → Int) (K W : Int → Int → Int) : Prop := (0 ≤ P ∧ P ≤ 40) ∧ PBs σ P ∧ (∀ f, 0 ≤ f → f < 8 * P → 0 ≤ σ 16 f ∧ σ 16 f ≤ 7) ∧ (0 ≤ σ 36 2 ∧ σ 36 2 ≤ 400) ∧ WT N kd nu len K W ∧ TSx σ t N kd nu len K W ∧ ∀ l, 0 ≤ l → l < N → 0 ≤ nu l ∧ nu l ≤ 99
def Fj (σ s : Sg) : Prop := Fr [19, 20, 42, 43, 49, 50, 51] [] σ s
theorem TSx_fr {σ s : Sg} {t : Nat} {N : Int} {kd nu len : Int → Int} {K W : Int → Int → Int} (h : TSx σ t N kd nu len K W) {r : List Nat} {sl : List (Nat × Int)} (hF : Fr r sl σ s) (hk : ([37, 38, 39, 40, 41, 44, 45, 46, 47, 48].all (fun k => !(r.contains k || sl.any (fun q => q.1 == k)))) = true) : TSx s t N kd nu len K W := by
  simp only [List.all_cons, List.all_nil, Bool.and_eq_true, Bool.not_eq_true', Bool.and_true] at hk
  obtain ⟨a1, a2, a3, a4, a5, b1, b2, b3, b4, b5⟩ := hk
  rcases h with w | w
  · exact Or.inl ⟨w.1, CT_fr w.2 (hF.fn 37 a1) (hF.fn 38 a2) (hF.fn 39 a3) (hF.fn 40 a4) (hF.fn 41 a5)⟩
  · exact Or.inr ⟨w.1, CT_fr w.2 (hF.fn 44 b1) (hF.fn 45 b2) (hF.fn 46 b3) (hF.fn 47 b4) (hF.fn 48 b5)⟩
theorem JS_fr {σ s : Sg} {t : Nat} {P N : Int} {kd nu len : Int → Int} {K W : Int → Int → Int} (h : JS σ t P N kd nu len K W) (hF : Fj σ s) : JS s t P N kd nu len K W := by
  obtain ⟨h1, h2, h3, h4, h5, h6, h7⟩ := h
  refine ⟨h1, ?_, ?_, ?_, h5, TSx_fr h6 hF rfl, h7⟩
  · unfold PBs
    rw [hF.fn 3 rfl, hF.fn 4 rfl, hF.fn 5 rfl, hF.fn 6 rfl, hF.fn 7 rfl, hF.fn 8 rfl, hF.fn 9 rfl, hF.fn 10 rfl, hF.fn 11 rfl]
    exact h2
  · rw [hF.fn 16 rfl]; exact h3
  · rw [hF.fn 36 rfl]; exact h4
theorem fitS_fr {σ s : Sg} {a b : Int} (h1 : s 15 = σ 15) (h2 : s 16 = σ 16) : fitS s a b = fitS σ a b := by unfold fitS; rw [h1, h2]
theorem mayS_fr {σ s : Sg} {N : Int} {kd nu len : Int → Int} {K W : Int → Int → Int} {a b : Int} (hF : Fj σ s) : mayS s N kd nu len K W a b = mayS σ N kd nu len K W a b := by
  have e := fitS_fr (a := a) (b := b) (hF.fn 15 rfl) (hF.fn 16 rfl)
  have e2 : ∀ p, stnS s N kd nu len K W p = stnS σ N kd nu len K W p := fun p => by
    unfold stnS; rw [hF.fn 2 rfl, hF.fn 7 rfl, hF.fn 8 rfl, hF.fn 9 rfl, hF.fn 10 rfl, hF.fn 3 rfl]
  have e3 : kmS s a b = kmS σ a b := by
    unfold kmS; rw [e, hF.fn 14 rfl, hF.fn 3 rfl, hF.fn 4 rfl, hF.fn 5 rfl, hF.fn 6 rfl, hF.fn 10 rfl, hF.fn 7 rfl, hF.fn 8 rfl, hF.fn 9 rfl]
  unfold mayS
  rw [e, e2, e2, e3, hF.fn 14 rfl, hF.fn 36 rfl, hF.fn 10 rfl]
def dbS (σ : Sg) (N : Int) (kd nu len : Int → Int) (K W : Int → Int → Int) (a b : Int) : Int := sumZ (fun l => if hld (kmS σ a b) kd nu len K W 2 l = 1 then nu l else 0) N
theorem dbS_fr {σ s : Sg} {N : Int} {kd nu len : Int → Int} {K W : Int → Int → Int} {a b : Int} (hF : Fj σ s) : dbS s N kd nu len K W a b = dbS σ N kd nu len K W a b := by
  have e := fitS_fr (a := a) (b := b) (hF.fn 15 rfl) (hF.fn 16 rfl)
  have e3 : kmS s a b = kmS σ a b := by
    unfold kmS; rw [e, hF.fn 14 rfl, hF.fn 3 rfl, hF.fn 4 rfl, hF.fn 5 rfl, hF.fn 6 rfl, hF.fn 10 rfl, hF.fn 7 rfl, hF.fn 8 rfl, hF.fn 9 rfl]
  unfold dbS; rw [e3]
theorem may_01 {σ : Sg} {N : Int} {kd nu len : Int → Int} {K W : Int → Int → Int} {a b : Int} : mayS σ N kd nu len K W a b = 0 ∨ mayS σ N kd nu len K W a b = 1 := by
  unfold mayS; exact (b2i_or).elim (fun w => Or.inr w.1) (fun w => Or.inl w.1)
theorem sp_X5_mayMeet (d : Nat) (hd : 6 ≤ d) (xs : List (Nat × Nat)) (t dd rr : Nat) (σ : Sg) (a b P N : Int) (kd nu len : Int → Int) (K W : Int → Int → Int) (hJ : JS σ t P N kd nu len K W) (ha : 0 ≤ a ∧ a < 8 * P) (hb : 0 ≤ b ∧ b < 8 * P) : ∃ σ', Ev d 201 [(52, 0), (0, a), (0, b)] (Wd xs t dd rr σ) (0, mayS σ N kd nu len K W a b) (Wd xs t dd rr σ') ∧ Fj σ σ' := by
  obtain ⟨h1, h2, h3, h4, h5, h6, h7⟩ := hJ
  rcases h6 with w | w
  · obtain ⟨s, hev, hF⟩ := sp_X5_mayMeet_37 d hd xs t dd rr σ a b P h1.2 h2 ⟨ha.1, by omega⟩ ⟨hb.1, by omega⟩ (h3 a ha.1 ha.2) (h3 b hb.1 hb.2) N kd nu len K W h5 w.2 h7 w.1 h4
    exact ⟨s, hev, hF.tr (r2 := []) (s2 := []) Fr.rf rfl rfl⟩
  · obtain ⟨s, hev, hF⟩ := sp_X5_mayMeet_44 d hd xs t dd rr σ a b P h1.2 h2 ⟨ha.1, by omega⟩ ⟨hb.1, by omega⟩ (h3 a ha.1 ha.2) (h3 b hb.1 hb.2) N kd nu len K W h5 w.2 h7 w.1 h4
    exact ⟨s, hev, hF.tr (r2 := []) (s2 := []) Fr.rf rfl rfl⟩
theorem sp_X5_doubtOf (d : Nat) (hd : 6 ≤ d) (xs : List (Nat × Nat)) (t dd rr : Nat) (σ : Sg) (a b P N : Int) (kd nu len : Int → Int) (K W : Int → Int → Int) (hJ : JS σ t P N kd nu len K W) (ha : 0 ≤ a ∧ a < 8 * P) (hb : 0 ≤ b ∧ b < 8 * P) : ∃ σ', Ev d 205 [(52, 0), (0, a), (0, b)] (Wd xs t dd rr σ) (0, dbS σ N kd nu len K W a b) (Wd xs t dd rr σ') ∧ Fj σ σ' := by
  obtain ⟨h1, h2, h3, h4, h5, h6, h7⟩ := hJ
  rcases h6 with w | w
  · obtain ⟨s, hev, hF⟩ := sp_X5_doubtOf_37 d hd xs t dd rr σ a b P h1.2 h2 ⟨ha.1, by omega⟩ ⟨hb.1, by omega⟩ (h3 a ha.1 ha.2) (h3 b hb.1 hb.2) N kd nu len K W h5 w.2 h7 w.1
    exact ⟨s, hev, hF.tr (r2 := []) (s2 := []) Fr.rf rfl rfl⟩
  · obtain ⟨s, hev, hF⟩ := sp_X5_doubtOf_44 d hd xs t dd rr σ a b P h1.2 h2 ⟨ha.1, by omega⟩ ⟨hb.1, by omega⟩ (h3 a ha.1 ha.2) (h3 b hb.1 hb.2) N kd nu len K W h5 w.2 h7 w.1
    exact ⟨s, hev, hF.tr (r2 := []) (s2 := []) Fr.rf rfl rfl⟩
theorem sp_X5_stoneOf (d : Nat) (hd : 5 ≤ d) (xs : List (Nat × Nat)) (t dd rr : Nat) (σ : Sg) (p P N : Int) (kd nu len : Int → Int) (K W : Int → Int → Int) (hJ : JS σ t P N kd nu len K W) (hp : 0 ≤ p ∧ p < P) : ∃ σ', Ev d 204 [(52, 0), (0, p)] (Wd xs t dd rr σ) (0, stnS σ N kd nu len K W p) (Wd xs t dd rr σ') ∧ Fj σ σ' := by
  obtain ⟨h1, h2, h3, h4, h5, h6, h7⟩ := hJ
  rcases h6 with w | w
  · obtain ⟨s, hev, hF⟩ := sp_X5_stoneOf_37 d hd xs t dd rr σ p ⟨hp.1, by omega⟩ N kd nu len K W h5 w.2 h7 w.1
    exact ⟨s, hev, hF.tr (r2 := []) (s2 := []) Fr.rf rfl rfl⟩
  · obtain ⟨s, hev, hF⟩ := sp_X5_stoneOf_44 d hd xs t dd rr σ p ⟨hp.1, by omega⟩ N kd nu len K W h5 w.2 h7 w.1
    exact ⟨s, hev, hF.tr (r2 := []) (s2 := []) Fr.rf rfl rfl⟩
def meV (ft my db w : Int) : Int := if w = 0 then ft / 8 else if w = 1 then ft % 8 else if w = 2 then my else if my = 1 then db else 0
/-- the i-th of those that are so -/
def cst (g : Int → Int) (k : Int) (a : Int × Int) : Int × Int := if a.2 = -1 ∧ g k = 1 then (if a.1 = 0 then (0, k) else (a.1 - 1, -1)) else a
def cnF (g : Int → Int) (i n : Int) : Int × Int := foldZ (cst g) n (i, -1)
theorem cnF_s {g : Int → Int} {i n : Int} (h : 0 ≤ n) : cnF g i (n + 1) = cst g n (cnF g i n) := foldZ_s h
theorem cnF_st {g : Int → Int} {i n : Int} (h : 0 ≤ n) (hs : (cnF g i n).2 ≠ -1) : ∀ j : Nat, cnF g i (n + j) = cnF g i n := by
  intro j
  induction j with
  | zero => simp
  | succ j ih =>
    have e : cnF g i (n + j + 1) = _ := cnF_s (n := n + j) (by omega)
    rw [show n + ((j + 1 : Nat) : Int) = n + j + 1 by omega, e, ih]
    unfold cst
    rw [if_neg (fun w => hs w.1)]
theorem cnF_ext {g : Int → Int} {i n : Int} (h : 0 ≤ n) : ∀ j : Nat, (∀ k, n ≤ k → k < n + j → g k ≠ 1) → cnF g i (n + j) = cnF g i n := by
  intro j
  induction j with
  | zero => intro _; simp
  | succ j ih =>
    intro hg
    have e : cnF g i (n + j + 1) = _ := cnF_s (n := n + j) (by omega)
    rw [show n + ((j + 1 : Nat) : Int) = n + j + 1 by omega, e, ih (fun k k0 k1 => hg k k0 (by omega))]
    unfold cst
    rw [if_neg (fun w => hg (n + j) (by omega) (by omega) w.2)]
theorem cnF_c {g g' : Int → Int} {i n : Int} (h : ∀ k, 0 ≤ k → k < n → g k = g' k) : cnF g i n = cnF g' i n := foldZ_congr (fun k k0 k1 x => by unfold cst; rw [h k k0 k1])
set_option maxRecDepth 20000 in
set_option maxHeartbeats 2000000 in
theorem sp_X9_meet (d : Nat) (hd : 7 ≤ d) (xs : List (Nat × Nat)) (t dd rr : Nat) (σ : Sg) (a b w : Int) (hab : a < 2147483648 ∧ b < 2147483648) (P : Int) (N : Int) (kd nu len : Int → Int) (K W : Int → Int → Int) (hJ : JS σ t P N kd nu len K W) (h13 : ∀ p, P ≤ p → p < 40 → σ 13 p = 0)  : ∃ σ', Ev d 8 [(16, 0), (0, a), (0, b), (0, w)] (Wd xs t dd rr σ) (if (0 ≤ a ∧ a < 320 ∧ a % 8 < σ 13 (a / 8)) ∧ (0 ≤ b ∧ b < 320 ∧ b % 8 < σ 13 (b / 8)) ∧ a / 8 ≠ b / 8 ∧ 0 ≤ w ∧ w ≤ 3 then (0, meV (fitS σ a b) (mayS σ N kd nu len K W a b) (dbS σ N kd nu len K W a b) w) else (7, 0)) (Wd xs t dd rr σ') ∧ Fj σ σ' := by
  obtain ⟨d, rfl⟩ : ∃ e, d = e + 1 := ⟨d - 1, by omega⟩
  have hP := hJ.1
  have h8a : (0 ≤ a ∧ a < 320 ∧ a % 8 < σ 13 (a / 8)) → a < 8 * P := fun w => by
    by_cases q : P ≤ a / 8
    · have := h13 (a / 8) q (by omega); omega
    · omega
  have h8b : (0 ≤ b ∧ b < 320 ∧ b % 8 < σ 13 (b / 8)) → b < 8 * P := fun w => by
    by_cases q : P ≤ b / 8
    · have := h13 (b / 8) q (by omega); omega
    · omega
  have hm01 := may_01 (σ := σ) (N := N) (kd := kd) (nu := nu) (len := len) (K := K) (W := W) (a := a) (b := b)
  refine evS (nL := 4) (code := k_X9_meet) rfl dc_X9_meet rfl (fun E hE => ?_)
  show pCm (Ev d) k_X9_meet E 0 [(16, 0), (0, a), (0, b), (0, w)] [] _
  refine R_aload rfl rfl rfl ?_
  refine T_getr (v := 28) rfl rfl rfl rfl ?_
  refine R_iload rfl rfl ?_
  refine R_invv rfl rfl rfl rfl rfl rfl (sp_X1_has d (by omega) xs t dd rr σ a hab.1) rfl ?_
  show pCm _ _ _ 8 _ [(0, _)] _
  refine R_if rfl (fun h8 => ?_) (fun h8 => ?_)
  · try simp only [ne_eq, b2i_e, b2i_1, Classical.not_not] at h8
    refine R_thr rfl ?_
    exact hE _ _ (by rw [if_neg (by omega)]) Fr.rf
  · try simp only [ne_eq, b2i_e, b2i_1, Classical.not_not] at h8
    refine R_aload rfl rfl rfl ?_
    refine T_getr (v := 28) rfl rfl rfl rfl ?_
    refine R_iload rfl rfl ?_
    refine R_invv rfl rfl rfl rfl rfl rfl (sp_X1_has d (by omega) xs t dd rr σ b hab.2) rfl ?_
    show pCm _ _ _ 19 _ [(0, _)] _
    refine R_if rfl (fun h19 => ?_) (fun h19 => ?_)
    · try simp only [ne_eq, b2i_e, b2i_1, Classical.not_not] at h19
      refine R_thr rfl ?_
      exact hE _ _ (by rw [if_neg (by omega)]) Fr.rf
    · try simp only [ne_eq, b2i_e, b2i_1, Classical.not_not] at h19
      refine R_iload rfl rfl ?_
      refine R_push rfl ?_
      refine R_dv rfl (by omega) (by omega) (by omega) ?_
      refine R_iload rfl rfl ?_
      refine R_push rfl ?_
      refine R_dv rfl (by omega) (by omega) (by omega) ?_
      refine R_ic rfl (fun h30 => ?_) (fun h30 => ?_)
      · try simp only [ne_eq, b2i_e, b2i_1, Classical.not_not] at h30
        have h9a := h8a (by omega)
        have h9b := h8b (by omega)
        refine R_iload rfl rfl ?_
        refine R_tswL rfl ⟨fun h44 => ?_, fun h44 => ?_, fun h44 => ?_, fun h44 => ?_, trivial⟩ (fun h44 => ?_)
        · try dsimp only at h44
          refine R_aload rfl rfl rfl ?_
          refine T_getr (v := 28) rfl rfl rfl rfl ?_
          refine R_iload rfl rfl ?_
          refine R_iload rfl rfl ?_
          obtain ⟨s1, hev1, hF1⟩ := sp_X1_fit d (by omega) xs t dd rr σ a b ⟨by omega, by omega⟩ ⟨by omega, by omega⟩ (hJ.2.2.1 a (by omega) (by omega)) (hJ.2.2.1 b (by omega) (by omega))
          have hev1 : Ev d 157 [(28, 0), (0, a), (0, b)] (Wd xs t dd rr σ) (0, fitS σ a b) (Wd xs t dd rr s1) := hev1
          have hFj1 : Fj σ s1 := hF1.tr (r2 := []) (s2 := []) Fr.rf rfl rfl
          have hfb := fitS_bd (σ := σ) (a := a) (b := b)
          refine R_invv rfl rfl rfl rfl rfl rfl (hev1) rfl ?_
          show pCm _ _ _ 85 _ [(0, _)] _
          refine R_push rfl ?_
          refine R_dv rfl (by omega) (by omega) (by omega) ?_
          refine R_iret rfl ?_
          refine hE _ _ (Eq.symm ((if_pos ⟨⟨by omega, by omega, by omega⟩, ⟨by omega, by omega, by omega⟩, by omega, by omega, by omega⟩).trans ?_)) hFj1
          unfold meV
          rw [if_pos (by omega)]
        · try dsimp only at h44
          refine R_aload rfl rfl rfl ?_
          refine T_getr (v := 28) rfl rfl rfl rfl ?_
          refine R_iload rfl rfl ?_
          refine R_iload rfl rfl ?_
          obtain ⟨s1, hev1, hF1⟩ := sp_X1_fit d (by omega) xs t dd rr σ a b ⟨by omega, by omega⟩ ⟨by omega, by omega⟩ (hJ.2.2.1 a (by omega) (by omega)) (hJ.2.2.1 b (by omega) (by omega))
          have hev1 : Ev d 157 [(28, 0), (0, a), (0, b)] (Wd xs t dd rr σ) (0, fitS σ a b) (Wd xs t dd rr s1) := hev1
          have hFj1 : Fj σ s1 := hF1.tr (r2 := []) (s2 := []) Fr.rf rfl rfl
          have hfb := fitS_bd (σ := σ) (a := a) (b := b)
          refine R_invv rfl rfl rfl rfl rfl rfl (hev1) rfl ?_
          show pCm _ _ _ 98 _ [(0, _)] _
          refine R_push rfl ?_
          refine R_rm rfl (by omega) (by omega) (by omega) ?_
          refine R_iret rfl ?_
          refine hE _ _ (Eq.symm ((if_pos ⟨⟨by omega, by omega, by omega⟩, ⟨by omega, by omega, by omega⟩, by omega, by omega, by omega⟩).trans ?_)) hFj1
          unfold meV
          rw [if_neg (by omega), if_pos (by omega)]
        · try dsimp only at h44
          refine R_aload rfl rfl rfl ?_
          refine T_getr (v := 52) rfl rfl rfl rfl ?_
          refine R_iload rfl rfl ?_
          refine R_iload rfl rfl ?_
          obtain ⟨s1, hevs1, hFs1⟩ := sp_X5_mayMeet d (by omega) xs t dd rr σ a b P N kd nu len K W hJ ⟨by omega, by omega⟩ ⟨by omega, by omega⟩
          refine R_invv rfl rfl rfl rfl rfl rfl (hevs1) rfl ?_
          show pCm _ _ _ 111 _ [(0, _)] _
          refine R_if rfl (fun h111 => ?_) (fun h111 => ?_)
          · try simp only [ne_eq, b2i_e, b2i_1, Classical.not_not] at h111
            refine R_push rfl ?_
            refine R_iret rfl ?_
            refine hE _ _ (Eq.symm ((if_pos ⟨⟨by omega, by omega, by omega⟩, ⟨by omega, by omega, by omega⟩, by omega, by omega, by omega⟩).trans ?_)) hFs1
            unfold meV
            rw [if_neg (by omega), if_neg (by omega), if_pos (by omega)]
            first | (congr 1; done) | (congr 1; omega)
          · try simp only [ne_eq, b2i_e, b2i_1, Classical.not_not] at h111
            refine R_push rfl ?_
            refine R_goto rfl ?_
            refine R_iret rfl ?_
            refine hE _ _ (Eq.symm ((if_pos ⟨⟨by omega, by omega, by omega⟩, ⟨by omega, by omega, by omega⟩, by omega, by omega, by omega⟩).trans ?_)) hFs1
            unfold meV
            rw [if_neg (by omega), if_neg (by omega), if_pos (by omega)]
            first | (congr 1; done) | (congr 1; omega)
        · try dsimp only at h44
          refine R_aload rfl rfl rfl ?_
          refine T_getr (v := 52) rfl rfl rfl rfl ?_
          refine R_iload rfl rfl ?_
          refine R_iload rfl rfl ?_
          obtain ⟨s1, hevs1, hFs1⟩ := sp_X5_mayMeet d (by omega) xs t dd rr σ a b P N kd nu len K W hJ ⟨by omega, by omega⟩ ⟨by omega, by omega⟩
          refine R_invv rfl rfl rfl rfl rfl rfl (hevs1) rfl ?_
          show pCm _ _ _ 129 _ [(0, _)] _
          refine R_if rfl (fun h129 => ?_) (fun h129 => ?_)
          · try simp only [ne_eq, b2i_e, b2i_1, Classical.not_not] at h129
            refine R_push rfl ?_
            refine R_iret rfl ?_
            first
            | (refine hE _ _ (Eq.symm ((if_pos ⟨⟨by omega, by omega, by omega⟩, ⟨by omega, by omega, by omega⟩, by omega, by omega, by omega⟩).trans ?_)) hFs2
               unfold meV
               rw [if_neg (by omega), if_neg (by omega), if_neg (by omega), if_pos (by omega)])
            | (refine hE _ _ (Eq.symm ((if_pos ⟨⟨by omega, by omega, by omega⟩, ⟨by omega, by omega, by omega⟩, by omega, by omega, by omega⟩).trans ?_)) hFs1
               unfold meV
               rw [if_neg (by omega), if_neg (by omega), if_neg (by omega), if_neg (by omega)])
          · try simp only [ne_eq, b2i_e, b2i_1, Classical.not_not] at h129
            refine R_aload rfl rfl rfl ?_
            refine T_getr (v := 52) rfl rfl rfl rfl ?_
            refine R_iload rfl rfl ?_
            refine R_iload rfl rfl ?_
            obtain ⟨s2, hevs2, hFs2⟩ := sp_X5_doubtOf d (by omega) xs t dd rr s1 a b P N kd nu len K W (JS_fr hJ hFs1) ⟨by omega, by omega⟩ ⟨by omega, by omega⟩
            rw [dbS_fr hFs1] at hevs2
            have hFs2 : Fj σ s2 := hFs1.tr hFs2 rfl rfl
            refine R_invv rfl rfl rfl rfl rfl rfl (hevs2) rfl ?_
            show pCm _ _ _ 141 _ [(0, _)] _
            refine R_goto rfl ?_
            refine R_iret rfl ?_
            first
            | (refine hE _ _ (Eq.symm ((if_pos ⟨⟨by omega, by omega, by omega⟩, ⟨by omega, by omega, by omega⟩, by omega, by omega, by omega⟩).trans ?_)) hFs2
               unfold meV
               rw [if_neg (by omega), if_neg (by omega), if_neg (by omega), if_pos (by omega)])
            | (refine hE _ _ (Eq.symm ((if_pos ⟨⟨by omega, by omega, by omega⟩, ⟨by omega, by omega, by omega⟩, by omega, by omega, by omega⟩).trans ?_)) hFs1
               unfold meV
               rw [if_neg (by omega), if_neg (by omega), if_neg (by omega), if_neg (by omega)])
        · try dsimp only at h44
          refine R_thr rfl ?_
          have h44x : w < 0 ∨ 0 + 4 ≤ w := h44
          exact hE _ _ (by rw [if_neg (by omega)]) Fr.rf
      · try simp only [ne_eq, b2i_e, b2i_1, Classical.not_not] at h30
        refine R_thr rfl ?_
        exact hE _ _ (by rw [if_neg (by omega)]) Fr.rf
set_option maxRecDepth 20000 in
set_option maxHeartbeats 2000000 in
theorem sp_X9_candidate (d : Nat) (hd : 7 ≤ d) (xs : List (Nat × Nat)) (t dd rr : Nat) (σ : Sg) (f i : Int) (hfi : f < 2147483648) (P : Int) (N : Int) (kd nu len : Int → Int) (K W : Int → Int → Int) (hJ : JS σ t P N kd nu len K W) (h13 : ∀ p, P ≤ p → p < 40 → σ 13 p = 0)  : ∃ σ', Ev d 9 [(16, 0), (0, f), (0, i)] (Wd xs t dd rr σ) (0, if (0 ≤ f ∧ f < 320 ∧ f % 8 < σ 13 (f / 8)) ∧ 0 ≤ i then (cnF (fun k => b2i (hsS σ k = 1 ∧ mayS σ N kd nu len K W f k = 1)) i 320).2 else -1) (Wd xs t dd rr σ') ∧ Fj σ σ' := by
  obtain ⟨d, rfl⟩ : ∃ e, d = e + 1 := ⟨d - 1, by omega⟩
  have hP := hJ.1
  have h8f : (0 ≤ f ∧ f < 320 ∧ f % 8 < σ 13 (f / 8)) → f < 8 * P := fun w => by
    by_cases q : P ≤ f / 8
    · have := h13 (f / 8) q (by omega); omega
    · omega
  refine evS (nL := 5) (code := k_X9_candidate) rfl dc_X9_candidate rfl (fun E hE => ?_)
  show pCm (Ev d) k_X9_candidate E 0 [(16, 0), (0, f), (0, i), (9, 0), (9, 0)] [] _
  refine R_aload rfl rfl rfl ?_
  refine T_getr (v := 28) rfl rfl rfl rfl ?_
  refine R_iload rfl rfl ?_
  refine R_invv rfl rfl rfl rfl rfl rfl (sp_X1_has d (by omega) xs t dd rr σ f hfi) rfl ?_
  show pCm _ _ _ 8 _ [(0, _)] _
  refine R_if rfl (fun h8 => ?_) (fun h8 => ?_)
  · try simp only [ne_eq, b2i_e, b2i_1, Classical.not_not] at h8
    refine R_push rfl ?_
    refine R_iret rfl ?_
    exact hE _ _ (by rw [if_neg (by omega)]) Fr.rf
  · try simp only [ne_eq, b2i_e, b2i_1, Classical.not_not] at h8
    refine R_iload rfl rfl ?_
    refine R_if rfl (fun h12 => ?_) (fun h12 => ?_)
    · try simp only [ne_eq, b2i_e, b2i_1, Classical.not_not] at h12
      have h9f := h8f (by omega)
      refine R_push rfl ?_
      refine R_istore rfl rfl ?_
      refine R_push rfl ?_
      refine R_istore rfl rfl ?_
      refine loop (pc := 22) (α := Int × Int × Sg) (fun x => (320 - x.2.1).toNat) (fun x => ([(16, 0), (0, f), (0, i), (0, x.1), (0, x.2.1)], Wd xs t dd rr x.2.2)) (fun x => (0 ≤ x.2.1 ∧ x.2.1 ≤ 320) ∧ Fj σ x.2.2 ∧ (0 ≤ x.1 ∧ x.1 ≤ i ∧ x.1 ≤ x.2.1) ∧ cnF (fun k => b2i (hsS σ k = 1 ∧ mayS σ N kd nu len K W f k = 1)) i x.2.1 = (i - x.1, -1)) ?_ (0, 0, σ) ?_
      · intro ⟨n, k, s1⟩ ⟨⟨hk0, hk1⟩, hF, hn, hc⟩ ih
        dsimp only at hk0 hk1 hF hn hc ⊢
        have hcs : cnF (fun k => b2i (hsS σ k = 1 ∧ mayS σ N kd nu len K W f k = 1)) i (k + 1) = if b2i (hsS σ k = 1 ∧ mayS σ N kd nu len K W f k = 1) = 1 then (if i - n = 0 then (0, k) else (i - n - 1, -1)) else (i - n, -1) := by
          rw [cnF_s hk0, hc]
          unfold cst
          by_cases w : b2i (hsS σ k = 1 ∧ mayS σ N kd nu len K W f k = 1) = 1
          · rw [if_pos ⟨rfl, w⟩, if_pos w]
          · rw [if_neg (fun z => w z.2), if_neg w]
        have hsd : hsS σ k = 1 ↔ k % 8 < σ 13 (k / 8) := by
          unfold hsS b2i; split <;> omega
        have h8k : (0 ≤ k ∧ k < 320 ∧ k % 8 < σ 13 (k / 8)) → k < 8 * P := fun w => by
          by_cases q : P ≤ k / 8
          · have := h13 (k / 8) q (by omega); omega
          · omega
        have e13 := hF.row 13 rfl (k / 8)
        refine R_iload rfl rfl ?_
        refine R_push rfl ?_
        refine R_ic rfl (fun h27 => ?_) (fun h27 => ?_)
        · try simp only [ne_eq, b2i_e, b2i_1, Classical.not_not] at h27
          refine R_push rfl ?_
          refine R_iret rfl ?_
          exact hE _ _ (by
            rw [show k = 320 by omega] at hc
            rw [if_pos (by omega), hc]) hF
        · try simp only [ne_eq, b2i_e, b2i_1, Classical.not_not] at h27
          refine R_aload rfl rfl rfl ?_
          refine T_getr (v := 28) rfl rfl rfl rfl ?_
          refine R_iload rfl rfl ?_
          have hhs := sp_X1_has d (by omega) xs t dd rr s1 k (by omega)
          rw [e13] at hhs
          refine R_invv rfl rfl rfl rfl rfl rfl (hhs) rfl ?_
          show pCm _ _ _ 39 _ [(0, _)] _
          refine R_if rfl (fun h39 => ?_) (fun h39 => ?_)
          · try simp only [ne_eq, b2i_e, b2i_1, Classical.not_not] at h39
            refine R_inc rfl rfl (by omega) (by omega) ?_
            refine R_goto rfl ?_
            first
            | (rw [b2i_f (by omega), if_neg (by omega)] at hcs
               exact ih (n, k + 1, s1) ⟨by dsimp only; omega, hF, by dsimp only; omega, hcs⟩ (by dsimp only; omega))
            | (rw [b2i_f (by omega), if_neg (by omega)] at hcs
               exact ih (n, k + 1, s2) ⟨by dsimp only; omega, hFs2, by dsimp only; omega, hcs⟩ (by dsimp only; omega))
            | (rw [b2i_t (by omega), if_pos rfl, if_neg (by omega)] at hcs
               exact ih (n + 1, k + 1, s2) ⟨by dsimp only; omega, hFs2, by dsimp only; omega, by dsimp only; rw [hcs]; congr 1; omega⟩ (by dsimp only; omega))
          · try simp only [ne_eq, b2i_e, b2i_1, Classical.not_not] at h39
            have h9k := h8k (by omega)
            have hm01 := may_01 (σ := σ) (N := N) (kd := kd) (nu := nu) (len := len) (K := K) (W := W) (a := f) (b := k)
            refine R_aload rfl rfl rfl ?_
            refine T_getr (v := 52) rfl rfl rfl rfl ?_
            refine R_iload rfl rfl ?_
            refine R_iload rfl rfl ?_
            obtain ⟨s2, hevs2, hFs2⟩ := sp_X5_mayMeet d (by omega) xs t dd rr s1 f k P N kd nu len K W (JS_fr hJ hF) ⟨by omega, by omega⟩ ⟨by omega, by omega⟩
            rw [mayS_fr hF] at hevs2
            have hFs2 : Fj σ s2 := hF.tr hFs2 rfl rfl
            refine R_invv rfl rfl rfl rfl rfl rfl (hevs2) rfl ?_
            show pCm _ _ _ 52 _ [(0, _)] _
            refine R_if rfl (fun h52 => ?_) (fun h52 => ?_)
            · try simp only [ne_eq, b2i_e, b2i_1, Classical.not_not] at h52
              refine R_iload rfl rfl ?_
              refine R_iload rfl rfl ?_
              refine R_ic rfl (fun h60 => ?_) (fun h60 => ?_)
              · try simp only [ne_eq, b2i_e, b2i_1, Classical.not_not] at h60
                refine R_inc rfl rfl (by omega) (by omega) ?_
                refine R_inc rfl rfl (by omega) (by omega) ?_
                refine R_goto rfl ?_
                first
                | (rw [b2i_f (by omega), if_neg (by omega)] at hcs
                   exact ih (n, k + 1, s1) ⟨by dsimp only; omega, hF, by dsimp only; omega, hcs⟩ (by dsimp only; omega))
                | (rw [b2i_f (by omega), if_neg (by omega)] at hcs
                   exact ih (n, k + 1, s2) ⟨by dsimp only; omega, hFs2, by dsimp only; omega, hcs⟩ (by dsimp only; omega))
                | (rw [b2i_t (by omega), if_pos rfl, if_neg (by omega)] at hcs
                   exact ih (n + 1, k + 1, s2) ⟨by dsimp only; omega, hFs2, by dsimp only; omega, by dsimp only; rw [hcs]; congr 1; omega⟩ (by dsimp only; omega))
              · try simp only [ne_eq, b2i_e, b2i_1, Classical.not_not] at h60
                refine R_iload rfl rfl ?_
                refine R_iret rfl ?_
                refine hE _ _ ?_ hFs2
                rw [b2i_t (by omega), if_pos rfl, if_pos (by omega)] at hcs
                have hst := cnF_st (g := (fun k => b2i (hsS σ k = 1 ∧ mayS σ N kd nu len K W f k = 1))) (i := i) (n := k + 1) (by omega) (by rw [hcs]; dsimp only; omega) (320 - (k + 1)).toNat
                rw [show k + 1 + ((320 - (k + 1)).toNat : Int) = 320 by omega, hcs] at hst
                rw [if_pos (by omega), hst]
            · try simp only [ne_eq, b2i_e, b2i_1, Classical.not_not] at h52
              refine R_goto rfl ?_
              refine R_inc rfl rfl (by omega) (by omega) ?_
              refine R_goto rfl ?_
              first
              | (rw [b2i_f (by omega), if_neg (by omega)] at hcs
                 exact ih (n, k + 1, s1) ⟨by dsimp only; omega, hF, by dsimp only; omega, hcs⟩ (by dsimp only; omega))
              | (rw [b2i_f (by omega), if_neg (by omega)] at hcs
                 exact ih (n, k + 1, s2) ⟨by dsimp only; omega, hFs2, by dsimp only; omega, hcs⟩ (by dsimp only; omega))
              | (rw [b2i_t (by omega), if_pos rfl, if_neg (by omega)] at hcs
                 exact ih (n + 1, k + 1, s2) ⟨by dsimp only; omega, hFs2, by dsimp only; omega, by dsimp only; rw [hcs]; congr 1; omega⟩ (by dsimp only; omega))
      · exact ⟨by dsimp only; omega, Fr.rf, by dsimp only; omega, by dsimp only; rw [Int.sub_zero]; rfl⟩
    · try simp only [ne_eq, b2i_e, b2i_1, Classical.not_not] at h12
      refine R_push rfl ?_
      refine R_iret rfl ?_
      exact hE _ _ (by rw [if_neg (by omega)]) Fr.rf
set_option maxRecDepth 20000 in
set_option maxHeartbeats 2000000 in
theorem sp_X9_rivals (d : Nat) (hd : 7 ≤ d) (xs : List (Nat × Nat)) (t dd rr : Nat) (σ : Sg) (a b : Int) (P : Int) (N : Int) (kd nu len : Int → Int) (K W : Int → Int → Int) (hJ : JS σ t P N kd nu len K W) (h13 : ∀ p, P ≤ p → p < 40 → σ 13 p = 0) (ha : 0 ≤ a ∧ a < 8 * P) (hb : 0 ≤ b ∧ b < 8 * P) : ∃ σ', Ev d 26 [(16, 0), (0, a), (0, b)] (Wd xs t dd rr σ) (0, sumZ (fun k => b2i ((k ≠ a ∧ k ≠ b) ∧ hsS σ k = 1 ∧ (mayS σ N kd nu len K W k a = 1 ∨ mayS σ N kd nu len K W k b = 1))) 320) (Wd xs t dd rr σ') ∧ Fj σ σ' := by
  obtain ⟨d, rfl⟩ : ∃ e, d = e + 1 := ⟨d - 1, by omega⟩
  have hP := hJ.1
  refine evS (nL := 5) (code := k_X9_rivals) rfl dc_X9_rivals rfl (fun E hE => ?_)
  show pCm (Ev d) k_X9_rivals E 0 [(16, 0), (0, a), (0, b), (9, 0), (9, 0)] [] _
  refine R_push rfl ?_
  refine R_istore rfl rfl ?_
  refine R_push rfl ?_
  refine R_istore rfl rfl ?_
  refine loop (pc := 5) (α := Int × Int × Sg) (fun x => (320 - x.2.1).toNat) (fun x => ([(16, 0), (0, a), (0, b), (0, x.1), (0, x.2.1)], Wd xs t dd rr x.2.2)) (fun x => (0 ≤ x.2.1 ∧ x.2.1 ≤ 320) ∧ Fj σ x.2.2 ∧ x.1 = sumZ (fun k => b2i ((k ≠ a ∧ k ≠ b) ∧ hsS σ k = 1 ∧ (mayS σ N kd nu len K W k a = 1 ∨ mayS σ N kd nu len K W k b = 1))) x.2.1) ?_ (0, 0, σ) ?_
  · intro ⟨n, k, s1⟩ ⟨⟨hk0, hk1⟩, hF, hn⟩ ih
    dsimp only at hk0 hk1 hF hn ⊢
    have hss := sumZ_s (f := (fun k => b2i ((k ≠ a ∧ k ≠ b) ∧ hsS σ k = 1 ∧ (mayS σ N kd nu len K W k a = 1 ∨ mayS σ N kd nu len K W k b = 1)))) hk0
    have hsb := sumZ_bd (f := (fun k => b2i ((k ≠ a ∧ k ≠ b) ∧ hsS σ k = 1 ∧ (mayS σ N kd nu len K W k a = 1 ∨ mayS σ N kd nu len K W k b = 1)))) (c := 1) hk0 (fun _ _ _ => b2i_bd)
    rw [← hn] at hss hsb
    have hsd : hsS σ k = 1 ↔ k % 8 < σ 13 (k / 8) := by
      unfold hsS b2i; split <;> omega
    have h8k : (0 ≤ k ∧ k < 320 ∧ k % 8 < σ 13 (k / 8)) → k < 8 * P := fun w => by
      by_cases q : P ≤ k / 8
      · have := h13 (k / 8) q (by omega); omega
      · omega
    have e13 := hF.row 13 rfl (k / 8)
    refine R_iload rfl rfl ?_
    refine R_push rfl ?_
    refine R_ic rfl (fun h10 => ?_) (fun h10 => ?_)
    · try simp only [ne_eq, b2i_e, b2i_1, Classical.not_not] at h10
      refine R_iload rfl rfl ?_
      refine R_iret rfl ?_
      exact hE _ _ (by rw [hn, show k = 320 by omega]) hF
    · try simp only [ne_eq, b2i_e, b2i_1, Classical.not_not] at h10
      refine R_iload rfl rfl ?_
      refine R_iload rfl rfl ?_
      refine R_ic rfl (fun h16 => ?_) (fun h16 => ?_)
      · try simp only [ne_eq, b2i_e, b2i_1, Classical.not_not] at h16
        refine R_inc rfl rfl (by omega) (by omega) ?_
        refine R_goto rfl ?_
        first
        | exact ih (n, k + 1, s1) ⟨by dsimp only; omega, hF, by dsimp only; rw [hss, b2i_f (by omega)]; omega⟩ (by dsimp only; omega)
        | exact ih (n, k + 1, s3) ⟨by dsimp only; omega, hFs3, by dsimp only; rw [hss, b2i_f (by omega)]; omega⟩ (by dsimp only; omega)
        | exact ih (n + 1, k + 1, s3) ⟨by dsimp only; omega, hFs3, by dsimp only; rw [hss, b2i_t (by omega)]⟩ (by dsimp only; omega)
        | exact ih (n + 1, k + 1, s2) ⟨by dsimp only; omega, hFs2, by dsimp only; rw [hss, b2i_t (by omega)]⟩ (by dsimp only; omega)
      · try simp only [ne_eq, b2i_e, b2i_1, Classical.not_not] at h16
        refine R_iload rfl rfl ?_
        refine R_iload rfl rfl ?_
        refine R_ic rfl (fun h22 => ?_) (fun h22 => ?_)
        · try simp only [ne_eq, b2i_e, b2i_1, Classical.not_not] at h22
          refine R_inc rfl rfl (by omega) (by omega) ?_
          refine R_goto rfl ?_
          first
          | exact ih (n, k + 1, s1) ⟨by dsimp only; omega, hF, by dsimp only; rw [hss, b2i_f (by omega)]; omega⟩ (by dsimp only; omega)
          | exact ih (n, k + 1, s3) ⟨by dsimp only; omega, hFs3, by dsimp only; rw [hss, b2i_f (by omega)]; omega⟩ (by dsimp only; omega)
          | exact ih (n + 1, k + 1, s3) ⟨by dsimp only; omega, hFs3, by dsimp only; rw [hss, b2i_t (by omega)]⟩ (by dsimp only; omega)
          | exact ih (n + 1, k + 1, s2) ⟨by dsimp only; omega, hFs2, by dsimp only; rw [hss, b2i_t (by omega)]⟩ (by dsimp only; omega)
        · try simp only [ne_eq, b2i_e, b2i_1, Classical.not_not] at h22
          refine R_aload rfl rfl rfl ?_
          refine T_getr (v := 28) rfl rfl rfl rfl ?_
          refine R_iload rfl rfl ?_
          have hhs := sp_X1_has d (by omega) xs t dd rr s1 k (by omega)
          rw [e13] at hhs
          refine R_invv rfl rfl rfl rfl rfl rfl (hhs) rfl ?_
          show pCm _ _ _ 34 _ [(0, _)] _
          refine R_if rfl (fun h34 => ?_) (fun h34 => ?_)
          · try simp only [ne_eq, b2i_e, b2i_1, Classical.not_not] at h34
            have h9k := h8k (by omega)
            have hm01 := may_01 (σ := σ) (N := N) (kd := kd) (nu := nu) (len := len) (K := K) (W := W) (a := k) (b := a)
            have hm02 := may_01 (σ := σ) (N := N) (kd := kd) (nu := nu) (len := len) (K := K) (W := W) (a := k) (b := b)
            refine R_aload rfl rfl rfl ?_
            refine T_getr (v := 52) rfl rfl rfl rfl ?_
            refine R_iload rfl rfl ?_
            refine R_iload rfl rfl ?_
            obtain ⟨s2, hevs2, hFs2⟩ := sp_X5_mayMeet d (by omega) xs t dd rr s1 k a P N kd nu len K W (JS_fr hJ hF) ⟨by omega, by omega⟩ ⟨by omega, by omega⟩
            rw [mayS_fr hF] at hevs2
            have hFs2 : Fj σ s2 := hF.tr hFs2 rfl rfl
            refine R_invv rfl rfl rfl rfl rfl rfl (hevs2) rfl ?_
            show pCm _ _ _ 50 _ [(0, _)] _
            refine R_if rfl (fun h50 => ?_) (fun h50 => ?_)
            · try simp only [ne_eq, b2i_e, b2i_1, Classical.not_not] at h50
              refine R_inc rfl rfl (by omega) (by omega) ?_
              refine R_inc rfl rfl (by omega) (by omega) ?_
              refine R_goto rfl ?_
              first
              | exact ih (n, k + 1, s1) ⟨by dsimp only; omega, hF, by dsimp only; rw [hss, b2i_f (by omega)]; omega⟩ (by dsimp only; omega)
              | exact ih (n, k + 1, s3) ⟨by dsimp only; omega, hFs3, by dsimp only; rw [hss, b2i_f (by omega)]; omega⟩ (by dsimp only; omega)
              | exact ih (n + 1, k + 1, s3) ⟨by dsimp only; omega, hFs3, by dsimp only; rw [hss, b2i_t (by omega)]⟩ (by dsimp only; omega)
              | exact ih (n + 1, k + 1, s2) ⟨by dsimp only; omega, hFs2, by dsimp only; rw [hss, b2i_t (by omega)]⟩ (by dsimp only; omega)
            · try simp only [ne_eq, b2i_e, b2i_1, Classical.not_not] at h50
              refine R_aload rfl rfl rfl ?_
              refine T_getr (v := 52) rfl rfl rfl rfl ?_
              refine R_iload rfl rfl ?_
              refine R_iload rfl rfl ?_
              obtain ⟨s3, hevs3, hFs3⟩ := sp_X5_mayMeet d (by omega) xs t dd rr s2 k b P N kd nu len K W (JS_fr hJ hFs2) ⟨by omega, by omega⟩ ⟨by omega, by omega⟩
              rw [mayS_fr hFs2] at hevs3
              have hFs3 : Fj σ s3 := hFs2.tr hFs3 rfl rfl
              refine R_invv rfl rfl rfl rfl rfl rfl (hevs3) rfl ?_
              show pCm _ _ _ 63 _ [(0, _)] _
              refine R_if rfl (fun h63 => ?_) (fun h63 => ?_)
              · try simp only [ne_eq, b2i_e, b2i_1, Classical.not_not] at h63
                refine R_inc rfl rfl (by omega) (by omega) ?_
                refine R_goto rfl ?_
                first
                | exact ih (n, k + 1, s1) ⟨by dsimp only; omega, hF, by dsimp only; rw [hss, b2i_f (by omega)]; omega⟩ (by dsimp only; omega)
                | exact ih (n, k + 1, s3) ⟨by dsimp only; omega, hFs3, by dsimp only; rw [hss, b2i_f (by omega)]; omega⟩ (by dsimp only; omega)
                | exact ih (n + 1, k + 1, s3) ⟨by dsimp only; omega, hFs3, by dsimp only; rw [hss, b2i_t (by omega)]⟩ (by dsimp only; omega)
                | exact ih (n + 1, k + 1, s2) ⟨by dsimp only; omega, hFs2, by dsimp only; rw [hss, b2i_t (by omega)]⟩ (by dsimp only; omega)
              · try simp only [ne_eq, b2i_e, b2i_1, Classical.not_not] at h63
                refine R_inc rfl rfl (by omega) (by omega) ?_
                refine R_inc rfl rfl (by omega) (by omega) ?_
                refine R_goto rfl ?_
                first
                | exact ih (n, k + 1, s1) ⟨by dsimp only; omega, hF, by dsimp only; rw [hss, b2i_f (by omega)]; omega⟩ (by dsimp only; omega)
                | exact ih (n, k + 1, s3) ⟨by dsimp only; omega, hFs3, by dsimp only; rw [hss, b2i_f (by omega)]; omega⟩ (by dsimp only; omega)
                | exact ih (n + 1, k + 1, s3) ⟨by dsimp only; omega, hFs3, by dsimp only; rw [hss, b2i_t (by omega)]⟩ (by dsimp only; omega)
                | exact ih (n + 1, k + 1, s2) ⟨by dsimp only; omega, hFs2, by dsimp only; rw [hss, b2i_t (by omega)]⟩ (by dsimp only; omega)
          · try simp only [ne_eq, b2i_e, b2i_1, Classical.not_not] at h34
            refine R_goto rfl ?_
            refine R_inc rfl rfl (by omega) (by omega) ?_
            refine R_goto rfl ?_
            first
            | exact ih (n, k + 1, s1) ⟨by dsimp only; omega, hF, by dsimp only; rw [hss, b2i_f (by omega)]; omega⟩ (by dsimp only; omega)
            | exact ih (n, k + 1, s3) ⟨by dsimp only; omega, hFs3, by dsimp only; rw [hss, b2i_f (by omega)]; omega⟩ (by dsimp only; omega)
            | exact ih (n + 1, k + 1, s3) ⟨by dsimp only; omega, hFs3, by dsimp only; rw [hss, b2i_t (by omega)]⟩ (by dsimp only; omega)
            | exact ih (n + 1, k + 1, s2) ⟨by dsimp only; omega, hFs2, by dsimp only; rw [hss, b2i_t (by omega)]⟩ (by dsimp only; omega)
  · exact ⟨by dsimp only; omega, Fr.rf, rfl⟩

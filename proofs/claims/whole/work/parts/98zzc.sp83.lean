/-- the told half of the reference's rows, in its own room -/
def MTh (σ : Sg) (h N : Int) (kd nu len : Int → Int) (K W : Int → Int → Int) : Prop := MT σ h N kd nu len K W ∧ N ≤ 24 ∧ ∀ l, 0 ≤ l → l < N → 0 ≤ len l ∧ 1100 * h ≤ σ 80 (24 * h + l) ∧ σ 80 (24 * h + l) + len l < 1100 * h + 1100
theorem MTh_k {σ s : Sg} {h N : Int} {kd nu len : Int → Int} {K W : Int → Int → Int} (h0 : s 71 10 = h) (r1 : s 77 h = σ 77 h) (r2 : ∀ y, 24 * h ≤ y → y < 24 * h + 24 → s 78 y = σ 78 y ∧ s 79 y = σ 79 y ∧ s 80 y = σ 80 y) (r3 : ∀ y, 1100 * h ≤ y → y < 1100 * h + 1100 → s 83 y = σ 83 y ∧ s 84 y = σ 84 y) (hM : MTh σ h N kd nu len K W) : MTh s h N kd nu len K W := by
  obtain ⟨⟨a1, a2, a3, a4⟩, a5, a6⟩ := hM
  refine ⟨⟨h0, a2, ?_, fun l l0 l1 => ?_⟩, a5, fun l l0 l1 => ?_⟩
  · rw [r1]; exact a3
  · have e := r2 (24 * h + l) (by omega) (by omega)
    obtain ⟨b1, b2, b3, b4, b5⟩ := a4 l l0 l1
    obtain ⟨c0, c1, c2⟩ := a6 l l0 l1
    rw [e.1, e.2.1, e.2.2]
    refine ⟨b1, b2, b3, fun m m0 m1 => ?_, ?_⟩
    · have := r3 (σ 80 (24 * h + l) + m) (by omega) (by omega)
      rw [this.1, this.2]; exact b4 m m0 m1
    · rw [(r3 (σ 80 (24 * h + l) + len l) (by omega) (by omega)).1]; exact b5
  · have e := r2 (24 * h + l) (by omega) (by omega)
    rw [e.2.2]; exact a6 l l0 l1
theorem NT_u {c : Int → Int} {n m m' : Int} (h : NT c n m) (h' : NT c n m') : m = m' := by
  by_cases a : m < m'
  · have := h'.2.2 m h.1.1 a; have := h.2.1; omega
  · by_cases b : m' < m
    · have := h.2.2 m' h'.1.1 b; have := h'.2.1; omega
    · omega
theorem NT_ex {c : Int → Int} {n : Int} (hn : 0 ≤ n) : ∃ m, NT c n m := by
  have hg : ∀ k : Nat, (∃ m, NT c n m) ∨ ∀ j : Nat, j ≤ k → (j : Int) ≤ plz c n j ∧ plz c n j < n := by
    intro k
    induction k with
    | zero =>
      have h0 := skp_ok (c := c) (n := n) (k := 0) hn
      have e : plz c n 0 = skp c n 0 := rfl
      by_cases z : plz c n 0 < n
      · exact Or.inr (fun j hj => by
          have : j = 0 := by omega
          subst this
          exact ⟨by show (0 : Int) ≤ plz c n 0; omega, z⟩)
      · exact Or.inl ⟨0, ⟨Int.le_refl _, hn⟩, by omega, fun j j0 j1 => by omega⟩
    | succ k ih =>
      rcases ih with h | h
      · exact Or.inl h
      · have hk := h k (Nat.le_refl _)
        have e : plz c n ((k : Int) + 1) = _ := plz_s (by omega)
        have h3 := ten_ok (c := c) hk.2
        have h4 := skp_ok (c := c) (n := n) (k := ten c n (plz c n k)) (by omega)
        by_cases z : plz c n ((k : Int) + 1) < n
        · refine Or.inr (fun j hj => ?_)
          by_cases y : j = k + 1
          · subst y
            exact ⟨by show (k : Int) + 1 ≤ plz c n ((k : Int) + 1); omega, z⟩
          · exact h j (by omega)
        · refine Or.inl ⟨(k : Int) + 1, ⟨by omega, by omega⟩, by omega, fun j j0 j1 => ?_⟩
          have := (h j.toNat (by omega)).2
          rw [Int.toNat_of_nonneg j0] at this
          exact this
  rcases hg n.toNat with h | h
  · exact h
  · have := h n.toNat (Nat.le_refl _)
    rw [Int.toNat_of_nonneg hn] at this
    omega
abbrev txR (c wd : Int → Int) (n m : Int) : Nat → TXs → TXs := txl (tkT c wd n m) (nwT c wd n m) (t0T c wd n m) (vaT c n m) (plT c n m)
/-- what text leaves in the reference -/
def TxP (σ σ' : Sg) (n m h : Int) (X : TXs) : Prop := Fr [73, 74, 75, 77, 78, 79, 80, 81, 82, 83, 84] [(71, 0), (71, 2), (71, 3), (71, 7), (71, 8), (71, 10), (71, 11), (71, 18)] σ σ' ∧ (σ' 71 0 = 0 ∧ σ' 71 2 = 0) ∧ 0 ≤ X.2.1 ∧ (X.2.1 = 0 → OKx m X ∧ MTh σ' (1 - h) X.2.2.1 X.2.2.2.2.2.1 X.2.2.2.2.2.2.1 X.2.2.2.2.2.2.2.1 X.2.2.2.2.2.2.2.2.1 X.2.2.2.2.2.2.2.2.2 ∧ σ' 81 (1 - h) = X.2.2.2.1) ∧ (X.2.1 ≠ 0 → σ' 81 h = σ 81 h ∧ ∀ N kd nu len K W, MTh σ h N kd nu len K W → MTh σ' h N kd nu len K W)
theorem tk_0 {c wd : Int → Int} {n m j : Int} (h : NT c n m) : tkT c wd n m j = 0 ↔ soT c n m j = 0 := by
  show tkF (soT c n m) (vaT c n m) wd j = 0 ↔ soT c n m j = 0
  unfold tkF
  have hs : soT c n m j = 3 → 40 ≤ vaT c n m j ∧ vaT c n m j ≤ 61 := fun z => by
    unfold soT at z
    unfold vaT
    by_cases q : 0 ≤ j ∧ j < m
    · rw [if_pos q] at z ⊢
      exact isG_b ((tso_c (h.2.2 j q.1 q.2)).2.1 z).1
    · rw [if_neg q] at z; omega
  by_cases a : soT c n m j = 0
  · rw [if_pos a]; exact ⟨fun _ => a, fun _ => rfl⟩
  · refine ⟨fun z => ?_, fun z => absurd z a⟩
    exfalso
    rw [if_neg a] at z
    have hf := fnd_bd (r := wd) (v := vaT c n m j) (n := 20) (by omega)
    split at z
    · omega
    · split at z
      · have := hs (by assumption); omega
      · split at z
        · split at z
          · omega
          · split at z <;> omega
        · omega
theorem txl_e {tk nw tw0 wv pl : Int → Int} {k : Nat} {x : TXs} (h : ¬ (x.2.1 = 0 ∧ tk x.1 ≠ 0)) : txl tk nw tw0 wv pl k x = x := by
  cases k with
  | zero => rfl
  | succ k => unfold txl; rw [if_neg h]
theorem txl_s {tk nw tw0 wv pl : Int → Int} {k : Nat} {x : TXs} (h : x.2.1 = 0 ∧ tk x.1 ≠ 0) : txl tk nw tw0 wv pl (k + 1) x = txl tk nw tw0 wv pl k (txS tk nw tw0 wv pl x) := by
  rw [txl, if_pos h]
set_option maxRecDepth 20000 in
set_option maxHeartbeats 2000000 in
theorem sp_X10_text (d : Nat) (hd : 40 ≤ d) (xs : List (Nat × Nat)) (t dd rr : Nat) (σ : Sg) (n m h : Int) (hn : σ 71 2 = n) (h0 : 0 ≤ n ∧ n ≤ 1000) (hNT : NT (σ 72) n m) (hh : σ 71 10 = h) (hh1 : h = 0 ∨ h = 1) (hwd : ∀ a b, 0 ≤ a → a < b → b < 20 → σ 76 a ≠ σ 76 b)  : ∃ σ', Ev d 48 [(87, 0)] (Wd xs t dd rr σ) (0, (txR (σ 72) (σ 76) n m 1001 x0).2.1) (Wd xs t dd rr σ') ∧ TxP σ σ' n m h (txR (σ 72) (σ 76) n m 1001 x0) := by
  obtain ⟨d, rfl⟩ : ∃ e, d = e + 1 := ⟨d - 1, by omega⟩
  refine evS (nL := 1) (code := k_X10_text) rfl dc_X10_text rfl (fun E hE => ?_)
  show pCm (Ev d) k_X10_text E 0 [(87, 0)] [] _
  refine R_aload rfl rfl rfl ?_
  refine R_push rfl ?_
  refine T_puti rfl rfl rfl ?_
  refine R_aload rfl rfl rfl ?_
  obtain ⟨σc, hc, hFc, ⟨hc2, hc3, hc7, hc8⟩, m', hmn, hpm, hTKc, hcm, hcn⟩ := sp_X10_cutAll d (by omega) xs t dd rr (up2 σ 71 0 0) n (by simp [up2]; exact hn) h0
  have e72 : (up2 σ 71 0 0) 72 = σ 72 := up_rowo (by decide)
  rw [e72] at hpm hTKc
  have hmu : m = m' := NT_u hNT ⟨hmn, hpm, fun j j0 j1 => (hTKc j j0 j1).1⟩
  subst hmu
  have hc10 : σc 71 10 = h := by rw [hFc.at 71 10 rfl]; simp [up2]; exact hh
  refine R_invv rfl rfl rfl rfl rfl rfl (hc) rfl ?_
  show pCm _ _ _ 9 _ [] _
  refine R_aload rfl rfl rfl ?_
  refine R_push rfl ?_
  refine R_aload rfl rfl rfl ?_
  refine T_geti rfl rfl rfl ?_
  rw [hc10]
  refine R_sub rfl (by omega) (by omega) ?_
  refine T_puti rfl rfl rfl ?_
  refine R_aload rfl rfl rfl ?_
  refine T_getr (v := 93) rfl rfl rfl rfl ?_
  refine R_aload rfl rfl rfl ?_
  refine T_geti rfl rfl rfl ?_
  rw [up_s]
  refine R_push rfl ?_
  refine T_iast rfl rfl (by omega) (by omega) ?_
  refine R_aload rfl rfl rfl ?_
  refine T_getr (v := 97) rfl rfl rfl rfl ?_
  refine R_aload rfl rfl rfl ?_
  refine T_geti rfl rfl rfl ?_
  rw [up_k (by decide), up_s]
  refine R_push rfl ?_
  refine T_iast rfl rfl (by omega) (by omega) ?_
  refine R_aload rfl rfl rfl ?_
  refine R_push rfl ?_
  refine T_puti rfl rfl rfl ?_
  generalize hs0 : up2 (up2 (up2 (up2 σc 71 11 (1 - h)) 77 (1 - h) 0) 81 (1 - h) 0) 71 18 0 = σ0
  have f0 : Fr [77, 81] [(71, 11), (71, 18)] σc σ0 := by rw [← hs0]; exact (((Fr.rf.up rfl).up rfl).up rfl).up rfl
  have z11 : σ0 71 11 = 1 - h := by rw [← hs0]; simp [up2]
  have z18 : σ0 71 18 = 0 := by rw [← hs0]; simp [up2]
  have z77 : σ0 77 (1 - h) = 0 := by rw [← hs0]; simp [up2]
  have z81 : σ0 81 (1 - h) = 0 := by rw [← hs0]; simp [up2]
  have y77 : ∀ y, y ≠ 1 - h → σ0 77 y = σ 77 y := fun y hy => by rw [← hs0, up_k (by decide), up_k (by decide), up_i hy, up_k (by decide), hFc.row 77 rfl, up_k (by decide)]
  have y81 : σ0 81 h = σ 81 h := by rw [← hs0, up_k (by decide), up_i (by omega), up_k (by decide), up_k (by decide), hFc.row 81 rfl, up_k (by decide)]
  have hF0 : Fr [73, 74, 75, 77, 78, 79, 80, 81, 82, 83, 84] [(71, 0), (71, 2), (71, 3), (71, 7), (71, 8), (71, 10), (71, 11), (71, 18)] σ σ0 := Fr.tr (Fr.tr (Fr.rf (rows := []) (sl := [(71, 0)]) |>.up rfl) hFc (r3 := [73, 74, 75]) (s3 := [(71, 0), (71, 2), (71, 3), (71, 7), (71, 8)]) rfl rfl) f0 rfl rfl
  have hF78 : Fr [73, 74, 75, 77, 81] [(71, 0), (71, 2), (71, 3), (71, 7), (71, 8), (71, 11), (71, 18)] σ σ0 := Fr.tr (Fr.tr (Fr.rf (rows := []) (sl := [(71, 0)]) |>.up rfl) hFc (r3 := [73, 74, 75]) (s3 := [(71, 0), (71, 2), (71, 3), (71, 7), (71, 8)]) rfl rfl) f0 rfl rfl
  have e76 : σ0 76 = σ 76 := hF0.fn 76 rfl
  have hB : BT σ0 (σ 72) n m := by
    refine ⟨hNT, h0.2, fun j j0 j1 => ?_, ?_, ?_, by omega, ?_⟩
    · rw [f0.fn 73 rfl, f0.fn 74 rfl, f0.fn 75 rfl]; exact hTKc j j0 j1
    · rw [f0.fn 73 rfl]; exact hcm
    · rw [f0.fn 74 rfl]; exact hcn
    · rw [e76]; exact hwd
  have hR0 : RTx σ0 σ0 (1 - h) m x0 := ⟨⟨Fr.rf, fun _ _ => ⟨rfl, rfl⟩, fun _ _ => ⟨rfl, rfl, rfl⟩, fun _ _ => ⟨rfl, rfl⟩⟩, by rw [f0.at 71 8 rfl]; exact hc8, Int.le_refl _, by rw [f0.at 71 7 rfl, hc7]; omega, by rw [f0.at 71 7 rfl, hc7, z18]; omega, by rw [z77]; omega, by rw [z81]; omega, fun _ => ⟨by rw [f0.at 71 7 rfl]; exact hc7, z77, z81, fun k k0 k1 => absurd k1 (by show ¬ k < 0; omega), fun k k0 k1 => absurd k1 (by show ¬ k < 0; omega)⟩⟩
  refine loop (pc := 44) (α := TXs × Nat × Sg) (fun a => a.2.1) (fun a => ([(87, 0)], Wd xs t dd rr a.2.2)) (fun a => RTx σ0 a.2.2 (1 - h) m a.1 ∧ (a.1.2.1 = 0 → OKx m a.1 ∧ m - a.1.1 + 1 ≤ (a.2.1 : Int)) ∧ txR (σ 72) (σ 76) n m a.2.1 a.1 = txR (σ 72) (σ 76) n m 1001 x0) ?_ (x0, 1001, σ0) ?_
  · intro ⟨x, k, s⟩ ⟨hR, hO, hX⟩ ih
    dsimp only at hR hO hX ⊢
    obtain ⟨hRf, r8, r80, r7, r18, r77, r81, rg⟩ := id hR
    have hBs := BT_fr hB hRf.1
    have hs11 : s 71 11 = 1 - h := by rw [hRf.1.at 71 11 rfl]; exact z11
    have hrw := BT_rows hBs r7.1 r7.2
    have hm := hNT.1
    refine R_aload rfl rfl rfl ?_
    refine T_geti rfl rfl rfl ?_
    refine R_if rfl (fun h48 => ?_) (fun h48 => ?_)
    · try simp only [ne_eq, b2i_e, b2i_1, Classical.not_not] at h48
      refine R_aload rfl rfl rfl ?_
      refine R_aload rfl rfl rfl ?_
      refine T_geti rfl rfl rfl ?_
      refine R_if rfl (fun h75 => ?_) (fun h75 => ?_)
      · try simp only [ne_eq, b2i_e, b2i_1, Classical.not_not] at h75
        refine R_aload rfl rfl rfl ?_
        refine T_geti rfl rfl rfl ?_
        refine T_puti rfl rfl rfl ?_
        refine R_aload rfl rfl rfl ?_
        refine T_geti rfl rfl rfl ?_
        refine R_iret rfl ?_
        have hex : ¬ (x.2.1 = 0 ∧ tkT (σ 72) (σ 76) n m x.1 ≠ 0) := fun w => by
          have g7 := (rg w.1).1
          first
          | omega
          | (refine w.2 ((tk_0 hNT).mpr ?_)
             rw [← g7, ← hrw.1]; first | exact h60 | omega)
        have hX : x = txR (σ 72) (σ 76) n m 1001 x0 := by rw [← hX]; exact (txl_e hex).symm
        have hFs : Fr [73, 74, 75, 77, 78, 79, 80, 81, 82, 83, 84] [(71, 0), (71, 2), (71, 3), (71, 7), (71, 8), (71, 10), (71, 11), (71, 18)] σ s := Fr.tr hF0 hRf.1 rfl rfl
        refine hE _ _ ?_ ?_
        · first | (rw [← hX]; congr 1; done) | (rw [← hX]; congr 1; simp [up2]; exact r8)
        rw [← hX]
        refine ⟨hFs.up rfl, ⟨?_, ?_⟩, r80, fun w => ?_, fun w => ⟨?_, fun N kd nu len K W hM => ?_⟩⟩
        · simp [up2]; rw [hRf.1.at 71 0 rfl, f0.at 71 0 rfl, hFc.at 71 0 rfl]; simp [up2]
        · simp [up2]; rw [hRf.1.at 71 2 rfl, f0.at 71 2 rfl]; exact hc2
        · first
          | (exfalso; omega)
          | (refine ⟨(hO w).1, ?_⟩
             obtain ⟨g7, g77, g81, g82, gl⟩ := rg w
             have hWT := (hO w).1.2.1
             refine ⟨⟨⟨by simp [up2]; exact hs11, by omega, by rw [up_k (by decide)]; exact g77, fun l l0 l1 => ?_⟩, hWT.1.2, fun l l0 l1 => ?_⟩, by rw [up_k (by decide)]; exact g81⟩
             · obtain ⟨b1, b2, b3, b4, b5⟩ := gl l l0 l1
               rw [up_k (by decide), up_k (by decide), up_k (by decide), up_k (by decide)]
               refine ⟨b1, b2, by omega, fun j j0 j1 => ?_, b5⟩
               rw [up_k (by decide), up_k (by decide)]; exact b4 j j0 j1
             · obtain ⟨b1, b2, b3, b4, b5⟩ := gl l l0 l1
               rw [up_k (by decide)]
               exact ⟨(hWT.2.2 l l0 l1).2.1, by omega⟩)
        · first
          | (exfalso; omega)
          | (rw [up_k (by decide), (hRf.2.1 h (by omega)).2]; exact y81)
        · first
          | (exfalso; omega)
          | (have hs10 : s 71 10 = h := by rw [hRf.1.at 71 10 rfl, f0.at 71 10 rfl]; exact hc10
             refine MTh_k (σ := σ) (by simp [up2]; exact hs10) ?_ (fun y y0 y1 => ?_) (fun y y0 y1 => ?_) hM
             · rw [up_k (by decide), (hRf.2.1 h (by omega)).1]; exact y77 h (by omega)
             · have e := hRf.2.2.1 y (by omega)
               rw [up_k (by decide), up_k (by decide), up_k (by decide), e.1, e.2.1, e.2.2, hF78.row 78 rfl, hF78.row 79 rfl, hF78.row 80 rfl]; exact ⟨rfl, rfl, rfl⟩
             · have e := hRf.2.2.2 y (by omega)
               rw [up_k (by decide), up_k (by decide), e.1, e.2, hF78.row 83 rfl, hF78.row 84 rfl]; exact ⟨rfl, rfl⟩)
      · try simp only [ne_eq, b2i_e, b2i_1, Classical.not_not] at h75
        refine R_aload rfl rfl rfl ?_
        refine T_geti rfl rfl rfl ?_
        refine R_goto rfl ?_
        refine T_puti rfl rfl rfl ?_
        refine R_aload rfl rfl rfl ?_
        refine T_geti rfl rfl rfl ?_
        refine R_iret rfl ?_
        have hex : ¬ (x.2.1 = 0 ∧ tkT (σ 72) (σ 76) n m x.1 ≠ 0) := fun w => by
          have g7 := (rg w.1).1
          first
          | omega
          | (refine w.2 ((tk_0 hNT).mpr ?_)
             rw [← g7, ← hrw.1]; first | exact h60 | omega)
        have hX : x = txR (σ 72) (σ 76) n m 1001 x0 := by rw [← hX]; exact (txl_e hex).symm
        have hFs : Fr [73, 74, 75, 77, 78, 79, 80, 81, 82, 83, 84] [(71, 0), (71, 2), (71, 3), (71, 7), (71, 8), (71, 10), (71, 11), (71, 18)] σ s := Fr.tr hF0 hRf.1 rfl rfl
        refine hE _ _ ?_ ?_
        · first | (rw [← hX]; congr 1; done) | (rw [← hX]; congr 1; simp [up2]; exact r8)
        rw [← hX]
        refine ⟨hFs.up rfl, ⟨?_, ?_⟩, r80, fun w => ?_, fun w => ⟨?_, fun N kd nu len K W hM => ?_⟩⟩
        · simp [up2]; rw [hRf.1.at 71 0 rfl, f0.at 71 0 rfl, hFc.at 71 0 rfl]; simp [up2]
        · simp [up2]; rw [hRf.1.at 71 2 rfl, f0.at 71 2 rfl]; exact hc2
        · first
          | (exfalso; omega)
          | (refine ⟨(hO w).1, ?_⟩
             obtain ⟨g7, g77, g81, g82, gl⟩ := rg w
             have hWT := (hO w).1.2.1
             refine ⟨⟨⟨by simp [up2]; exact hs11, by omega, by rw [up_k (by decide)]; exact g77, fun l l0 l1 => ?_⟩, hWT.1.2, fun l l0 l1 => ?_⟩, by rw [up_k (by decide)]; exact g81⟩
             · obtain ⟨b1, b2, b3, b4, b5⟩ := gl l l0 l1
               rw [up_k (by decide), up_k (by decide), up_k (by decide), up_k (by decide)]
               refine ⟨b1, b2, by omega, fun j j0 j1 => ?_, b5⟩
               rw [up_k (by decide), up_k (by decide)]; exact b4 j j0 j1
             · obtain ⟨b1, b2, b3, b4, b5⟩ := gl l l0 l1
               rw [up_k (by decide)]
               exact ⟨(hWT.2.2 l l0 l1).2.1, by omega⟩)
        · first
          | (exfalso; omega)
          | (rw [up_k (by decide), (hRf.2.1 h (by omega)).2]; exact y81)
        · first
          | (exfalso; omega)
          | (have hs10 : s 71 10 = h := by rw [hRf.1.at 71 10 rfl, f0.at 71 10 rfl]; exact hc10
             refine MTh_k (σ := σ) (by simp [up2]; exact hs10) ?_ (fun y y0 y1 => ?_) (fun y y0 y1 => ?_) hM
             · rw [up_k (by decide), (hRf.2.1 h (by omega)).1]; exact y77 h (by omega)
             · have e := hRf.2.2.1 y (by omega)
               rw [up_k (by decide), up_k (by decide), up_k (by decide), e.1, e.2.1, e.2.2, hF78.row 78 rfl, hF78.row 79 rfl, hF78.row 80 rfl]; exact ⟨rfl, rfl, rfl⟩
             · have e := hRf.2.2.2 y (by omega)
               rw [up_k (by decide), up_k (by decide), e.1, e.2, hF78.row 83 rfl, hF78.row 84 rfl]; exact ⟨rfl, rfl⟩)
    · try simp only [ne_eq, b2i_e, b2i_1, Classical.not_not] at h48
      refine R_aload rfl rfl rfl ?_
      refine T_getr (v := 89) rfl rfl rfl rfl ?_
      refine R_aload rfl rfl rfl ?_
      refine T_geti rfl rfl rfl ?_
      refine T_ald rfl rfl (by omega) (by omega) ?_
      refine R_if rfl (fun h60 => ?_) (fun h60 => ?_)
      · try simp only [ne_eq, b2i_e, b2i_1, Classical.not_not] at h60
        refine R_aload rfl rfl rfl ?_
        refine R_aload rfl rfl rfl ?_
        refine T_geti rfl rfl rfl ?_
        refine R_if rfl (fun h75 => ?_) (fun h75 => ?_)
        · try simp only [ne_eq, b2i_e, b2i_1, Classical.not_not] at h75
          refine R_aload rfl rfl rfl ?_
          refine T_geti rfl rfl rfl ?_
          refine T_puti rfl rfl rfl ?_
          refine R_aload rfl rfl rfl ?_
          refine T_geti rfl rfl rfl ?_
          refine R_iret rfl ?_
          have hex : ¬ (x.2.1 = 0 ∧ tkT (σ 72) (σ 76) n m x.1 ≠ 0) := fun w => by
            have g7 := (rg w.1).1
            first
            | omega
            | (refine w.2 ((tk_0 hNT).mpr ?_)
               rw [← g7, ← hrw.1]; first | exact h60 | omega)
          have hX : x = txR (σ 72) (σ 76) n m 1001 x0 := by rw [← hX]; exact (txl_e hex).symm
          have hFs : Fr [73, 74, 75, 77, 78, 79, 80, 81, 82, 83, 84] [(71, 0), (71, 2), (71, 3), (71, 7), (71, 8), (71, 10), (71, 11), (71, 18)] σ s := Fr.tr hF0 hRf.1 rfl rfl
          refine hE _ _ ?_ ?_
          · first | (rw [← hX]; congr 1; done) | (rw [← hX]; congr 1; simp [up2]; exact r8)
          rw [← hX]
          refine ⟨hFs.up rfl, ⟨?_, ?_⟩, r80, fun w => ?_, fun w => ⟨?_, fun N kd nu len K W hM => ?_⟩⟩
          · simp [up2]; rw [hRf.1.at 71 0 rfl, f0.at 71 0 rfl, hFc.at 71 0 rfl]; simp [up2]
          · simp [up2]; rw [hRf.1.at 71 2 rfl, f0.at 71 2 rfl]; exact hc2
          · first
            | (exfalso; omega)
            | (refine ⟨(hO w).1, ?_⟩
               obtain ⟨g7, g77, g81, g82, gl⟩ := rg w
               have hWT := (hO w).1.2.1
               refine ⟨⟨⟨by simp [up2]; exact hs11, by omega, by rw [up_k (by decide)]; exact g77, fun l l0 l1 => ?_⟩, hWT.1.2, fun l l0 l1 => ?_⟩, by rw [up_k (by decide)]; exact g81⟩
               · obtain ⟨b1, b2, b3, b4, b5⟩ := gl l l0 l1
                 rw [up_k (by decide), up_k (by decide), up_k (by decide), up_k (by decide)]
                 refine ⟨b1, b2, by omega, fun j j0 j1 => ?_, b5⟩
                 rw [up_k (by decide), up_k (by decide)]; exact b4 j j0 j1
               · obtain ⟨b1, b2, b3, b4, b5⟩ := gl l l0 l1
                 rw [up_k (by decide)]
                 exact ⟨(hWT.2.2 l l0 l1).2.1, by omega⟩)
          · first
            | (exfalso; omega)
            | (rw [up_k (by decide), (hRf.2.1 h (by omega)).2]; exact y81)
          · first
            | (exfalso; omega)
            | (have hs10 : s 71 10 = h := by rw [hRf.1.at 71 10 rfl, f0.at 71 10 rfl]; exact hc10
               refine MTh_k (σ := σ) (by simp [up2]; exact hs10) ?_ (fun y y0 y1 => ?_) (fun y y0 y1 => ?_) hM
               · rw [up_k (by decide), (hRf.2.1 h (by omega)).1]; exact y77 h (by omega)
               · have e := hRf.2.2.1 y (by omega)
                 rw [up_k (by decide), up_k (by decide), up_k (by decide), e.1, e.2.1, e.2.2, hF78.row 78 rfl, hF78.row 79 rfl, hF78.row 80 rfl]; exact ⟨rfl, rfl, rfl⟩
               · have e := hRf.2.2.2 y (by omega)
                 rw [up_k (by decide), up_k (by decide), e.1, e.2, hF78.row 83 rfl, hF78.row 84 rfl]; exact ⟨rfl, rfl⟩)
        · try simp only [ne_eq, b2i_e, b2i_1, Classical.not_not] at h75
          refine R_aload rfl rfl rfl ?_
          refine T_geti rfl rfl rfl ?_
          refine R_goto rfl ?_
          refine T_puti rfl rfl rfl ?_
          refine R_aload rfl rfl rfl ?_
          refine T_geti rfl rfl rfl ?_
          refine R_iret rfl ?_
          have hex : ¬ (x.2.1 = 0 ∧ tkT (σ 72) (σ 76) n m x.1 ≠ 0) := fun w => by
            have g7 := (rg w.1).1
            first
            | omega
            | (refine w.2 ((tk_0 hNT).mpr ?_)
               rw [← g7, ← hrw.1]; first | exact h60 | omega)
          have hX : x = txR (σ 72) (σ 76) n m 1001 x0 := by rw [← hX]; exact (txl_e hex).symm
          have hFs : Fr [73, 74, 75, 77, 78, 79, 80, 81, 82, 83, 84] [(71, 0), (71, 2), (71, 3), (71, 7), (71, 8), (71, 10), (71, 11), (71, 18)] σ s := Fr.tr hF0 hRf.1 rfl rfl
          refine hE _ _ ?_ ?_
          · first | (rw [← hX]; congr 1; done) | (rw [← hX]; congr 1; simp [up2]; exact r8)
          rw [← hX]
          refine ⟨hFs.up rfl, ⟨?_, ?_⟩, r80, fun w => ?_, fun w => ⟨?_, fun N kd nu len K W hM => ?_⟩⟩
          · simp [up2]; rw [hRf.1.at 71 0 rfl, f0.at 71 0 rfl, hFc.at 71 0 rfl]; simp [up2]
          · simp [up2]; rw [hRf.1.at 71 2 rfl, f0.at 71 2 rfl]; exact hc2
          · first
            | (exfalso; omega)
            | (refine ⟨(hO w).1, ?_⟩
               obtain ⟨g7, g77, g81, g82, gl⟩ := rg w
               have hWT := (hO w).1.2.1
               refine ⟨⟨⟨by simp [up2]; exact hs11, by omega, by rw [up_k (by decide)]; exact g77, fun l l0 l1 => ?_⟩, hWT.1.2, fun l l0 l1 => ?_⟩, by rw [up_k (by decide)]; exact g81⟩
               · obtain ⟨b1, b2, b3, b4, b5⟩ := gl l l0 l1
                 rw [up_k (by decide), up_k (by decide), up_k (by decide), up_k (by decide)]
                 refine ⟨b1, b2, by omega, fun j j0 j1 => ?_, b5⟩
                 rw [up_k (by decide), up_k (by decide)]; exact b4 j j0 j1
               · obtain ⟨b1, b2, b3, b4, b5⟩ := gl l l0 l1
                 rw [up_k (by decide)]
                 exact ⟨(hWT.2.2 l l0 l1).2.1, by omega⟩)
          · first
            | (exfalso; omega)
            | (rw [up_k (by decide), (hRf.2.1 h (by omega)).2]; exact y81)
          · first
            | (exfalso; omega)
            | (have hs10 : s 71 10 = h := by rw [hRf.1.at 71 10 rfl, f0.at 71 10 rfl]; exact hc10
               refine MTh_k (σ := σ) (by simp [up2]; exact hs10) ?_ (fun y y0 y1 => ?_) (fun y y0 y1 => ?_) hM
               · rw [up_k (by decide), (hRf.2.1 h (by omega)).1]; exact y77 h (by omega)
               · have e := hRf.2.2.1 y (by omega)
                 rw [up_k (by decide), up_k (by decide), up_k (by decide), e.1, e.2.1, e.2.2, hF78.row 78 rfl, hF78.row 79 rfl, hF78.row 80 rfl]; exact ⟨rfl, rfl, rfl⟩
               · have e := hRf.2.2.2 y (by omega)
                 rw [up_k (by decide), up_k (by decide), e.1, e.2, hF78.row 83 rfl, hF78.row 84 rfl]; exact ⟨rfl, rfl⟩)
      · try simp only [ne_eq, b2i_e, b2i_1, Classical.not_not] at h60
        refine R_aload rfl rfl rfl ?_
        have x8 : x.2.1 = 0 := by omega
        have g7 := (rg x8).1
        have htk : tkT (σ 72) (σ 76) n m x.1 ≠ 0 := fun w => by
          have w1 := (tk_0 hNT).mp w
          rw [← g7, ← hrw.1] at w1
          exact h60 w1
        have hOk := hO x8
        have hxm := hOk.1.1
        obtain ⟨σl, hl, hl1, hl2⟩ := sp_X10_line d (by omega) xs t dd rr s m (TR_of hBs (by rw [hs11]; exact r81)) (by omega) r7 r18 (by rw [hs11]; exact r77)
        have hRl := RT_st hB z11 hR x8 hOk.1 hl1 hl2
        rw [e76] at hRl
        refine R_invv rfl rfl rfl rfl rfl rfl (hl) rfl ?_
        show pCm _ _ _ 67 _ [] _
        refine R_goto rfl ?_
        obtain ⟨k, rfl⟩ : ∃ e, k = e + 1 := ⟨k - 1, by omega⟩
        refine ih (txT (σ 72) (σ 76) n m x, k, σl) ⟨hRl, fun zl => ?_, ?_⟩ (by dsimp only; omega)
        · have zl : (txT (σ 72) (σ 76) n m x).2.1 = 0 := zl
          have zx : (lnT (σ 72) (σ 76) n m x).2.1 = 0 := by
            by_cases w : (lnT (σ 72) (σ 76) n m x).2.1 = 0
            · exact w
            · exfalso
              have e : txT (σ 72) (σ 76) n m x = (x.1, (lnT (σ 72) (σ 76) n m x).2.1, x.2.2) := by
                show txS _ _ _ _ _ x = _
                unfold txS
                rw [if_neg w]
              rw [e] at zl
              exact w zl
          obtain ⟨o1, o2, -⟩ := tx_ok (wv := vaT (σ 72) n m) (TP_t hNT) (hO x8).1 zx
          have o2 : x.1 < (txT (σ 72) (σ 76) n m x).1 := o2
          have o3 : m - x.1 + 1 ≤ ((k + 1 : Nat) : Int) := hOk.2
          refine ⟨o1, ?_⟩
          show m - (txT (σ 72) (σ 76) n m x).1 + 1 ≤ (k : Int)
          omega
        · rw [← hX]; exact (txl_s ⟨x8, htk⟩).symm
  · exact ⟨hR0, fun _ => ⟨x0_ok (by omega), by show m - 0 + 1 ≤ 1001; omega⟩, rfl⟩

theorem mulb {a b : Int} {A B : Nat} (ha : -(A : Int) ≤ a ∧ a ≤ A) (hb : -(B : Int) ≤ b ∧ b ≤ B) : -((A * B : Nat) : Int) ≤ a * b ∧ a * b ≤ ((A * B : Nat) : Int) := by
  have h : (a * b).natAbs ≤ A * B := by
    rw [Int.natAbs_mul]; exact Nat.mul_le_mul (by omega) (by omega)
  omega
/-- the place of a change, over blows in their order -/
def chn (nm : Int → Int) (i : Int) : Int := sumZ (fun j => b2i (nm j < 100)) i
def chf (nm fw : Int → Int) (i : Int) : Int := sumZ (fun j => if nm j < 100 then fw (nm j) else 0) i
def chw (wh fa : Int) (nm fw : Int → Int) (i : Int) : Int := (chf nm fw i * (wh - chn nm i) - (fa - chf nm fw i) * chn nm i) * (chf nm fw i * (wh - chn nm i) - (fa - chf nm fw i) * chn nm i)
def chb (wh : Int) (nm : Int → Int) (i : Int) : Int := chn nm i * (wh - chn nm i)
def chs (wh fa : Int) (nm fw : Int → Int) (i : Int) (a : Int × Int × Int) : Int × Int × Int := if nm i < 100 ∧ 2 ≤ chn nm (i + 1) ∧ 2 ≤ wh - chn nm (i + 1) ∧ (a.1 = -1 ∨ a.2.1 * chb wh nm (i + 1) < chw wh fa nm fw (i + 1) * a.2.2) then (chn nm (i + 1), chw wh fa nm fw (i + 1), chb wh nm (i + 1)) else a
def chg (wh fa : Int) (nm fw : Int → Int) (n : Int) : Int × Int × Int := foldZ (chs wh fa nm fw) n (-1, 0, 1)
theorem chg_s {wh fa : Int} {nm fw : Int → Int} {n : Int} (h : 0 ≤ n) : chg wh fa nm fw (n + 1) = chs wh fa nm fw n (chg wh fa nm fw n) := foldZ_s h
def chR (wh fa : Int) (nm fw : Int → Int) (n : Int) : Int := if 4 * fa * (chg wh fa nm fw n).2.2 < (chg wh fa nm fw n).2.1 then (chg wh fa nm fw n).1 else -1
theorem chn_bd {nm : Int → Int} {i : Int} (h0 : 0 ≤ i) : 0 ≤ chn nm i ∧ chn nm i ≤ i := by
  have := sumZ_bd (f := fun j => b2i (nm j < 100)) (c := 1) h0 (fun _ _ _ => b2i_bd)
  unfold chn; omega
theorem chf_bd {nm fw : Int → Int} {i : Int} (hw : ∀ w, 0 ≤ fw w ∧ fw w ≤ 360) (h0 : 0 ≤ i) : 0 ≤ chf nm fw i ∧ chf nm fw i ≤ 360 * i := by
  have := sumZ_bd (f := fun j => if nm j < 100 then fw (nm j) else 0) (c := 360) h0 (fun j _ _ => by have := hw (nm j); split <;> omega)
  unfold chf; omega
theorem chw_bd {wh fa : Int} {nm fw : Int → Int} {i : Int} (hw : ∀ w, 0 ≤ fw w ∧ fw w ≤ 360) (h0 : 0 ≤ i ∧ i ≤ 12) (hwh : 0 ≤ wh ∧ wh ≤ 40) (hfa : 0 ≤ fa ∧ fa ≤ 360) : (-1000 ≤ chb wh nm i ∧ chb wh nm i ≤ 1000) ∧ 0 ≤ chw wh fa nm fw i ∧ chw wh fa nm fw i ≤ 250000000000 := by
  have b1 := chn_bd (nm := nm) h0.1
  have b2 := chf_bd (nm := nm) (fw := fw) hw h0.1
  have m1 := mulb (a := chn nm i) (b := wh - chn nm i) (A := 12) (B := 40) ⟨by omega, by omega⟩ ⟨by omega, by omega⟩
  have m2 := mulb (a := chf nm fw i) (b := wh - chn nm i) (A := 5000) (B := 40) ⟨by omega, by omega⟩ ⟨by omega, by omega⟩
  have m3 := mulb (a := fa - chf nm fw i) (b := chn nm i) (A := 5000) (B := 40) ⟨by omega, by omega⟩ ⟨by omega, by omega⟩
  have m4 := sq_bd (x := chf nm fw i * (wh - chn nm i) - (fa - chf nm fw i) * chn nm i) (A := 500000) ⟨by omega, by omega⟩
  refine ⟨⟨?_, ?_⟩, m4.1, m4.2⟩
  · show -1000 ≤ chn nm i * (wh - chn nm i); omega
  · show chn nm i * (wh - chn nm i) ≤ 1000; omega
theorem chg_bd {wh fa : Int} {nm fw : Int → Int} (hw : ∀ w, 0 ≤ fw w ∧ fw w ≤ 360) (hwh : 0 ≤ wh ∧ wh ≤ 40) (hfa : 0 ≤ fa ∧ fa ≤ 360) : ∀ i : Nat, (i : Int) ≤ 12 → (-1 ≤ (chg wh fa nm fw i).1 ∧ (chg wh fa nm fw i).1 ≤ 40) ∧ (0 ≤ (chg wh fa nm fw i).2.1 ∧ (chg wh fa nm fw i).2.1 ≤ 250000000000) ∧ 1 ≤ (chg wh fa nm fw i).2.2 ∧ (chg wh fa nm fw i).2.2 ≤ 1000 := by
  intro i
  induction i with
  | zero =>
    intro _
    show (-1 ≤ (-1 : Int) ∧ (-1 : Int) ≤ 40) ∧ (0 ≤ (0 : Int) ∧ (0 : Int) ≤ 250000000000) ∧ 1 ≤ (1 : Int) ∧ (1 : Int) ≤ 1000
    omega
  | succ i ih =>
    intro hi
    have ih := ih (by omega)
    have e : chg wh fa nm fw ((i + 1 : Nat) : Int) = _ := chg_s (n := i) (by omega)
    rw [e]
    unfold chs
    split
    · rename_i q
      have b1 := chn_bd (nm := nm) (i := (i : Int) + 1) (by omega)
      have b3 := chw_bd (nm := nm) (fw := fw) (i := (i : Int) + 1) hw ⟨by omega, by omega⟩ hwh hfa
      have m1 : 4 ≤ chb wh nm (i + 1) := by
        unfold chb
        have := mul_bd (a := chn nm (i + 1) - 2) (b := wh - chn nm (i + 1) - 2) (A := 40) (B := 40) ⟨by omega, by omega⟩ ⟨by omega, by omega⟩
        have e2 : ∀ x y : Int, x * y = (x - 2) * (y - 2) + 2 * (x - 2) + 2 * (y - 2) + 4 := fun x y => by
          rw [Int.sub_mul, Int.mul_sub]; omega
        rw [e2]; omega
      refine ⟨⟨?_, ?_⟩, ⟨b3.2.1, b3.2.2⟩, ?_, ?_⟩
      · show -1 ≤ chn nm (i + 1); omega
      · show chn nm (i + 1) ≤ 40; omega
      · show 1 ≤ chb wh nm (i + 1); omega
      · show chb wh nm (i + 1) ≤ 1000; omega
    · exact ih
set_option maxRecDepth 20000 in
set_option maxHeartbeats 2000000 in
theorem sp_X3_wayW (d : Nat) (hd : 1 ≤ d) (w : pW) (f n g m : Int) (hf : -5000 ≤ f ∧ f ≤ 5000) (hn : -40 ≤ n ∧ n ≤ 40) (hg : -5000 ≤ g ∧ g ≤ 5000) (hm : -40 ≤ m ∧ m ≤ 40) : Ev d 190 [(0, f), (0, n), (0, g), (0, m)] w (1, (f * m - g * n) * (f * m - g * n)) w := by
  obtain ⟨d, rfl⟩ : ∃ e, d = e + 1 := ⟨d - 1, by omega⟩
  have q1 := mulb (A := 5000) (B := 40) hf hm
  have q2 := mulb (A := 5000) (B := 40) hg hn
  have q3 := sq_bd (x := f * m - g * n) (A := 500000) ⟨by omega, by omega⟩
  have q4 := mulb (a := 4 * (f + g)) (A := 40000) (B := 40) ⟨by omega, by omega⟩ hn
  have q5 := mulb (a := 4 * (f + g) * n) (A := 1600000) (B := 40) ⟨by omega, by omega⟩ hm
  refine evP (nL := 6) (code := k_X3_way) rfl ⟨Nat.le_refl _, Nat.le_refl _⟩ rfl (fun E hE => ?_)
  show pCm (Ev d) k_X3_way E 0 [(0, f), (0, n), (0, g), (0, m), (9, 0), (9, 0)] [] _
  refine R_iload rfl rfl ?_
  refine R_i2l rfl ?_
  refine R_iload rfl rfl ?_
  refine R_i2l rfl ?_
  refine R_lmul rfl (by omega) (by omega) ?_
  refine R_iload rfl rfl ?_
  refine R_i2l rfl ?_
  refine R_iload rfl rfl ?_
  refine R_i2l rfl ?_
  refine R_lmul rfl (by omega) (by omega) ?_
  refine R_lsub rfl (by omega) (by omega) ?_
  refine R_lstore rfl rfl ?_
  refine R_lload rfl rfl ?_
  refine R_lload rfl rfl ?_
  refine R_lmul rfl (by omega) (by omega) ?_
  refine R_lret rfl ?_
  exact hE _ rfl
set_option maxRecDepth 20000 in
set_option maxHeartbeats 2000000 in
theorem sp_X10_areTwoW (d : Nat) (hd : 1 ≤ d) (w : pW) (f n g m : Int) (hf : -5000 ≤ f ∧ f ≤ 5000) (hn : -40 ≤ n ∧ n ≤ 40) (hg : -5000 ≤ g ∧ g ≤ 5000) (hm : -40 ≤ m ∧ m ≤ 40) : Ev d 105 [(0, f), (0, n), (0, g), (0, m)] w (0, two f n g m) w := by
  obtain ⟨d, rfl⟩ : ∃ e, d = e + 1 := ⟨d - 1, by omega⟩
  have q1 := mulb (A := 5000) (B := 40) hf hm
  have q2 := mulb (A := 5000) (B := 40) hg hn
  have q3 := sq_bd (x := f * m - g * n) (A := 500000) ⟨by omega, by omega⟩
  have q4 := mulb (a := 4 * (f + g)) (A := 40000) (B := 40) ⟨by omega, by omega⟩ hn
  have q5 := mulb (a := 4 * (f + g) * n) (A := 1600000) (B := 40) ⟨by omega, by omega⟩ hm
  refine evP (nL := 6) (code := k_X10_areTwo) rfl ⟨Nat.le_refl _, Nat.le_refl _⟩ rfl (fun E hE => ?_)
  show pCm (Ev d) k_X10_areTwo E 0 [(0, f), (0, n), (0, g), (0, m), (9, 0), (9, 0)] [] _
  refine R_iload rfl rfl ?_
  refine R_iload rfl rfl ?_
  refine R_mul rfl (by omega) (by omega) ?_
  refine R_iload rfl rfl ?_
  refine R_iload rfl rfl ?_
  refine R_mul rfl (by omega) (by omega) ?_
  refine R_sub rfl (by omega) (by omega) ?_
  refine R_i2l rfl ?_
  refine R_lstore rfl rfl ?_
  refine R_iload rfl rfl ?_
  refine R_push rfl ?_
  refine R_ic rfl (fun h12 => ?_) (fun h12 => ?_)
  · try simp only [ne_eq, b2i_e, b2i_1, Classical.not_not] at h12
    refine R_push rfl ?_
    refine R_zret rfl (by first | exact Or.inl rfl | exact Or.inr rfl | omega | grind) ?_
    exact hE _ (by
      unfold two
      congr 1
      first | rw [b2i_t (by omega)] | rw [b2i_f (by omega)])
  · try simp only [ne_eq, b2i_e, b2i_1, Classical.not_not] at h12
    refine R_iload rfl rfl ?_
    refine R_push rfl ?_
    refine R_ic rfl (fun h17 => ?_) (fun h17 => ?_)
    · try simp only [ne_eq, b2i_e, b2i_1, Classical.not_not] at h17
      refine R_push rfl ?_
      refine R_zret rfl (by first | exact Or.inl rfl | exact Or.inr rfl | omega | grind) ?_
      exact hE _ (by
        unfold two
        congr 1
        first | rw [b2i_t (by omega)] | rw [b2i_f (by omega)])
    · try simp only [ne_eq, b2i_e, b2i_1, Classical.not_not] at h17
      refine R_lload rfl rfl ?_
      refine R_lload rfl rfl ?_
      refine R_lmul rfl (by omega) (by omega) ?_
      refine R_push rfl ?_
      refine R_iload rfl rfl ?_
      refine R_iload rfl rfl ?_
      refine R_add rfl (by omega) (by omega) ?_
      refine R_i2l rfl ?_
      refine R_lmul rfl (by omega) (by omega) ?_
      refine R_iload rfl rfl ?_
      refine R_i2l rfl ?_
      refine R_lmul rfl (by omega) (by omega) ?_
      refine R_iload rfl rfl ?_
      refine R_i2l rfl ?_
      refine R_lmul rfl (by omega) (by omega) ?_
      refine R_lcmp rfl ?_
      have hl : (0 < pLcmp ((f * m - g * n) * (f * m - g * n)) (4 * (f + g) * n * m)) ↔ 4 * (f + g) * n * m < (f * m - g * n) * (f * m - g * n) := by unfold pLcmp; split <;> (try split) <;> omega
      refine R_if rfl (fun h40 => ?_) (fun h40 => ?_)
      · try simp only [ne_eq, b2i_e, b2i_1, Classical.not_not] at h40
        refine R_push rfl ?_
        refine R_zret rfl (by first | exact Or.inl rfl | exact Or.inr rfl | omega | grind) ?_
        exact hE _ (by
          unfold two
          congr 1
          first | rw [b2i_t (by omega)] | rw [b2i_f (by omega)])
      · try simp only [ne_eq, b2i_e, b2i_1, Classical.not_not] at h40
        refine R_push rfl ?_
        refine R_goto rfl ?_
        refine R_zret rfl (by first | exact Or.inl rfl | exact Or.inr rfl | omega | grind) ?_
        exact hE _ (by
          unfold two
          congr 1
          first | rw [b2i_t (by omega)] | rw [b2i_f (by omega)])
theorem chn_w {nm : Int → Int} {i : Int} (h : 0 ≤ i) (hw : nm i < 100) : chn nm (i + 1) = chn nm i + 1 := by
  have : chn nm (i + 1) = chn nm i + b2i (nm i < 100) := sumZ_s h
  rw [this, b2i_t hw]
theorem chn_h {nm : Int → Int} {i : Int} (h : 0 ≤ i) (hw : ¬ nm i < 100) : chn nm (i + 1) = chn nm i := by
  have : chn nm (i + 1) = chn nm i + b2i (nm i < 100) := sumZ_s h
  rw [this, b2i_f hw, Int.add_zero]
theorem chf_w {nm fw : Int → Int} {i : Int} (h : 0 ≤ i) (hw : nm i < 100) : chf nm fw (i + 1) = chf nm fw i + fw (nm i) := by
  have : chf nm fw (i + 1) = chf nm fw i + (if nm i < 100 then fw (nm i) else 0) := sumZ_s h
  rw [this, if_pos hw]
theorem chf_h {nm fw : Int → Int} {i : Int} (h : 0 ≤ i) (hw : ¬ nm i < 100) : chf nm fw (i + 1) = chf nm fw i := by
  have : chf nm fw (i + 1) = chf nm fw i + (if nm i < 100 then fw (nm i) else 0) := sumZ_s h
  rw [this, if_neg hw, Int.add_zero]
theorem chg_n {wh fa : Int} {nm fw : Int → Int} {n : Int} (h : 0 ≤ n) (hc : ¬ (nm n < 100 ∧ 2 ≤ chn nm (n + 1) ∧ 2 ≤ wh - chn nm (n + 1) ∧ ((chg wh fa nm fw n).1 = -1 ∨ (chg wh fa nm fw n).2.1 * chb wh nm (n + 1) < chw wh fa nm fw (n + 1) * (chg wh fa nm fw n).2.2))) : chg wh fa nm fw (n + 1) = chg wh fa nm fw n := by
  rw [chg_s h]; unfold chs; rw [if_neg hc]
theorem chg_y {wh fa : Int} {nm fw : Int → Int} {n : Int} (h : 0 ≤ n) (hc : nm n < 100 ∧ 2 ≤ chn nm (n + 1) ∧ 2 ≤ wh - chn nm (n + 1) ∧ ((chg wh fa nm fw n).1 = -1 ∨ (chg wh fa nm fw n).2.1 * chb wh nm (n + 1) < chw wh fa nm fw (n + 1) * (chg wh fa nm fw n).2.2)) : chg wh fa nm fw (n + 1) = (chn nm (n + 1), chw wh fa nm fw (n + 1), chb wh nm (n + 1)) := by
  rw [chg_s h]; unfold chs; rw [if_pos hc]
theorem lc_p {a b : Int} (h : 0 < pLcmp a b) : b < a := by
  unfold pLcmp at h; split at h <;> (try split at h) <;> omega
theorem lc_n {a b : Int} (h : pLcmp a b ≤ 0) : ¬ b < a := by
  unfold pLcmp at h; split at h <;> (try split at h) <;> omega
def whS (σ : Sg) (P c : Int) : Int := sumZ (fun p => b2i (σ 29 p = c ∧ σ 30 p = p)) P
def faS (σ : Sg) (P c : Int) : Int := sumZ (fun p => if σ 29 p = c then σ 11 p else 0) P
def fwS (σ : Sg) (P w : Int) : Int := sumZ (fun p => if σ 30 p = w then σ 11 p else 0) P
def chS (σ : Sg) (P J c : Int) : Int := chR (whS σ P c) (faS σ P c) (ordS σ P J c) (fwS σ P) (if 0 ≤ qS σ P J c then (gtS σ P J c (8 * P)).1 else 0)
theorem BCx_ord {s1 σ : Sg} {P J c i : Int} (hH : BH σ P J) (hB : BCx s1 σ P J c) (w0 : 0 ≤ qS σ P J c) (w1 : (gtS σ P J c (8 * P)).1 ≤ 12) (i0 : 0 ≤ i) (i1 : i < (gtS σ P J c (8 * P)).1) : (0 ≤ s1 63 i ∧ s1 63 i < (gtS σ P J c (8 * P)).1) ∧ s1 58 (s1 63 i) = ordS σ P J c i := by
  have hb := hB.2 w1
  have hq := qS_bd (c := c) hH
  have hq0 : 0 ≤ Lq (US σ P J c) (AS σ P J c) (gtS σ P J c (8 * P)).1 0 := by omega
  have e1 := hb.2.2 hq0 i i0 i1
  have hU := WB_US hH w1
  have hTT : 0 ≤ (gtS σ P J c (8 * P)).1 ∧ (gtS σ P J c (8 * P)).1 ≤ 12 := ⟨by omega, w1⟩
  have hdz := dnz_ok (A := AS σ P J c) hU hTT hq0 i.toNat (by omega)
  rw [Int.toNat_of_nonneg i0] at hdz
  have hne : dnz (US σ P J c) (AS σ P J c) (gtS σ P J c (8 * P)).1 i ≠ pShl 1 (gtS σ P J c (8 * P)).1 - 1 := fun q => by
    have h2 := hdz.2.1
    rw [q, zc_all hTT] at h2
    omega
  have hpk := (pck_ok (A := AS σ P J c) hU hTT hdz.1.1 (by omega) hdz.2.2).1
  rw [← e1] at hpk
  refine ⟨hpk, ?_⟩
  rw [hb.1 _ hpk.1 hpk.2, e1]
  rfl
set_option maxRecDepth 20000 in
set_option maxHeartbeats 2000000 in
theorem sp_X0_changeOf (d : Nat) (hd : 6 ≤ d) (xs : List (Nat × Nat)) (t dd rr : Nat) (σ : Sg) (c : Int) (P J : Int) (hH : BH σ P J) (hold : σ 57 4 = c → BCx σ σ P J c) (hfl : ∀ p, 0 ≤ p → p < P → 0 ≤ σ 11 p ∧ σ 11 p ≤ 9) : ∃ σ', Ev d 150 [(73, 0), (0, c)] (Wd xs t dd rr σ) (0, chS σ P J c) (Wd xs t dd rr σ') ∧ Fb σ σ' ∧ σ' 57 4 = c ∧ BCx σ' σ P J c := by
  obtain ⟨d, rfl⟩ : ∃ e, d = e + 1 := ⟨d - 1, by omega⟩
  obtain ⟨⟨hP, hJ, h0, hJ0, hJB⟩, hHH, h32, h17, hcut⟩ := id hH
  obtain ⟨wh, hwhe⟩ : ∃ x, whS σ P c = x := ⟨_, rfl⟩
  obtain ⟨fa, hfae⟩ : ∃ x, faS σ P c = x := ⟨_, rfl⟩
  obtain ⟨nm, hnme⟩ : ∃ x, ordS σ P J c = x := ⟨_, rfl⟩
  obtain ⟨fw, hfwe⟩ : ∃ x, fwS σ P = x := ⟨_, rfl⟩
  have hwhb : 0 ≤ wh ∧ wh ≤ 40 := by
    have := sumZ_bd (f := fun p => b2i (σ 29 p = c ∧ σ 30 p = p)) (c := 1) h0.1 (fun _ _ _ => b2i_bd)
    rw [← hwhe]; unfold whS; omega
  have hfab : 0 ≤ fa ∧ fa ≤ 360 := by
    have := sumZ_bd (f := fun p => if σ 29 p = c then σ 11 p else 0) (c := 9) h0.1 (fun i i0 i1 => by have := hfl i i0 i1; split <;> omega)
    rw [← hfae]; unfold faS; omega
  have hfw : ∀ w, 0 ≤ fw w ∧ fw w ≤ 360 := fun w => by
    have := sumZ_bd (f := fun p => if σ 30 p = w then σ 11 p else 0) (c := 9) h0.1 (fun i i0 i1 => by have := hfl i i0 i1; split <;> omega)
    rw [← hfwe]; unfold fwS; omega
  refine evS (nL := 18) (code := k_X0_changeOf) rfl dc_X0_changeOf rfl (fun E hE => ?_)
  show pCm (Ev d) k_X0_changeOf E 0 [(73, 0), (0, c), (9, 0), (9, 0), (9, 0), (9, 0), (9, 0), (9, 0), (9, 0), (9, 0), (9, 0), (9, 0), (9, 0), (9, 0), (9, 0), (9, 0), (9, 0), (9, 0)] [] _
  refine R_aload rfl rfl rfl ?_
  refine R_iload rfl rfl ?_
  obtain ⟨s1, hev, hF, h4, hB⟩ := sp_X0_arrange d (by omega) xs t dd rr σ c P J hH hold
  have h5 := hB.1
  have h6 : s1 57 5 ≤ 12 → _ := fun w => hB.2 (by omega)
  have hq := qS_bd (c := c) hH
  obtain ⟨N, hNe, hN⟩ : ∃ N, N = (if 0 ≤ qS σ P J c then (gtS σ P J c (8 * P)).1 else 0) ∧ ((0 ≤ qS σ P J c ∧ N = (gtS σ P J c (8 * P)).1 ∧ s1 57 5 = (gtS σ P J c (8 * P)).1 ∧ (0 ≤ N ∧ N ≤ 12) ∧ s1 62 0 < 1000000) ∨ (N = 0 ∧ ¬ (s1 57 5 ≤ 12 ∧ s1 62 0 < 1000000))) := by
    refine ⟨_, rfl, ?_⟩
    have hT0 : 0 ≤ (gtS σ P J c (8 * P)).1 := (gt2_ok (c := c) (hs := hsS σ) (so := σ 14) (co := σ 29) (who := σ 30) (mt := mtS σ J) h0).1
    by_cases z : s1 57 5 ≤ 12
    · have h62 := (h6 z).2.1
      by_cases y : 0 ≤ qS σ P J c
      · rw [if_pos y]; omega
      · rw [if_neg y]; omega
    · rw [if_neg (by omega)]; omega
  clear hq h6 h5
  refine R_invv rfl rfl rfl rfl rfl rfl (hev) rfl ?_
  show pCm _ _ _ 5 _ [] _
  refine R_aload rfl rfl rfl ?_
  refine T_getr (v := 44) rfl rfl rfl rfl ?_
  refine R_iload rfl rfl ?_
  have hwi := sp_X3_wholesIn d (by omega) xs t dd rr s1 c P (by rw [hF.row 1 rfl]; exact hP) h0
  rw [hF.fn 29 rfl, hF.fn 30 rfl] at hwi
  have hwi : Ev d 184 [(44, 0), (0, c)] (Wd xs t dd rr s1) (0, whS σ P c) (Wd xs t dd rr s1) := hwi
  rw [hwhe] at hwi
  refine R_invv rfl rfl rfl rfl rfl rfl (hwi) rfl ?_
  show pCm _ _ _ 13 _ [(0, _)] _
  refine R_istore rfl rfl ?_
  show pCm _ _ _ _ [_, _, _, _, _, _, _, _, _, _, _, _, _, _, _, _, _, _] _ _
  refine R_aload rfl rfl rfl ?_
  refine T_getr (v := 44) rfl rfl rfl rfl ?_
  refine R_iload rfl rfl ?_
  have hwi := sp_X3_faultsIn d (by omega) xs t dd rr s1 c P (by rw [hF.row 1 rfl]; exact hP) h0 (by rw [hF.fn 11 rfl]; exact hfl)
  rw [hF.fn 29 rfl, hF.fn 11 rfl] at hwi
  have hwi : Ev d 185 [(44, 0), (0, c)] (Wd xs t dd rr s1) (0, faS σ P c) (Wd xs t dd rr s1) := hwi
  rw [hfae] at hwi
  refine R_invv rfl rfl rfl rfl rfl rfl (hwi) rfl ?_
  show pCm _ _ _ 22 _ [(0, _)] _
  refine R_istore rfl rfl ?_
  show pCm _ _ _ _ [_, _, _, _, _, _, _, _, _, _, _, _, _, _, _, _, _, _] _ _
  refine R_push rfl ?_
  refine R_istore rfl rfl ?_
  show pCm _ _ _ _ [_, _, _, _, _, _, _, _, _, _, _, _, _, _, _, _, _, _] _ _
  refine R_push rfl ?_
  refine R_lstore rfl rfl ?_
  show pCm _ _ _ _ [_, _, _, _, _, _, _, _, _, _, _, _, _, _, _, _, _, _] _ _
  refine R_push rfl ?_
  refine R_lstore rfl rfl ?_
  show pCm _ _ _ _ [_, _, _, _, _, _, _, _, _, _, _, _, _, _, _, _, _, _] _ _
  refine R_push rfl ?_
  refine R_istore rfl rfl ?_
  show pCm _ _ _ _ [_, _, _, _, _, _, _, _, _, _, _, _, _, _, _, _, _, _] _ _
  refine R_push rfl ?_
  refine R_istore rfl rfl ?_
  show pCm _ _ _ _ [_, _, _, _, _, _, _, _, _, _, _, _, _, _, _, _, _, _] _ _
  refine R_push rfl ?_
  refine R_istore rfl rfl ?_
  show pCm _ _ _ _ [_, _, _, _, _, _, _, _, _, _, _, _, _, _, _, _, _, _] _ _
  refine fgt wc_X0_changeOf [1, 1, 1, 1, 1, 1, 1, 1, 1, 1, 1, 1, 0, 0, 0, 0, 0, 0] ?_
  refine loop (pc := 41) (α := Int × Int × Int × Int × Int × Int) (fun x => (13 - x.1).toNat) (fun x => ([(73, 0), (0, c), (0, wh), (0, fa), (0, x.2.1), (1, x.2.2.1), (9, 0), (1, x.2.2.2.1), (9, 0), (0, x.2.2.2.2.1), (0, x.2.2.2.2.2), (0, x.1), (9, 0), (9, 0), (9, 0), (9, 0), (9, 0), (9, 0)], Wd xs t dd rr s1)) (fun x => (0 ≤ x.1 ∧ x.1 ≤ N) ∧ chg wh fa nm fw x.1 = (x.2.1, x.2.2.1, x.2.2.2.1) ∧ chn nm x.1 = x.2.2.2.2.1 ∧ chf nm fw x.1 = x.2.2.2.2.2) ?_ (0, -1, 0, 1, 0, 0) ?_
  · intro ⟨i, b, bw, bb, n, f⟩ ⟨⟨hi0, hi1⟩, hch, hcn0, hcf0⟩ ih
    dsimp only at hi0 hi1 hch hcn0 hcf0 ⊢
    have hgb := chg_bd (nm := nm) (fw := fw) hfw hwhb hfab i.toNat (by omega)
    rw [Int.toNat_of_nonneg hi0, hch] at hgb
    dsimp only at hgb
    have hnb := chn_bd (nm := nm) hi0
    have hfb := chf_bd (nm := nm) hfw hi0
    rw [hcn0] at hnb
    rw [hcf0] at hfb
    refine R_aload rfl rfl rfl ?_
    refine R_invv rfl rfl rfl rfl rfl rfl (sp_X0_hasOrder d (by omega) xs t dd rr s1) rfl ?_
    show pCm _ _ _ 45 _ [(0, _)] _
    refine R_if rfl (fun h45 => ?_) (fun h45 => ?_)
    · try simp only [ne_eq, b2i_e, b2i_1, Classical.not_not] at h45
      have mD := mulb (a := 4 * fa) (b := bb) (A := 1440) (B := 1000) ⟨by omega, by omega⟩ ⟨by omega, by omega⟩
      have hin : i = (if 0 ≤ qS σ P J c then (gtS σ P J c (8 * P)).1 else 0) := by rw [← hNe]; omega
      refine R_lload rfl rfl ?_
      refine R_push rfl ?_
      refine R_iload rfl rfl ?_
      refine R_i2l rfl ?_
      refine R_lmul rfl (by omega) (by omega) ?_
      refine R_lload rfl rfl ?_
      refine R_lmul rfl (by omega) (by omega) ?_
      refine R_lcmp rfl ?_
      refine R_if rfl (fun h190 => ?_) (fun h190 => ?_)
      · try simp only [ne_eq, b2i_e, b2i_1, Classical.not_not] at h190
        refine R_push rfl ?_
        refine R_iret rfl ?_
        first
        | exact hE _ _ (by unfold chS chR; rw [← hin, hwhe, hfae, hnme, hfwe, hch]; dsimp only; rw [if_pos (lc_p (by omega))]) ⟨hF, h4, hB⟩
        | exact hE _ _ (by unfold chS chR; rw [← hin, hwhe, hfae, hnme, hfwe, hch]; dsimp only; rw [if_neg (lc_n (by omega))]) ⟨hF, h4, hB⟩
      · try simp only [ne_eq, b2i_e, b2i_1, Classical.not_not] at h190
        refine R_iload rfl rfl ?_
        refine R_goto rfl ?_
        refine R_iret rfl ?_
        first
        | exact hE _ _ (by unfold chS chR; rw [← hin, hwhe, hfae, hnme, hfwe, hch]; dsimp only; rw [if_pos (lc_p (by omega))]) ⟨hF, h4, hB⟩
        | exact hE _ _ (by unfold chS chR; rw [← hin, hwhe, hfae, hnme, hfwe, hch]; dsimp only; rw [if_neg (lc_n (by omega))]) ⟨hF, h4, hB⟩
    · try simp only [ne_eq, b2i_e, b2i_1, Classical.not_not] at h45
      refine R_iload rfl rfl ?_
      refine R_aload rfl rfl rfl ?_
      refine T_geti rfl rfl rfl ?_
      refine R_ic rfl (fun h54 => ?_) (fun h54 => ?_)
      · try simp only [ne_eq, b2i_e, b2i_1, Classical.not_not] at h54
        have mD := mulb (a := 4 * fa) (b := bb) (A := 1440) (B := 1000) ⟨by omega, by omega⟩ ⟨by omega, by omega⟩
        have hin : i = (if 0 ≤ qS σ P J c then (gtS σ P J c (8 * P)).1 else 0) := by rw [← hNe]; omega
        refine R_lload rfl rfl ?_
        refine R_push rfl ?_
        refine R_iload rfl rfl ?_
        refine R_i2l rfl ?_
        refine R_lmul rfl (by omega) (by omega) ?_
        refine R_lload rfl rfl ?_
        refine R_lmul rfl (by omega) (by omega) ?_
        refine R_lcmp rfl ?_
        refine R_if rfl (fun h190 => ?_) (fun h190 => ?_)
        · try simp only [ne_eq, b2i_e, b2i_1, Classical.not_not] at h190
          refine R_push rfl ?_
          refine R_iret rfl ?_
          first
          | exact hE _ _ (by unfold chS chR; rw [← hin, hwhe, hfae, hnme, hfwe, hch]; dsimp only; rw [if_pos (lc_p (by omega))]) ⟨hF, h4, hB⟩
          | exact hE _ _ (by unfold chS chR; rw [← hin, hwhe, hfae, hnme, hfwe, hch]; dsimp only; rw [if_neg (lc_n (by omega))]) ⟨hF, h4, hB⟩
        · try simp only [ne_eq, b2i_e, b2i_1, Classical.not_not] at h190
          refine R_iload rfl rfl ?_
          refine R_goto rfl ?_
          refine R_iret rfl ?_
          first
          | exact hE _ _ (by unfold chS chR; rw [← hin, hwhe, hfae, hnme, hfwe, hch]; dsimp only; rw [if_pos (lc_p (by omega))]) ⟨hF, h4, hB⟩
          | exact hE _ _ (by unfold chS chR; rw [← hin, hwhe, hfae, hnme, hfwe, hch]; dsimp only; rw [if_neg (lc_n (by omega))]) ⟨hF, h4, hB⟩
      · try simp only [ne_eq, b2i_e, b2i_1, Classical.not_not] at h54
        have hN' : 0 ≤ qS σ P J c ∧ N = (gtS σ P J c (8 * P)).1 ∧ s1 57 5 = (gtS σ P J c (8 * P)).1 ∧ (0 ≤ N ∧ N ≤ 12) := by omega
        clear hN
        have hoi := BCx_ord hH hB hN'.1 (by omega) hi0 (by omega)
        rw [hnme] at hoi
        refine R_aload rfl rfl rfl ?_
        refine T_getr (v := 74) rfl rfl rfl rfl ?_
        refine R_aload rfl rfl rfl ?_
        refine T_getr (v := 79) rfl rfl rfl rfl ?_
        refine R_iload rfl rfl ?_
        refine T_ald rfl rfl (by omega) (by omega) ?_
        refine T_ald rfl rfl (by omega) (by omega) ?_
        rw [hoi.2]
        refine R_istore rfl rfl ?_
        show pCm _ _ _ _ [_, _, _, _, _, _, _, _, _, _, _, _, _, _, _, _, _, _] _ _
        refine R_iload rfl rfl ?_
        refine R_push rfl ?_
        refine R_ic rfl (fun h75 => ?_) (fun h75 => ?_)
        · try simp only [ne_eq, b2i_e, b2i_1, Classical.not_not] at h75
          obtain ⟨F, hFe⟩ : ∃ x, fw (nm i) = x := ⟨_, rfl⟩
          have hcn : chn nm (i + 1) = n + 1 := by rw [chn_w hi0 (by omega), hcn0]
          have hcf : chf nm fw (i + 1) = f + F := by rw [chf_w hi0 (by omega), hcf0, hFe]
          have hwb := hfw (nm i)
          rw [hFe] at hwb
          obtain ⟨V, hV⟩ : ∃ x, chw wh fa nm fw (i + 1) = x := ⟨_, rfl⟩
          obtain ⟨Bk, hBk⟩ : ∃ x, chb wh nm (i + 1) = x := ⟨_, rfl⟩
          have hV2 : ((f + F) * (wh - (n + 1)) - (fa - (f + F)) * (n + 1)) * ((f + F) * (wh - (n + 1)) - (fa - (f + F)) * (n + 1)) = V := by rw [← hV]; unfold chw; rw [hcn, hcf]
          have hBk2 : (n + 1) * (wh - (n + 1)) = Bk := by rw [← hBk]; unfold chb; rw [hcn]
          have hcw := chw_bd (nm := nm) (fw := fw) (i := i + 1) hfw ⟨by omega, by omega⟩ hwhb hfab
          rw [hV, hBk] at hcw
          have mB := mulb (a := V) (b := bb) (A := 250000000000) (B := 1000) ⟨by omega, by omega⟩ ⟨by omega, by omega⟩
          have mC := mulb (a := bw) (b := Bk) (A := 250000000000) (B := 1000) ⟨by omega, by omega⟩ ⟨by omega, by omega⟩
          refine R_inc rfl rfl (by omega) (by omega) ?_
          show pCm _ _ _ _ [_, _, _, _, _, _, _, _, _, _, _, _, _, _, _, _, _, _] _ _
          refine R_iload rfl rfl ?_
          refine R_aload rfl rfl rfl ?_
          refine T_getr (v := 44) rfl rfl rfl rfl ?_
          refine R_iload rfl rfl ?_
          have hwi := sp_X3_faultsOfWhole d (by omega) xs t dd rr s1 (nm i) P (by rw [hF.row 1 rfl]; exact hP) h0 (by rw [hF.fn 11 rfl]; exact hfl)
          rw [hF.fn 30 rfl, hF.fn 11 rfl] at hwi
          have hwi : Ev d 186 [(44, 0), (0, nm i)] (Wd xs t dd rr s1) (0, fwS σ P (nm i)) (Wd xs t dd rr s1) := hwi
          rw [hfwe, hFe] at hwi
          refine R_invv rfl rfl rfl rfl rfl rfl (hwi) rfl ?_
          show pCm _ _ _ 95 _ [(0, _), (0, _)] _
          refine R_add rfl (by omega) (by omega) ?_
          refine R_istore rfl rfl ?_
          show pCm _ _ _ _ [_, _, _, _, _, _, _, _, _, _, _, _, _, _, _, _, _, _] _ _
          refine R_iload rfl rfl ?_
          refine R_iload rfl rfl ?_
          refine R_sub rfl (by omega) (by omega) ?_
          refine R_istore rfl rfl ?_
          show pCm _ _ _ _ [_, _, _, _, _, _, _, _, _, _, _, _, _, _, _, _, _, _] _ _
          refine R_iload rfl rfl ?_
          refine R_iload rfl rfl ?_
          refine R_iload rfl rfl ?_
          refine R_iload rfl rfl ?_
          refine R_sub rfl (by omega) (by omega) ?_
          refine R_iload rfl rfl ?_
          have hwy := sp_X3_wayW d (by omega) (Wd xs t dd rr s1) (f + F) (n + 1) (fa - (f + F)) (wh - (n + 1)) ⟨by omega, by omega⟩ ⟨by omega, by omega⟩ ⟨by omega, by omega⟩ ⟨by omega, by omega⟩
          rw [hV2] at hwy
          refine R_inv rfl rfl rfl rfl rfl (hwy) rfl ?_
          show pCm _ _ _ 117 _ [(1, _)] _
          refine R_lstore rfl rfl ?_
          show pCm _ _ _ _ [_, _, _, _, _, _, _, _, _, _, _, _, _, _, _, _, _, _] _ _
          refine R_iload rfl rfl ?_
          refine R_i2l rfl ?_
          refine R_iload rfl rfl ?_
          refine R_i2l rfl ?_
          refine R_lmul rfl (by omega) (by omega) ?_
          rw [hBk2]
          refine R_lstore rfl rfl ?_
          show pCm _ _ _ _ [_, _, _, _, _, _, _, _, _, _, _, _, _, _, _, _, _, _] _ _
          refine R_iload rfl rfl ?_
          refine R_push rfl ?_
          refine R_ic rfl (fun h131 => ?_) (fun h131 => ?_)
          · try simp only [ne_eq, b2i_e, b2i_1, Classical.not_not] at h131
            refine R_inc rfl rfl (by omega) (by omega) ?_
            show pCm _ _ _ _ [_, _, _, _, _, _, _, _, _, _, _, _, _, _, _, _, _, _] _ _
            refine R_goto rfl ?_
            refine fgt wc_X0_changeOf [1, 1, 1, 1, 1, 1, 1, 1, 1, 1, 1, 1, 0, 0, 0, 0, 0, 0] ?_
            first
            | (have hw : ¬ nm i < 100 := by omega
               exact ih (i + 1, b, bw, bb, n, f) ⟨by dsimp only; omega, by dsimp only; rw [chg_n hi0 (fun w => hw w.1), hch], by dsimp only; rw [chn_h hi0 hw, hcn0], by dsimp only; rw [chf_h hi0 hw, hcf0]⟩ (by dsimp only; omega))
            | (exact ih (i + 1, b, bw, bb, n + 1, f + F) ⟨by dsimp only; omega, by dsimp only; rw [chg_n hi0 (by rw [hcn, hV, hBk, hch]; dsimp only; intro w; omega), hch], hcn, hcf⟩ (by dsimp only; omega))
            | (exact ih (i + 1, b, bw, bb, n + 1, f + F) ⟨by dsimp only; omega, by dsimp only; rw [chg_n hi0 (by rw [hcn, hV, hBk, hch]; dsimp only; intro w; have := lc_n h157; omega), hch], hcn, hcf⟩ (by dsimp only; omega))
            | (exact ih (i + 1, n + 1, V, Bk, n + 1, f + F) ⟨by dsimp only; omega, by dsimp only; rw [chg_y hi0 (by rw [hcn, hV, hBk, hch]; dsimp only; exact ⟨by omega, by omega, by omega, Or.inl (by assumption)⟩), hcn, hV, hBk], hcn, hcf⟩ (by dsimp only; omega))
            | (exact ih (i + 1, n + 1, V, Bk, n + 1, f + F) ⟨by dsimp only; omega, by dsimp only; rw [chg_y hi0 (by rw [hcn, hV, hBk, hch]; dsimp only; exact ⟨by omega, by omega, by omega, Or.inr (lc_p (by omega))⟩), hcn, hV, hBk], hcn, hcf⟩ (by dsimp only; omega))
          · try simp only [ne_eq, b2i_e, b2i_1, Classical.not_not] at h131
            refine R_iload rfl rfl ?_
            refine R_push rfl ?_
            refine R_ic rfl (fun h137 => ?_) (fun h137 => ?_)
            · try simp only [ne_eq, b2i_e, b2i_1, Classical.not_not] at h137
              refine R_inc rfl rfl (by omega) (by omega) ?_
              show pCm _ _ _ _ [_, _, _, _, _, _, _, _, _, _, _, _, _, _, _, _, _, _] _ _
              refine R_goto rfl ?_
              refine fgt wc_X0_changeOf [1, 1, 1, 1, 1, 1, 1, 1, 1, 1, 1, 1, 0, 0, 0, 0, 0, 0] ?_
              first
              | (have hw : ¬ nm i < 100 := by omega
                 exact ih (i + 1, b, bw, bb, n, f) ⟨by dsimp only; omega, by dsimp only; rw [chg_n hi0 (fun w => hw w.1), hch], by dsimp only; rw [chn_h hi0 hw, hcn0], by dsimp only; rw [chf_h hi0 hw, hcf0]⟩ (by dsimp only; omega))
              | (exact ih (i + 1, b, bw, bb, n + 1, f + F) ⟨by dsimp only; omega, by dsimp only; rw [chg_n hi0 (by rw [hcn, hV, hBk, hch]; dsimp only; intro w; omega), hch], hcn, hcf⟩ (by dsimp only; omega))
              | (exact ih (i + 1, b, bw, bb, n + 1, f + F) ⟨by dsimp only; omega, by dsimp only; rw [chg_n hi0 (by rw [hcn, hV, hBk, hch]; dsimp only; intro w; have := lc_n h157; omega), hch], hcn, hcf⟩ (by dsimp only; omega))
              | (exact ih (i + 1, n + 1, V, Bk, n + 1, f + F) ⟨by dsimp only; omega, by dsimp only; rw [chg_y hi0 (by rw [hcn, hV, hBk, hch]; dsimp only; exact ⟨by omega, by omega, by omega, Or.inl (by assumption)⟩), hcn, hV, hBk], hcn, hcf⟩ (by dsimp only; omega))
              | (exact ih (i + 1, n + 1, V, Bk, n + 1, f + F) ⟨by dsimp only; omega, by dsimp only; rw [chg_y hi0 (by rw [hcn, hV, hBk, hch]; dsimp only; exact ⟨by omega, by omega, by omega, Or.inr (lc_p (by omega))⟩), hcn, hV, hBk], hcn, hcf⟩ (by dsimp only; omega))
            · try simp only [ne_eq, b2i_e, b2i_1, Classical.not_not] at h137
              refine R_iload rfl rfl ?_
              refine R_push rfl ?_
              refine R_ic rfl (fun h143 => ?_) (fun h143 => ?_)
              · try simp only [ne_eq, b2i_e, b2i_1, Classical.not_not] at h143
                refine R_iload rfl rfl ?_
                refine R_istore rfl rfl ?_
                show pCm _ _ _ _ [_, _, _, _, _, _, _, _, _, _, _, _, _, _, _, _, _, _] _ _
                refine R_lload rfl rfl ?_
                refine R_lstore rfl rfl ?_
                show pCm _ _ _ _ [_, _, _, _, _, _, _, _, _, _, _, _, _, _, _, _, _, _] _ _
                refine R_lload rfl rfl ?_
                refine R_lstore rfl rfl ?_
                show pCm _ _ _ _ [_, _, _, _, _, _, _, _, _, _, _, _, _, _, _, _, _, _] _ _
                refine R_inc rfl rfl (by omega) (by omega) ?_
                show pCm _ _ _ _ [_, _, _, _, _, _, _, _, _, _, _, _, _, _, _, _, _, _] _ _
                refine R_goto rfl ?_
                refine fgt wc_X0_changeOf [1, 1, 1, 1, 1, 1, 1, 1, 1, 1, 1, 1, 0, 0, 0, 0, 0, 0] ?_
                first
                | (have hw : ¬ nm i < 100 := by omega
                   exact ih (i + 1, b, bw, bb, n, f) ⟨by dsimp only; omega, by dsimp only; rw [chg_n hi0 (fun w => hw w.1), hch], by dsimp only; rw [chn_h hi0 hw, hcn0], by dsimp only; rw [chf_h hi0 hw, hcf0]⟩ (by dsimp only; omega))
                | (exact ih (i + 1, b, bw, bb, n + 1, f + F) ⟨by dsimp only; omega, by dsimp only; rw [chg_n hi0 (by rw [hcn, hV, hBk, hch]; dsimp only; intro w; omega), hch], hcn, hcf⟩ (by dsimp only; omega))
                | (exact ih (i + 1, b, bw, bb, n + 1, f + F) ⟨by dsimp only; omega, by dsimp only; rw [chg_n hi0 (by rw [hcn, hV, hBk, hch]; dsimp only; intro w; have := lc_n h157; omega), hch], hcn, hcf⟩ (by dsimp only; omega))
                | (exact ih (i + 1, n + 1, V, Bk, n + 1, f + F) ⟨by dsimp only; omega, by dsimp only; rw [chg_y hi0 (by rw [hcn, hV, hBk, hch]; dsimp only; exact ⟨by omega, by omega, by omega, Or.inl (by assumption)⟩), hcn, hV, hBk], hcn, hcf⟩ (by dsimp only; omega))
                | (exact ih (i + 1, n + 1, V, Bk, n + 1, f + F) ⟨by dsimp only; omega, by dsimp only; rw [chg_y hi0 (by rw [hcn, hV, hBk, hch]; dsimp only; exact ⟨by omega, by omega, by omega, Or.inr (lc_p (by omega))⟩), hcn, hV, hBk], hcn, hcf⟩ (by dsimp only; omega))
              · try simp only [ne_eq, b2i_e, b2i_1, Classical.not_not] at h143
                refine R_lload rfl rfl ?_
                refine R_lload rfl rfl ?_
                refine R_lmul rfl (by omega) (by omega) ?_
                refine R_lload rfl rfl ?_
                refine R_lload rfl rfl ?_
                refine R_lmul rfl (by omega) (by omega) ?_
                refine R_lcmp rfl ?_
                refine R_if rfl (fun h157 => ?_) (fun h157 => ?_)
                · try simp only [ne_eq, b2i_e, b2i_1, Classical.not_not] at h157
                  refine R_inc rfl rfl (by omega) (by omega) ?_
                  show pCm _ _ _ _ [_, _, _, _, _, _, _, _, _, _, _, _, _, _, _, _, _, _] _ _
                  refine R_goto rfl ?_
                  refine fgt wc_X0_changeOf [1, 1, 1, 1, 1, 1, 1, 1, 1, 1, 1, 1, 0, 0, 0, 0, 0, 0] ?_
                  first
                  | (have hw : ¬ nm i < 100 := by omega
                     exact ih (i + 1, b, bw, bb, n, f) ⟨by dsimp only; omega, by dsimp only; rw [chg_n hi0 (fun w => hw w.1), hch], by dsimp only; rw [chn_h hi0 hw, hcn0], by dsimp only; rw [chf_h hi0 hw, hcf0]⟩ (by dsimp only; omega))
                  | (exact ih (i + 1, b, bw, bb, n + 1, f + F) ⟨by dsimp only; omega, by dsimp only; rw [chg_n hi0 (by rw [hcn, hV, hBk, hch]; dsimp only; intro w; omega), hch], hcn, hcf⟩ (by dsimp only; omega))
                  | (exact ih (i + 1, b, bw, bb, n + 1, f + F) ⟨by dsimp only; omega, by dsimp only; rw [chg_n hi0 (by rw [hcn, hV, hBk, hch]; dsimp only; intro w; have := lc_n h157; omega), hch], hcn, hcf⟩ (by dsimp only; omega))
                  | (exact ih (i + 1, n + 1, V, Bk, n + 1, f + F) ⟨by dsimp only; omega, by dsimp only; rw [chg_y hi0 (by rw [hcn, hV, hBk, hch]; dsimp only; exact ⟨by omega, by omega, by omega, Or.inl (by assumption)⟩), hcn, hV, hBk], hcn, hcf⟩ (by dsimp only; omega))
                  | (exact ih (i + 1, n + 1, V, Bk, n + 1, f + F) ⟨by dsimp only; omega, by dsimp only; rw [chg_y hi0 (by rw [hcn, hV, hBk, hch]; dsimp only; exact ⟨by omega, by omega, by omega, Or.inr (lc_p (by omega))⟩), hcn, hV, hBk], hcn, hcf⟩ (by dsimp only; omega))
                · try simp only [ne_eq, b2i_e, b2i_1, Classical.not_not] at h157
                  refine R_iload rfl rfl ?_
                  refine R_istore rfl rfl ?_
                  show pCm _ _ _ _ [_, _, _, _, _, _, _, _, _, _, _, _, _, _, _, _, _, _] _ _
                  refine R_lload rfl rfl ?_
                  refine R_lstore rfl rfl ?_
                  show pCm _ _ _ _ [_, _, _, _, _, _, _, _, _, _, _, _, _, _, _, _, _, _] _ _
                  refine R_lload rfl rfl ?_
                  refine R_lstore rfl rfl ?_
                  show pCm _ _ _ _ [_, _, _, _, _, _, _, _, _, _, _, _, _, _, _, _, _, _] _ _
                  refine R_inc rfl rfl (by omega) (by omega) ?_
                  show pCm _ _ _ _ [_, _, _, _, _, _, _, _, _, _, _, _, _, _, _, _, _, _] _ _
                  refine R_goto rfl ?_
                  refine fgt wc_X0_changeOf [1, 1, 1, 1, 1, 1, 1, 1, 1, 1, 1, 1, 0, 0, 0, 0, 0, 0] ?_
                  first
                  | (have hw : ¬ nm i < 100 := by omega
                     exact ih (i + 1, b, bw, bb, n, f) ⟨by dsimp only; omega, by dsimp only; rw [chg_n hi0 (fun w => hw w.1), hch], by dsimp only; rw [chn_h hi0 hw, hcn0], by dsimp only; rw [chf_h hi0 hw, hcf0]⟩ (by dsimp only; omega))
                  | (exact ih (i + 1, b, bw, bb, n + 1, f + F) ⟨by dsimp only; omega, by dsimp only; rw [chg_n hi0 (by rw [hcn, hV, hBk, hch]; dsimp only; intro w; omega), hch], hcn, hcf⟩ (by dsimp only; omega))
                  | (exact ih (i + 1, b, bw, bb, n + 1, f + F) ⟨by dsimp only; omega, by dsimp only; rw [chg_n hi0 (by rw [hcn, hV, hBk, hch]; dsimp only; intro w; have := lc_n h157; omega), hch], hcn, hcf⟩ (by dsimp only; omega))
                  | (exact ih (i + 1, n + 1, V, Bk, n + 1, f + F) ⟨by dsimp only; omega, by dsimp only; rw [chg_y hi0 (by rw [hcn, hV, hBk, hch]; dsimp only; exact ⟨by omega, by omega, by omega, Or.inl (by assumption)⟩), hcn, hV, hBk], hcn, hcf⟩ (by dsimp only; omega))
                  | (exact ih (i + 1, n + 1, V, Bk, n + 1, f + F) ⟨by dsimp only; omega, by dsimp only; rw [chg_y hi0 (by rw [hcn, hV, hBk, hch]; dsimp only; exact ⟨by omega, by omega, by omega, Or.inr (lc_p (by omega))⟩), hcn, hV, hBk], hcn, hcf⟩ (by dsimp only; omega))
        · try simp only [ne_eq, b2i_e, b2i_1, Classical.not_not] at h75
          refine R_goto rfl ?_
          refine R_inc rfl rfl (by omega) (by omega) ?_
          show pCm _ _ _ _ [_, _, _, _, _, _, _, _, _, _, _, _, _, _, _, _, _, _] _ _
          refine R_goto rfl ?_
          refine fgt wc_X0_changeOf [1, 1, 1, 1, 1, 1, 1, 1, 1, 1, 1, 1, 0, 0, 0, 0, 0, 0] ?_
          first
          | (have hw : ¬ nm i < 100 := by omega
             exact ih (i + 1, b, bw, bb, n, f) ⟨by dsimp only; omega, by dsimp only; rw [chg_n hi0 (fun w => hw w.1), hch], by dsimp only; rw [chn_h hi0 hw, hcn0], by dsimp only; rw [chf_h hi0 hw, hcf0]⟩ (by dsimp only; omega))
          | (exact ih (i + 1, b, bw, bb, n + 1, f + F) ⟨by dsimp only; omega, by dsimp only; rw [chg_n hi0 (by rw [hcn, hV, hBk, hch]; dsimp only; intro w; omega), hch], hcn, hcf⟩ (by dsimp only; omega))
          | (exact ih (i + 1, b, bw, bb, n + 1, f + F) ⟨by dsimp only; omega, by dsimp only; rw [chg_n hi0 (by rw [hcn, hV, hBk, hch]; dsimp only; intro w; have := lc_n h157; omega), hch], hcn, hcf⟩ (by dsimp only; omega))
          | (exact ih (i + 1, n + 1, V, Bk, n + 1, f + F) ⟨by dsimp only; omega, by dsimp only; rw [chg_y hi0 (by rw [hcn, hV, hBk, hch]; dsimp only; exact ⟨by omega, by omega, by omega, Or.inl (by assumption)⟩), hcn, hV, hBk], hcn, hcf⟩ (by dsimp only; omega))
          | (exact ih (i + 1, n + 1, V, Bk, n + 1, f + F) ⟨by dsimp only; omega, by dsimp only; rw [chg_y hi0 (by rw [hcn, hV, hBk, hch]; dsimp only; exact ⟨by omega, by omega, by omega, Or.inr (lc_p (by omega))⟩), hcn, hV, hBk], hcn, hcf⟩ (by dsimp only; omega))
  · exact ⟨⟨Int.le_refl _, by dsimp only; omega⟩, rfl, rfl, rfl⟩

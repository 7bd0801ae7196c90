theorem mrg_congr {P : Int} {h h' : Int → Int} {a b : Int} (hh : ∀ p, 0 ≤ p → p < P → h p = h' p) (ha : 0 ≤ a ∧ a < P) (hb : 0 ≤ b ∧ b < P) : ∀ p, 0 ≤ p → p < P → mrg P h a b p = mrg P h' a b p := by
  intro p h0 h1
  unfold mrg
  rw [hh p h0 h1, hh a ha.1 ha.2, hh b hb.1 hb.2]
theorem mrg_max {P : Int} {h : Int → Int} {a b p : Int} (h0 : 0 ≤ p) (h1 : p < P) : mrg P h a b p = if h p = max (h a) (h b) then min (h a) (h b) else h p := by
  unfold mrg
  by_cases c : h a < h b
  · rw [if_pos c]
    by_cases q : h p = max (h a) (h b)
    · rw [if_pos q, if_pos (by omega)]; omega
    · rw [if_neg q]
      by_cases q2 : 0 ≤ p ∧ p < P ∧ (h p = h a ∨ h p = h b)
      · rw [if_pos q2]; omega
      · rw [if_neg q2]
  · rw [if_neg c]
    by_cases q : h p = max (h a) (h b)
    · rw [if_pos q, if_pos (by omega)]; omega
    · rw [if_neg q]
      by_cases q2 : 0 ≤ p ∧ p < P ∧ (h p = h a ∨ h p = h b)
      · rw [if_pos q2]; omega
      · rw [if_neg q2]
theorem sumZ_at {f g : Int → Int} {n i : Int} (h0 : 0 ≤ i) (h1 : i < n) (h : ∀ k, k ≠ i → f k = g k) : sumZ f n = sumZ g n + (f i - g i) := by
  have key : ∀ m : Nat, sumZ f m = sumZ g m + (if i < m then f i - g i else 0) := by
    intro m
    induction m with
    | zero => rw [if_neg (by omega)]; rfl
    | succ m ih =>
      have e1 : sumZ f ((m + 1 : Nat) : Int) = sumZ f m + f m := sumZ_s (n := m) (by omega)
      have e2 : sumZ g ((m + 1 : Nat) : Int) = sumZ g m + g m := sumZ_s (n := m) (by omega)
      rw [e1, e2, ih]
      by_cases q : i < (m : Int)
      · rw [if_pos q, if_pos (by omega), h m (by omega)]; omega
      · rw [if_neg q]
        by_cases q2 : i = m
        · rw [if_pos (by omega), ← q2]; omega
        · rw [if_neg (by omega), h m (by omega)]; omega
  have := key n.toNat
  rw [Int.toNat_of_nonneg (by omega), if_pos h1] at this
  exact this
theorem sumZ_lt {p : Int → Bool} {n i : Int} (h0 : 0 ≤ i) (h1 : i < n) (h : p i = false) : sumZ (fun k => b2i (p k = true)) n ≤ n - 1 := by
  have e := sumZ_at (f := fun k => b2i (p k = true)) (g := fun k => if k = i then 1 else b2i (p k = true)) h0 h1 (fun k hk => by simp only [hk, if_false])
  have b := sumZ_bd (f := fun k => if k = i then 1 else b2i (p k = true)) (c := 1) (n := n) (by omega) (fun k _ _ => by
    have := b2i_bd (p := p k = true)
    split <;> omega)
  simp only [h, if_true] at e
  rw [b2i_f (by simp)] at e
  omega
def fup (f : Int → Int) (i v : Int) : Int → Int := fun j => if j = i then v else f j
theorem fup_s {f : Int → Int} {i v : Int} : fup f i v i = v := by simp [fup]
theorem fup_o {f : Int → Int} {i j v : Int} (h : j ≠ i) : fup f i v j = f j := by simp [fup, h]
-- breadth first: how many are found, in which order, with which turn (-1: not yet)
abbrev BS : Type := Int × (Int → Int) × (Int → Int)
def nbr (on : Int → Bool) (A B : Int → Int) (u j : Int) : Int := if on j = true then (if A j / 8 = u then B j / 8 else if B j / 8 = u then A j / 8 else -1) else -1
def bstep (on : Int → Bool) (A B T : Int → Int) (u j : Int) (s : BS) : BS := if nbr on A B u j ≠ -1 ∧ s.2.2 (nbr on A B u j) = -1 then (s.1 + 1, fup s.2.1 s.1 (nbr on A B u j), fup s.2.2 (nbr on A B u j) ((T j - s.2.2 u) % 8)) else s
def bpiece (on : Int → Bool) (A B T : Int → Int) (J u : Int) (s : BS) : BS := foldZ (bstep on A B T u) J s
def bfs (on : Int → Bool) (A B T : Int → Int) (J m : Int) (s : BS) : BS := foldZ (fun i s => if i < s.1 then bpiece on A B T J (s.2.1 i) s else s) m s
/-- what a walk breadth first keeps: as many are found as bear a turn, at the most; all that are found bear one and are pieces; turns are 0 .. 7 or -1 -/
def BI (P : Int) (s : BS) : Prop := (1 ≤ s.1 ∧ s.1 ≤ sumZ (fun p => b2i (decide (s.2.2 p ≠ -1) = true)) P) ∧ (∀ i, 0 ≤ i → i < s.1 → 0 ≤ s.2.1 i ∧ s.2.1 i < P ∧ s.2.2 (s.2.1 i) ≠ -1) ∧ ∀ p, 0 ≤ p → p < P → -1 ≤ s.2.2 p ∧ s.2.2 p ≤ 7
theorem nbr_in {on : Int → Bool} {A B : Int → Int} {P J u j : Int} (hAB : ∀ j, 0 ≤ j → j < J → (0 ≤ A j ∧ A j < 8 * P) ∧ 0 ≤ B j ∧ B j < 8 * P) (h0 : 0 ≤ j) (h1 : j < J) : nbr on A B u j = -1 ∨ 0 ≤ nbr on A B u j ∧ nbr on A B u j < P := by
  have := hAB j h0 h1
  unfold nbr
  repeat' split
  all_goals omega
theorem BI_step {on : Int → Bool} {A B T : Int → Int} {P J u j : Int} {s : BS} (hP : 0 ≤ P) (hAB : ∀ j, 0 ≤ j → j < J → (0 ≤ A j ∧ A j < 8 * P) ∧ 0 ≤ B j ∧ B j < 8 * P) (h0 : 0 ≤ j) (h1 : j < J) (h : BI P s) : BI P (bstep on A B T u j s) ∧ s.1 ≤ (bstep on A B T u j s).1 ∧ (∀ i, i < s.1 → (bstep on A B T u j s).2.1 i = s.2.1 i) ∧ (∀ p, s.2.2 p ≠ -1 → (bstep on A B T u j s).2.2 p = s.2.2 p) ∧ (nbr on A B u j ≠ -1 ∧ s.2.2 (nbr on A B u j) = -1 → s.1 < P) := by
  obtain ⟨⟨b1, b2⟩, b3, b4⟩ := h
  unfold bstep
  by_cases c : nbr on A B u j ≠ -1 ∧ s.2.2 (nbr on A B u j) = -1
  · rw [if_pos c]
    have hn := nbr_in (on := on) (u := u) hAB h0 h1
    have hn : 0 ≤ nbr on A B u j ∧ nbr on A B u j < P := by omega
    generalize nbr on A B u j = q at c hn
    have e := sumZ_at (f := fun p => b2i (decide (fup s.2.2 q ((T j - s.2.2 u) % 8) p ≠ -1) = true)) (g := fun p => b2i (decide (s.2.2 p ≠ -1) = true)) hn.1 hn.2 (fun k hk => by simp only [fup_o hk])
    have hm : 0 ≤ (T j - s.2.2 u) % 8 ∧ (T j - s.2.2 u) % 8 < 8 := by omega
    generalize (T j - s.2.2 u) % 8 = tv at e hm
    try dsimp only at e
    rw [fup_s, b2i_t (by simp; omega), b2i_f (by simp; exact c.2)] at e
    have hlt := sumZ_lt (p := fun p => decide (s.2.2 p ≠ -1)) hn.1 hn.2 (by simp; exact c.2)
    refine ⟨⟨⟨by dsimp only; omega, by dsimp only; rw [e]; omega⟩, fun i hi0 hi1 => ?_, fun p hp0 hp1 => ?_⟩, by dsimp only; omega, fun i hi => ?_, fun p hp => ?_, fun _ => by omega⟩
    · dsimp only at hi1 ⊢
      by_cases z : i = s.1
      · rw [z, fup_s, fup_s]; omega
      · rw [fup_o z]
        have := b3 i hi0 (by omega)
        refine ⟨this.1, this.2.1, ?_⟩
        by_cases z2 : s.2.1 i = q
        · rw [z2, fup_s]; omega
        · rw [fup_o z2]; exact this.2.2
    · dsimp only
      by_cases z : p = q
      · rw [z, fup_s]; omega
      · rw [fup_o z]; exact b4 p hp0 hp1
    · dsimp only; rw [fup_o (by omega)]
    · dsimp only
      rw [fup_o (fun z => hp (by rw [z]; exact c.2))]
  · rw [if_neg c]
    exact ⟨⟨⟨b1, b2⟩, b3, b4⟩, Int.le_refl _, fun _ _ => rfl, fun _ _ => rfl, fun z => absurd z c⟩
theorem bpiece_s {on : Int → Bool} {A B T : Int → Int} {J u : Int} {s : BS} (h : 0 ≤ J) : bpiece on A B T (J + 1) u s = bstep on A B T u J (bpiece on A B T J u s) := foldZ_s h
theorem bpiece_0 {on : Int → Bool} {A B T : Int → Int} {u : Int} {s : BS} : bpiece on A B T 0 u s = s := rfl
theorem BI_piece {on : Int → Bool} {A B T : Int → Int} {P J u : Int} {s : BS} (hP : 0 ≤ P) (hJ : 0 ≤ J) (hAB : ∀ j, 0 ≤ j → j < J → (0 ≤ A j ∧ A j < 8 * P) ∧ 0 ≤ B j ∧ B j < 8 * P) (h : BI P s) : ∀ j, 0 ≤ j → j ≤ J → BI P (bpiece on A B T j u s) ∧ s.1 ≤ (bpiece on A B T j u s).1 ∧ (∀ i, i < s.1 → (bpiece on A B T j u s).2.1 i = s.2.1 i) ∧ (∀ p, s.2.2 p ≠ -1 → (bpiece on A B T j u s).2.2 p = s.2.2 p) := by
  have key : ∀ m : Nat, (m : Int) ≤ J → BI P (bpiece on A B T m u s) ∧ s.1 ≤ (bpiece on A B T m u s).1 ∧ (∀ i, i < s.1 → (bpiece on A B T m u s).2.1 i = s.2.1 i) ∧ (∀ p, s.2.2 p ≠ -1 → (bpiece on A B T m u s).2.2 p = s.2.2 p) := by
    intro m
    induction m with
    | zero => intro _; exact ⟨h, Int.le_refl _, fun _ _ => rfl, fun _ _ => rfl⟩
    | succ m ih =>
      intro hm
      obtain ⟨i1, i2, i3, i4⟩ := ih (by omega)
      have e : bpiece on A B T ((m + 1 : Nat) : Int) u s = _ := bpiece_s (J := m) (by omega)
      rw [e]
      obtain ⟨j1, j2, j3, j4, -⟩ := BI_step (on := on) (T := T) (u := u) (j := m) hP hAB (by omega) (by omega) i1
      refine ⟨j1, by omega, fun i hi => by rw [j3 i (by omega), i3 i hi], fun p hp => ?_⟩
      rw [j4 p (by rw [i4 p hp]; exact hp), i4 p hp]
  intro j h0 h1
  have := key j.toNat (by omega)
  rwa [Int.toNat_of_nonneg h0] at this
theorem bfs_s {on : Int → Bool} {A B T : Int → Int} {J m : Int} {s : BS} (h : 0 ≤ m) : bfs on A B T J (m + 1) s = (if m < (bfs on A B T J m s).1 then bpiece on A B T J ((bfs on A B T J m s).2.1 m) (bfs on A B T J m s) else bfs on A B T J m s) := foldZ_s h
theorem bfs_0 {on : Int → Bool} {A B T : Int → Int} {J : Int} {s : BS} : bfs on A B T J 0 s = s := rfl
theorem BI_bfs {on : Int → Bool} {A B T : Int → Int} {P J : Int} {s : BS} (hP : 0 ≤ P) (hJ : 0 ≤ J) (hAB : ∀ j, 0 ≤ j → j < J → (0 ≤ A j ∧ A j < 8 * P) ∧ 0 ≤ B j ∧ B j < 8 * P) (h : BI P s) : ∀ m, 0 ≤ m → BI P (bfs on A B T J m s) ∧ s.1 ≤ (bfs on A B T J m s).1 ∧ (∀ p, s.2.2 p ≠ -1 → (bfs on A B T J m s).2.2 p = s.2.2 p) := by
  have key : ∀ m : Nat, BI P (bfs on A B T J m s) ∧ s.1 ≤ (bfs on A B T J m s).1 ∧ (∀ p, s.2.2 p ≠ -1 → (bfs on A B T J m s).2.2 p = s.2.2 p) := by
    intro m
    induction m with
    | zero => exact ⟨h, Int.le_refl _, fun _ _ => rfl⟩
    | succ m ih =>
      obtain ⟨i1, i2, i3⟩ := ih
      have e : bfs on A B T J ((m + 1 : Nat) : Int) s = _ := bfs_s (m := m) (by omega)
      rw [e]
      by_cases c : (m : Int) < (bfs on A B T J m s).1
      · rw [if_pos c]
        obtain ⟨j1, j2, j3, j4⟩ := BI_piece (on := on) (T := T) (u := (bfs on A B T J m s).2.1 m) hP hJ hAB i1 J hJ (Int.le_refl _)
        exact ⟨j1, by omega, fun p hp => by rw [j4 p (by rw [i3 p hp]; exact hp), i3 p hp]⟩
      · rw [if_neg c]; exact ⟨i1, i2, i3⟩
  intro m h0
  have := key m.toNat
  rwa [Int.toNat_of_nonneg h0] at this
theorem BI_le {P : Int} {s : BS} (hP : 0 ≤ P) (h : BI P s) : s.1 ≤ P := by
  have := sumZ_bd (f := fun p => b2i (decide (s.2.2 p ≠ -1) = true)) (c := 1) hP (fun _ _ _ => b2i_bd)
  have := h.1.2
  omega

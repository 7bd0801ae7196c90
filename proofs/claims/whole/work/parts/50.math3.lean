theorem mrg_t {P : Int} {h : Int → Int} {a b p : Int} (hp : 0 ≤ p ∧ p < P) (z : h p = h a ∨ h p = h b) : mrg P h a b p = if h a < h b then h a else h b := by unfold mrg; exact if_pos ⟨hp.1, hp.2, z⟩
theorem mrg_f {P : Int} {h : Int → Int} {a b p : Int} (z : ¬ (h p = h a ∨ h p = h b)) : mrg P h a b p = h p := by unfold mrg; exact if_neg (fun y => z y.2.2)
theorem up_row {σ : Sg} {k : Nat} {i v : Int} : up2 σ k i v k = fup (σ k) i v := by funext j; simp [up2, fup]
theorem up_rowo {σ : Sg} {k k' : Nat} {i v : Int} (h : k' ≠ k) : up2 σ k i v k' = σ k' := by funext j; simp [up2, h]
theorem sumZ_ge1 {p : Int → Bool} {n i : Int} (h0 : 0 ≤ i) (h1 : i < n) (h : p i = true) : 1 ≤ sumZ (fun k => b2i (p k = true)) n := by
  have e := sumZ_at (f := fun k => b2i (p k = true)) (g := fun k => if k = i then 0 else b2i (p k = true)) h0 h1 (fun k hk => by simp only [hk, if_false])
  have b := sumZ_bd (f := fun k => if k = i then 0 else b2i (p k = true)) (c := 1) (n := n) (by omega) (fun k _ _ => by
    have := b2i_bd (p := p k = true)
    split <;> omega)
  simp only [h, if_true] at e
  rw [b2i_t trivial] at e
  omega
theorem bfs_stop {on : Int → Bool} {A B T : Int → Int} {J m : Int} {s : BS} (h0 : 0 ≤ m) (h : (bfs on A B T J m s).1 ≤ m) : ∀ m', m ≤ m' → bfs on A B T J m' s = bfs on A B T J m s := by
  have key : ∀ n : Nat, bfs on A B T J (m + n) s = bfs on A B T J m s := by
    intro n
    induction n with
    | zero => simp
    | succ n ih =>
      have e : bfs on A B T J (m + n + 1) s = _ := bfs_s (m := m + n) (by omega)
      rw [show m + ((n + 1 : Nat) : Int) = m + n + 1 by omega, e, ih, if_neg (by omega)]
  intro m' hm
  have := key (m' - m).toNat
  rwa [show m + ((m' - m).toNat : Int) = m' by omega] at this
/-- two walks that go the same way within the closed set C -/
def Lk (C : Int → Prop) (s s' : BS) : Prop := s.1 = s'.1 ∧ (∀ i, 0 ≤ i → i < s.1 → s.2.1 i = s'.2.1 i ∧ C (s.2.1 i)) ∧ ∀ p, C p → s.2.2 p = s'.2.2 p
theorem Lk_step {C : Int → Prop} {on : Int → Bool} {A B T : Int → Int} {u j : Int} {s s' : BS} (hC : on j = true → (C (A j / 8) ↔ C (B j / 8))) (hu : C u) (hs : 0 ≤ s.1) (h : Lk C s s') : Lk C (bstep on A B T u j s) (bstep on A B T u j s') ∧ ∀ p, ¬ C p → (bstep on A B T u j s).2.2 p = s.2.2 p := by
  obtain ⟨l1, l2, l3⟩ := h
  have hn : nbr on A B u j ≠ -1 → C (nbr on A B u j) := by
    unfold nbr
    by_cases o : on j = true
    · rw [if_pos o]
      have := hC o
      by_cases a : A j / 8 = u
      · rw [if_pos a]; rw [a] at this; exact fun _ => this.mp hu
      · rw [if_neg a]
        by_cases b : B j / 8 = u
        · rw [if_pos b]; rw [b] at this; exact fun _ => this.mpr hu
        · rw [if_neg b]; exact fun z => absurd rfl z
    · rw [if_neg o]; exact fun z => absurd rfl z
  unfold bstep
  generalize nbr on A B u j = q at hn
  by_cases c : q ≠ -1 ∧ s.2.2 q = -1
  · have cq := hn c.1
    have c' : q ≠ -1 ∧ s'.2.2 q = -1 := ⟨c.1, by rw [← l3 q cq]; exact c.2⟩
    rw [if_pos c, if_pos c']
    refine ⟨⟨by dsimp only; omega, fun i hi0 hi1 => ?_, fun p hp => ?_⟩, fun p hp => ?_⟩
    · dsimp only at hi1 ⊢
      by_cases z : i = s.1
      · rw [z, fup_s, l1, fup_s]; exact ⟨rfl, cq⟩
      · rw [fup_o z, fup_o (by omega)]; exact l2 i hi0 (by omega)
    · dsimp only
      rw [l3 u hu]
      by_cases z : p = q
      · rw [z, fup_s, fup_s]
      · rw [fup_o z, fup_o z]; exact l3 p hp
    · dsimp only
      rw [fup_o (fun z => hp (by rw [z]; exact cq))]
  · have c' : ¬ (q ≠ -1 ∧ s'.2.2 q = -1) := fun z => c ⟨z.1, by rw [l3 q (hn z.1)]; exact z.2⟩
    rw [if_neg c, if_neg c']
    exact ⟨⟨l1, l2, l3⟩, fun _ _ => rfl⟩
theorem Lk_piece {C : Int → Prop} {on : Int → Bool} {A B T : Int → Int} {P J u : Int} {s s' : BS} (hP : 0 ≤ P) (hJ : 0 ≤ J) (hAB : ∀ j, 0 ≤ j → j < J → (0 ≤ A j ∧ A j < 8 * P) ∧ 0 ≤ B j ∧ B j < 8 * P) (hC : ∀ j, 0 ≤ j → j < J → on j = true → (C (A j / 8) ↔ C (B j / 8))) (hu : C u) (hb : BI P s) (h : Lk C s s') : Lk C (bpiece on A B T J u s) (bpiece on A B T J u s') ∧ ∀ p, ¬ C p → (bpiece on A B T J u s).2.2 p = s.2.2 p := by
  have key : ∀ m : Nat, (m : Int) ≤ J → Lk C (bpiece on A B T m u s) (bpiece on A B T m u s') ∧ ∀ p, ¬ C p → (bpiece on A B T m u s).2.2 p = s.2.2 p := by
    intro m
    induction m with
    | zero => intro _; exact ⟨h, fun _ _ => rfl⟩
    | succ m ih =>
      intro hm
      obtain ⟨i1, i2⟩ := ih (by omega)
      have e : bpiece on A B T ((m + 1 : Nat) : Int) u s = _ := bpiece_s (J := m) (by omega)
      have e' : bpiece on A B T ((m + 1 : Nat) : Int) u s' = _ := bpiece_s (J := m) (by omega)
      rw [e, e']
      have hb' := (BI_piece (on := on) (T := T) (u := u) hP hJ hAB hb m (by omega) (by omega)).1
      obtain ⟨j1, j2⟩ := Lk_step (T := T) (u := u) (hC m (by omega) (by omega)) hu (by have := hb'.1.1; omega) i1
      exact ⟨j1, fun p hp => by rw [j2 p hp, i2 p hp]⟩
  have := key J.toNat (by omega)
  rwa [Int.toNat_of_nonneg hJ] at this
theorem Lk_bfs {C : Int → Prop} {on : Int → Bool} {A B T : Int → Int} {P J : Int} {s s' : BS} (hP : 0 ≤ P) (hJ : 0 ≤ J) (hAB : ∀ j, 0 ≤ j → j < J → (0 ≤ A j ∧ A j < 8 * P) ∧ 0 ≤ B j ∧ B j < 8 * P) (hC : ∀ j, 0 ≤ j → j < J → on j = true → (C (A j / 8) ↔ C (B j / 8))) (hb : BI P s) (h : Lk C s s') : ∀ m, 0 ≤ m → Lk C (bfs on A B T J m s) (bfs on A B T J m s') ∧ ∀ p, ¬ C p → (bfs on A B T J m s).2.2 p = s.2.2 p := by
  have key : ∀ m : Nat, Lk C (bfs on A B T J m s) (bfs on A B T J m s') ∧ ∀ p, ¬ C p → (bfs on A B T J m s).2.2 p = s.2.2 p := by
    intro m
    induction m with
    | zero => exact ⟨h, fun _ _ => rfl⟩
    | succ m ih =>
      obtain ⟨i1, i2⟩ := ih
      have e : bfs on A B T J ((m + 1 : Nat) : Int) s = _ := bfs_s (m := m) (by omega)
      have e' : bfs on A B T J ((m + 1 : Nat) : Int) s' = _ := bfs_s (m := m) (by omega)
      rw [e, e', ← i1.1]
      by_cases c : (m : Int) < (bfs on A B T J m s).1
      · rw [if_pos c, if_pos c]
        have hq := i1.2.1 m (by omega) c
        rw [← hq.1]
        obtain ⟨j1, j2⟩ := Lk_piece (T := T) hP hJ hAB hC hq.2 (BI_bfs hP hJ hAB hb m (by omega)).1 i1
        exact ⟨j1, fun p hp => by rw [j2 p hp, i2 p hp]⟩
      · rw [if_neg c, if_neg c]; exact ⟨i1, i2⟩
  intro m h0
  have := key m.toNat
  rwa [Int.toNat_of_nonneg h0] at this
-- labels: a join that counts makes its pieces' labels one; a label is its own
theorem lab_pre {P : Int} {on : Int → Bool} {A B : Int → Int} {j J : Int} (h0 : 0 ≤ j) (hj : j ≤ J) {p q : Int} (hp : 0 ≤ p ∧ p < P) (hq : 0 ≤ q ∧ q < P) (h : lab P j on A B p = lab P j on A B q) : lab P J on A B p = lab P J on A B q := by
  have key : ∀ m : Nat, lab P (j + m) on A B p = lab P (j + m) on A B q := by
    intro m
    induction m with
    | zero => simpa using h
    | succ m ih =>
      have e : lab P (j + m + 1) on A B = _ := lab_s (J := j + m) (by omega)
      rw [show j + ((m + 1 : Nat) : Int) = j + m + 1 by omega, e]
      by_cases c : on (j + m) = true
      · rw [if_pos c]
        by_cases z : lab P (j + m) on A B q = lab P (j + m) on A B (A (j + m) / 8) ∨ lab P (j + m) on A B q = lab P (j + m) on A B (B (j + m) / 8)
        · rw [mrg_t hq z, mrg_t hp (by rw [ih]; exact z)]
        · rw [mrg_f z, mrg_f (by rw [ih]; exact z)]; exact ih
      · rw [if_neg c]; exact ih
  have := key (J - j).toNat
  rwa [show j + ((J - j).toNat : Int) = J by omega] at this
theorem lab_join {P J : Int} {on : Int → Bool} {A B : Int → Int} (hAB : ∀ j, 0 ≤ j → j < J → (0 ≤ A j ∧ A j < 8 * P) ∧ 0 ≤ B j ∧ B j < 8 * P) {j : Int} (h0 : 0 ≤ j) (h1 : j < J) (ho : on j = true) : lab P J on A B (A j / 8) = lab P J on A B (B j / 8) := by
  have hb := hAB j h0 h1
  refine lab_pre (j := j + 1) (by omega) (by omega) (by omega) (by omega) ?_
  rw [lab_s h0, if_pos ho]
  rw [mrg_t (by omega) (Or.inl rfl), mrg_t (by omega) (Or.inr rfl)]
theorem lab_idem {P J : Int} {on : Int → Bool} {A B : Int → Int} (hJ : 0 ≤ J) (hAB : ∀ j, 0 ≤ j → j < J → (0 ≤ A j ∧ A j < 8 * P) ∧ 0 ≤ B j ∧ B j < 8 * P) : ∀ p, 0 ≤ p → p < P → lab P J on A B (lab P J on A B p) = lab P J on A B p := by
  have key : ∀ m : Nat, (m : Int) ≤ J → ∀ p, 0 ≤ p → p < P → lab P m on A B (lab P m on A B p) = lab P m on A B p := by
    intro m
    induction m with
    | zero => intro _ p _ _; rfl
    | succ m ih =>
      intro hm p hp0 hp1
      have hb := hAB m (by omega) (by omega)
      have bd := lab_bd (P := P) (J := m) (on := on) (A := A) (B := B) (by omega) (fun j h0 h1 => hAB j h0 (by omega))
      have ih := ih (by omega)
      have e : lab P ((m + 1 : Nat) : Int) on A B = _ := lab_s (J := m) (by omega)
      rw [e]
      by_cases c : on m = true
      · rw [if_pos c]
        generalize lab P m on A B = h at ih bd
        have ia := ih (A m / 8) (by omega) (by omega)
        have ib := ih (B m / 8) (by omega) (by omega)
        have ip := ih p hp0 hp1
        have ba := bd (A m / 8) (by omega) (by omega)
        have bb := bd (B m / 8) (by omega) (by omega)
        have bp := bd p hp0 hp1
        generalize A m / 8 = a at *
        generalize B m / 8 = b at *
        by_cases z : h p = h a ∨ h p = h b
        · rw [mrg_t ⟨hp0, hp1⟩ z]
          by_cases y : h a < h b
          · rw [if_pos y, mrg_t (by omega) (Or.inl ia), if_pos y]
          · rw [if_neg y, mrg_t (by omega) (Or.inr ib), if_neg y]
        · rw [mrg_f z, mrg_f (by rw [ip]; exact z)]; exact ip
      · rw [if_neg c]; exact ih p hp0 hp1
  have := key J.toNat (by omega)
  rwa [Int.toNat_of_nonneg hJ] at this
/-- a set that is closed under the joins that count is a set of whole heaps -/
theorem lab_closed {P J : Int} {on : Int → Bool} {A B : Int → Int} {V : Int → Prop} (hJ : 0 ≤ J) (hAB : ∀ j, 0 ≤ j → j < J → (0 ≤ A j ∧ A j < 8 * P) ∧ 0 ≤ B j ∧ B j < 8 * P) (hV : ∀ j, 0 ≤ j → j < J → on j = true → (V (A j / 8) ↔ V (B j / 8))) : ∀ p q, (0 ≤ p ∧ p < P) → (0 ≤ q ∧ q < P) → lab P J on A B p = lab P J on A B q → (V p ↔ V q) := by
  have key : ∀ m : Nat, (m : Int) ≤ J → ∀ p q, (0 ≤ p ∧ p < P) → (0 ≤ q ∧ q < P) → lab P m on A B p = lab P m on A B q → (V p ↔ V q) := by
    intro m
    induction m with
    | zero => intro _ p q _ _ h; have h : p = q := h; rw [h]
    | succ m ih =>
      intro hm p q hp hq h
      have ih := ih (by omega)
      have hb := hAB m (by omega) (by omega)
      have e : lab P ((m + 1 : Nat) : Int) on A B = _ := lab_s (J := m) (by omega)
      rw [e] at h
      by_cases c : on m = true
      · rw [if_pos c] at h
        have hv := hV m (by omega) (by omega) c
        have pa : ∀ x, (0 ≤ x ∧ x < P) → (lab P m on A B x = lab P m on A B (A m / 8) ∨ lab P m on A B x = lab P m on A B (B m / 8)) → (V x ↔ V (A m / 8)) := by
          intro x hx z
          rcases z with z | z
          · exact ih x (A m / 8) hx (by omega) z
          · exact (ih x (B m / 8) hx (by omega) z).trans hv.symm
        by_cases zp : lab P m on A B p = lab P m on A B (A m / 8) ∨ lab P m on A B p = lab P m on A B (B m / 8)
        · rw [mrg_t hp zp] at h
          by_cases zq : lab P m on A B q = lab P m on A B (A m / 8) ∨ lab P m on A B q = lab P m on A B (B m / 8)
          · exact (pa p hp zp).trans (pa q hq zq).symm
          · rw [mrg_f zq] at h
            exfalso
            apply zq
            by_cases y : lab P m on A B (A m / 8) < lab P m on A B (B m / 8)
            · rw [if_pos y] at h; exact Or.inl h.symm
            · rw [if_neg y] at h; exact Or.inr h.symm
        · rw [mrg_f zp] at h
          by_cases zq : lab P m on A B q = lab P m on A B (A m / 8) ∨ lab P m on A B q = lab P m on A B (B m / 8)
          · rw [mrg_t hq zq] at h
            exfalso
            apply zp
            by_cases y : lab P m on A B (A m / 8) < lab P m on A B (B m / 8)
            · rw [if_pos y] at h; exact Or.inl h
            · rw [if_neg y] at h; exact Or.inr h
          · rw [mrg_f zq] at h
            exact ih p q hp hq h
      · rw [if_neg c] at h; exact ih p q hp hq h
  have := key J.toNat (by omega)
  rwa [Int.toNat_of_nonneg hJ] at this

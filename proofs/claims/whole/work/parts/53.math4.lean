-- all of a heap is found
theorem bstep_n {on : Int → Bool} {A B T : Int → Int} {u j : Int} {s : BS} (ht : ∀ x : Int, x % 8 ≠ -1) : (nbr on A B u j ≠ -1 → (bstep on A B T u j s).2.2 (nbr on A B u j) ≠ -1) ∧ (∀ p, s.2.2 p ≠ -1 → (bstep on A B T u j s).2.2 p ≠ -1) ∧ ((∀ p, s.2.2 p ≠ -1 → ∃ i, (0 ≤ i ∧ i < s.1) ∧ s.2.1 i = p) → 0 ≤ s.1 → ∀ p, (bstep on A B T u j s).2.2 p ≠ -1 → ∃ i, (0 ≤ i ∧ i < (bstep on A B T u j s).1) ∧ (bstep on A B T u j s).2.1 i = p) := by
  unfold bstep
  generalize nbr on A B u j = q
  by_cases c : q ≠ -1 ∧ s.2.2 q = -1
  · rw [if_pos c]
    refine ⟨fun _ => ?_, fun p hp => ?_, fun h h0 p hp => ?_⟩
    · dsimp only; rw [fup_s]; exact ht _
    · dsimp only
      by_cases z : p = q
      · rw [z, fup_s]; exact ht _
      · rw [fup_o z]; exact hp
    · dsimp only at hp ⊢
      by_cases z : p = q
      · exact ⟨s.1, by omega, by rw [fup_s, z]⟩
      · rw [fup_o z] at hp
        obtain ⟨i, hi, e⟩ := h p hp
        exact ⟨i, by omega, by rw [fup_o (by omega), e]⟩
  · rw [if_neg c]
    exact ⟨fun z y => c ⟨z, y⟩, fun _ h => h, fun h _ => h⟩
theorem mod_ne (x : Int) : x % 8 ≠ -1 := by omega
def VQ (s : BS) : Prop := ∀ p, s.2.2 p ≠ -1 → ∃ i, (0 ≤ i ∧ i < s.1) ∧ s.2.1 i = p
theorem bpiece_n {on : Int → Bool} {A B T : Int → Int} {P J u : Int} {s : BS} (hP : 0 ≤ P) (hJ : 0 ≤ J) (hAB : ∀ j, 0 ≤ j → j < J → (0 ≤ A j ∧ A j < 8 * P) ∧ 0 ≤ B j ∧ B j < 8 * P) (hb : BI P s) (hv : VQ s) : VQ (bpiece on A B T J u s) ∧ ∀ j, 0 ≤ j → j < J → nbr on A B u j ≠ -1 → (bpiece on A B T J u s).2.2 (nbr on A B u j) ≠ -1 := by
  have key : ∀ m : Nat, (m : Int) ≤ J → VQ (bpiece on A B T m u s) ∧ ∀ j, 0 ≤ j → j < (m : Int) → nbr on A B u j ≠ -1 → (bpiece on A B T m u s).2.2 (nbr on A B u j) ≠ -1 := by
    intro m
    induction m with
    | zero => intro _; exact ⟨hv, fun j h0 h1 => by omega⟩
    | succ m ih =>
      intro hm
      obtain ⟨i1, i2⟩ := ih (by omega)
      have e : bpiece on A B T ((m + 1 : Nat) : Int) u s = _ := bpiece_s (J := m) (by omega)
      rw [e]
      have hb' := (BI_piece (on := on) (T := T) (u := u) hP hJ hAB hb m (by omega) (by omega)).1
      obtain ⟨n1, n2, n3⟩ := bstep_n (on := on) (A := A) (B := B) (T := T) (u := u) (j := m) (s := bpiece on A B T m u s) mod_ne
      refine ⟨n3 i1 (by have := hb'.1.1; omega), fun j h0 h1 hn => ?_⟩
      by_cases z : j = m
      · rw [z] at hn ⊢; exact n1 hn
      · exact n2 _ (i2 j h0 (by omega) hn)
  have := key J.toNat (by omega)
  rwa [Int.toNat_of_nonneg hJ] at this
theorem bfs_n {on : Int → Bool} {A B T : Int → Int} {P J : Int} {s : BS} (hP : 0 ≤ P) (hJ : 0 ≤ J) (hAB : ∀ j, 0 ≤ j → j < J → (0 ≤ A j ∧ A j < 8 * P) ∧ 0 ≤ B j ∧ B j < 8 * P) (hb : BI P s) (hv : VQ s) : ∀ m, 0 ≤ m → VQ (bfs on A B T J m s) ∧ ∀ i, 0 ≤ i → i < m → i < (bfs on A B T J m s).1 → ∀ j, 0 ≤ j → j < J → nbr on A B ((bfs on A B T J m s).2.1 i) j ≠ -1 → (bfs on A B T J m s).2.2 (nbr on A B ((bfs on A B T J m s).2.1 i) j) ≠ -1 := by
  have key : ∀ m : Nat, VQ (bfs on A B T J m s) ∧ ∀ i, 0 ≤ i → i < (m : Int) → i < (bfs on A B T J m s).1 → ∀ j, 0 ≤ j → j < J → nbr on A B ((bfs on A B T J m s).2.1 i) j ≠ -1 → (bfs on A B T J m s).2.2 (nbr on A B ((bfs on A B T J m s).2.1 i) j) ≠ -1 := by
    intro m
    induction m with
    | zero => exact ⟨hv, fun i h0 h1 => by omega⟩
    | succ m ih =>
      obtain ⟨i1, i2⟩ := ih
      have e : bfs on A B T J ((m + 1 : Nat) : Int) s = _ := bfs_s (m := m) (by omega)
      rw [e]
      have hb' := (BI_bfs (on := on) (T := T) hP hJ hAB hb m (by omega)).1
      generalize bfs on A B T J m s = S at *
      by_cases c : (m : Int) < S.1
      · rw [if_pos c]
        obtain ⟨p1, p2⟩ := bpiece_n (on := on) (T := T) (u := S.2.1 m) hP hJ hAB hb' i1
        obtain ⟨-, -, q3, q4⟩ := BI_piece (on := on) (T := T) (u := S.2.1 m) hP hJ hAB hb' J hJ (Int.le_refl _)
        refine ⟨p1, fun i h0 h1 h2 j hj0 hj1 hn => ?_⟩
        rw [q3 i (by omega)] at hn ⊢
        by_cases z : i = m
        · rw [z] at hn ⊢; exact p2 j hj0 hj1 hn
        · have := i2 i h0 (by omega) (by omega) j hj0 hj1 hn
          rw [q4 _ this]; exact this
      · rw [if_neg c]
        exact ⟨i1, fun i h0 h1 h2 => i2 i h0 (by omega) h2⟩
  intro m h0
  have := key m.toNat
  rwa [Int.toNat_of_nonneg h0] at this
theorem VQ_bs0 {u : Int} : VQ (bs0 u) := by
  intro p hp
  refine ⟨0, ⟨Int.le_refl _, by show (0 : Int) < 1; decide⟩, ?_⟩
  by_cases z : p = u
  · rw [z]; rfl
  · exact absurd (show (bs0 u).2.2 p = -1 by simp [bs0, fup, z]) hp
/-- every piece of the heap bears a turn -/
theorem bfs_all {on : Int → Bool} {A B T : Int → Int} {P J u : Int} (hP : 0 ≤ P ∧ P ≤ 40) (hJ : 0 ≤ J) (hAB : ∀ j, 0 ≤ j → j < J → (0 ≤ A j ∧ A j < 8 * P) ∧ 0 ≤ B j ∧ B j < 8 * P) (hu : 0 ≤ u ∧ u < P) : ∀ p, 0 ≤ p ∧ p < P → lab P J on A B p = lab P J on A B u → (bfs on A B T J 40 (bs0 u)).2.2 p ≠ -1 := by
  intro p hp hl
  have hb := (BI_bfs (on := on) (T := T) hP.1 hJ hAB (BI_bs0 hu) 40 (by omega)).1
  have hm := (BI_bfs (on := on) (T := T) hP.1 hJ hAB (BI_bs0 hu) 40 (by omega)).2.2
  obtain ⟨n1, n2⟩ := bfs_n (on := on) (T := T) hP.1 hJ hAB (BI_bs0 hu) VQ_bs0 40 (by omega)
  have hle := BI_le hP.1 hb
  generalize bfs on A B T J 40 (bs0 u) = S at *
  have hc : ∀ x y j, 0 ≤ j → j < J → nbr on A B x j = y → y ≠ -1 → S.2.2 x ≠ -1 → S.2.2 y ≠ -1 := by
    intro x y j h0 h1 e hy hx
    obtain ⟨i, hi, ei⟩ := n1 x hx
    have := n2 i hi.1 (by omega) hi.2 j h0 h1
    rw [ei, e] at this
    exact this hy
  have hcl := lab_closed (on := on) (V := fun x => S.2.2 x ≠ -1) hJ hAB (fun j h0 h1 ho => by
    have hb := hAB j h0 h1
    constructor
    · intro hx
      refine hc (A j / 8) _ j h0 h1 ?_ (by omega) hx
      unfold nbr; rw [if_pos ho, if_pos rfl]
    · intro hx
      by_cases z : A j / 8 = B j / 8
      · rw [z]; exact hx
      · refine hc (B j / 8) _ j h0 h1 ?_ (by omega) hx
        unfold nbr; rw [if_pos ho, if_neg z, if_pos rfl])
  refine (hcl p u hp hu hl).mpr (by rw [hm u (by simp [bs0, fup])]; simp [bs0, fup])
theorem lab_on {P : Int} {on on' : Int → Bool} {A B : Int → Int} {J : Int} (hJ : 0 ≤ J) (h : ∀ j, 0 ≤ j → j < J → on j = on' j) : lab P J on A B = lab P J on' A B := by
  have key : ∀ m : Nat, (m : Int) ≤ J → lab P m on A B = lab P m on' A B := by
    intro m
    induction m with
    | zero => intro _; rfl
    | succ m ih =>
      intro hm
      have e : lab P ((m + 1 : Nat) : Int) on A B = _ := lab_s (J := m) (by omega)
      have e' : lab P ((m + 1 : Nat) : Int) on' A B = _ := lab_s (J := m) (by omega)
      rw [e, e', ih (by omega), h m (by omega) (by omega)]
  have := key J.toNat (by omega)
  rwa [Int.toNat_of_nonneg hJ] at this
/-- the turn of a piece within its heap -/
def trn (on : Int → Bool) (A B T : Int → Int) (P J p : Int) : Int := (bfs on A B T J 40 (bs0 (lab P J on A B p))).2.2 p
theorem trn_bd {on : Int → Bool} {A B T : Int → Int} {P J p : Int} (hP : 0 ≤ P ∧ P ≤ 40) (hJ : 0 ≤ J) (hAB : ∀ j, 0 ≤ j → j < J → (0 ≤ A j ∧ A j < 8 * P) ∧ 0 ≤ B j ∧ B j < 8 * P) (hp : 0 ≤ p ∧ p < P) : 0 ≤ trn on A B T P J p ∧ trn on A B T P J p ≤ 7 := by
  have bd := lab_bd (P := P) (J := J) (on := on) (A := A) (B := B) hJ hAB p hp.1 hp.2
  have hb := (BI_bfs (on := on) (T := T) hP.1 hJ hAB (BI_bs0 (u := lab P J on A B p) (P := P) (by omega)) 40 (by omega)).1.2.2 p hp.1 hp.2
  have ha := bfs_all (on := on) (T := T) hP hJ hAB (u := lab P J on A B p) (by omega) p hp (lab_idem hJ hAB p hp.1 hp.2).symm
  unfold trn
  omega
/-- a walk from a heap's least piece, over rows that bear -1 within the heap -/
theorem set_trn {on : Int → Bool} {A B T q t : Int → Int} {P J u : Int} (hP : 0 ≤ P ∧ P ≤ 40) (hJ : 0 ≤ J) (hAB : ∀ j, 0 ≤ j → j < J → (0 ≤ A j ∧ A j < 8 * P) ∧ 0 ≤ B j ∧ B j < 8 * P) (hu : 0 ≤ u ∧ u < P) (hl : lab P J on A B u = u) (ht : ∀ p, 0 ≤ p → p < P → -1 ≤ t p ∧ t p ≤ 7) (ht0 : ∀ p, 0 ≤ p → p < P → lab P J on A B p = u → t p = -1) : ∀ p, 0 ≤ p → p < P → (bfs on A B T J 40 (1, fup q 0 u, fup t u 0)).2.2 p = if lab P J on A B p = u then trn on A B T P J p else t p := by
  intro p h0 h1
  have hLk : Lk (fun p => (0 ≤ p ∧ p < P) ∧ lab P J on A B p = u) (1, fup q 0 u, fup t u 0) (bs0 u) := by
    refine ⟨rfl, fun i h0 h1 => ?_, fun p hp => ?_⟩
    · have h1 : i < 1 := h1
      show fup q 0 u i = u ∧ _
      rw [show i = 0 by omega]
      dsimp only
      rw [fup_s]; exact ⟨rfl, hu, hl⟩
    · show fup t u 0 p = fup (fun _ => -1) u 0 p
      by_cases z : p = u
      · rw [z, fup_s, fup_s]
      · rw [fup_o z, fup_o z]; exact ht0 p hp.1.1 hp.1.2 hp.2
  obtain ⟨l1, l2⟩ := Lk_bfs (T := T) (on := on) hP.1 hJ hAB (C := fun p => (0 ≤ p ∧ p < P) ∧ lab P J on A B p = u) (fun j j0 j1 jo => by
    have := hAB j j0 j1
    rw [lab_join hAB j0 j1 jo]
    constructor
    · exact fun z => ⟨by omega, z.2⟩
    · exact fun z => ⟨by omega, z.2⟩) (BI_start (q := q) hu ht) hLk 40 (by omega)
  by_cases z : lab P J on A B p = u
  · rw [if_pos z, l1.2.2 p ⟨⟨h0, h1⟩, z⟩]; unfold trn; rw [z]
  · rw [if_neg z, l2 p (fun y => z y.2)]
    show fup t u 0 p = t p
    rw [fup_o (fun y => z (by rw [y]; exact hl))]

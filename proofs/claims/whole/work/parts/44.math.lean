theorem ev_sx {d μ nL : Nat} {code : Nat → Option pT} {as : List pV} {xs : List (Nat × Nat)} {t dd rr : Nat} {σ : Sg} {res : pV} {Post : Sg → Prop} (hP : pP μ = (nL, code)) (hdt : DetC code) (hf : Nat.ble (as.flatMap (fun v => if v.1 = 1 then [v, ((9, 0) : pV)] else [v])).length nL = true)
    (h : pCm (Ev d) code (fun r1 w1 => ∃ σ', r1 = res ∧ w1 = Wd xs t dd rr σ' ∧ Post σ') 0 (pEnt nL as) [] (Wd xs t dd rr σ)) : ∃ σ', Ev (d + 1) μ as (Wd xs t dd rr σ) res (Wd xs t dd rr σ') ∧ Post σ' := by
  obtain ⟨r, w', ⟨σ', e1, e2, hp⟩, k⟩ := cm_ex hdt h
  subst e1; subst e2
  exact ⟨σ', ev_in pb0 (by rw [hP]; exact hf) (by rw [hP]; exact k), hp⟩
/-- nothing but the rows and single places named has changed -/
def Fr (rows : List Nat) (sl : List (Nat × Int)) (σ σ' : Sg) : Prop := ∀ (k : Nat) (i : Int), k ∉ rows → (k, i) ∉ sl → σ' k i = σ k i
theorem Fr.rf {rows : List Nat} {sl : List (Nat × Int)} {σ : Sg} : Fr rows sl σ σ := fun _ _ _ _ => rfl
theorem Fr.tr {r1 r2 r3 : List Nat} {s1 s2 s3 : List (Nat × Int)} {σ σ1 σ2 : Sg} (h1 : Fr r1 s1 σ σ1) (h2 : Fr r2 s2 σ1 σ2) (hr : (r1 ++ r2).all (fun k => r3.contains k) = true) (hs : (s1 ++ s2).all (fun q => s3.contains q || r3.contains q.1) = true) : Fr r3 s3 σ σ2 := by
  intro k i hk hi
  have a1 : k ∉ r1 := fun z => hk (by have := List.all_eq_true.mp hr k (List.mem_append_left _ z); simpa using this)
  have a2 : k ∉ r2 := fun z => hk (by have := List.all_eq_true.mp hr k (List.mem_append_right _ z); simpa using this)
  have b1 : (k, i) ∉ s1 := fun z => by
    have := List.all_eq_true.mp hs (k, i) (List.mem_append_left _ z)
    simp only [Bool.or_eq_true, List.contains_iff_mem] at this
    rcases this with q | q
    · exact hi q
    · exact hk q
  have b2 : (k, i) ∉ s2 := fun z => by
    have := List.all_eq_true.mp hs (k, i) (List.mem_append_right _ z)
    simp only [Bool.or_eq_true, List.contains_iff_mem] at this
    rcases this with q | q
    · exact hi q
    · exact hk q
  rw [h2 k i a2 b2, h1 k i a1 b1]
theorem Fr.up {rows : List Nat} {sl : List (Nat × Int)} {σ σ' : Sg} {k : Nat} {i v : Int} (h : Fr rows sl σ σ') (hk : (rows.contains k || sl.contains (k, i)) = true) : Fr rows sl σ (up2 σ' k i v) := by
  intro k' i' h1 h2
  by_cases q : k' = k ∧ i' = i
  · obtain ⟨rfl, rfl⟩ := q
    simp only [Bool.or_eq_true, List.contains_iff_mem] at hk
    rcases hk with z | z
    · exact absurd z h1
    · exact absurd z h2
  · simp only [up2, q, if_false]; exact h k' i' h1 h2
theorem Fr.upr {rows : List Nat} {sl : List (Nat × Int)} {σ σ' : Sg} {k : Nat} {i v : Int} (h : Fr rows sl σ σ') (hk : rows.contains k = true) : Fr rows sl σ (up2 σ' k i v) := h.up (by rw [hk]; rfl)
theorem Fr.row {rows : List Nat} {sl : List (Nat × Int)} {σ σ' : Sg} (h : Fr rows sl σ σ') (k : Nat) (hk : (rows.contains k || sl.any (fun q => q.1 == k)) = false) (i : Int) : σ' k i = σ k i := by
  rw [Bool.or_eq_false_iff] at hk
  refine h k i (fun z => ?_) (fun z => ?_)
  · have := hk.1; rw [← Bool.not_eq_true, List.contains_iff_mem] at this; exact this z
  · have := hk.2; rw [List.any_eq_false] at this; exact this _ z (by simp)
theorem Fr.at {rows : List Nat} {sl : List (Nat × Int)} {σ σ' : Sg} (h : Fr rows sl σ σ') (k : Nat) (i : Int) (hk : (rows.contains k || sl.contains (k, i)) = false) : σ' k i = σ k i := by
  rw [Bool.or_eq_false_iff] at hk
  refine h k i (fun z => ?_) (fun z => ?_)
  · have := hk.1; rw [← Bool.not_eq_true, List.contains_iff_mem] at this; exact this z
  · have := hk.2; rw [← Bool.not_eq_true, List.contains_iff_mem] at this; exact this z
theorem up_s {σ : Sg} {k : Nat} {i v : Int} : up2 σ k i v k i = v := by simp [up2]
theorem up_i {σ : Sg} {k : Nat} {i j v : Int} (h : j ≠ i) : up2 σ k i v k j = σ k j := by simp [up2, h]
theorem up_k {σ : Sg} {k k' : Nat} {i j v : Int} (h : k' ≠ k) : up2 σ k i v k' j = σ k' j := by simp [up2, h]
-- what hangs together: labels, by joins in their order
def mrg (P : Int) (h : Int → Int) (a b : Int) : Int → Int := fun p => if 0 ≤ p ∧ p < P ∧ (h p = h a ∨ h p = h b) then (if h a < h b then h a else h b) else h p
def lab (P J : Int) (on : Int → Bool) (A B : Int → Int) : Int → Int := foldZ (fun j h => if on j = true then mrg P h (A j / 8) (B j / 8) else h) J (fun p => p)
/-- labels stay among the pieces -/
theorem mrg_bd {P : Int} {h : Int → Int} {a b : Int} (hh : ∀ p, 0 ≤ p → p < P → 0 ≤ h p ∧ h p ≤ p) (ha : 0 ≤ a ∧ a < P) (hb : 0 ≤ b ∧ b < P) : ∀ p, 0 ≤ p → p < P → 0 ≤ mrg P h a b p ∧ mrg P h a b p ≤ p := by
  intro p h0 h1
  have q1 := hh a ha.1 ha.2
  have q2 := hh b hb.1 hb.2
  have q3 := hh p h0 h1
  unfold mrg
  by_cases c : 0 ≤ p ∧ p < P ∧ (h p = h a ∨ h p = h b)
  · rw [if_pos c]; split <;> omega
  · rw [if_neg c]; exact q3
theorem lab_s {P J : Int} {on : Int → Bool} {A B : Int → Int} (h : 0 ≤ J) : lab P (J + 1) on A B = if on J = true then mrg P (lab P J on A B) (A J / 8) (B J / 8) else lab P J on A B := foldZ_s h
theorem lab_0 {P : Int} {on : Int → Bool} {A B : Int → Int} : lab P 0 on A B = fun p => p := rfl
theorem lab_bd {P J : Int} {on : Int → Bool} {A B : Int → Int} (hJ : 0 ≤ J) (hAB : ∀ j, 0 ≤ j → j < J → (0 ≤ A j ∧ A j < 8 * P) ∧ 0 ≤ B j ∧ B j < 8 * P) : ∀ p, 0 ≤ p → p < P → 0 ≤ lab P J on A B p ∧ lab P J on A B p ≤ p := by
  have key : ∀ m : Nat, (m : Int) ≤ J → ∀ p, 0 ≤ p → p < P → 0 ≤ lab P m on A B p ∧ lab P m on A B p ≤ p := by
    intro m
    induction m with
    | zero => intro _ p h0 _; exact ⟨h0, Int.le_refl _⟩
    | succ m ih =>
      intro hm
      have e : lab P ((m + 1 : Nat) : Int) on A B = _ := lab_s (P := P) (J := m) (on := on) (A := A) (B := B) (by omega)
      rw [e]
      have h2 := hAB m (by omega) (by omega)
      by_cases c : on m = true
      · rw [if_pos c]; exact mrg_bd (ih (by omega)) (by omega) (by omega)
      · rw [if_neg c]; exact ih (by omega)
  have := key J.toNat (by omega)
  rwa [Int.toNat_of_nonneg hJ] at this
/-- a call that leaves a world told beforehand -/
theorem evP {d μ nL : Nat} {code : Nat → Option pT} {as : List pV} {w w' : pW} {res : pV} (hP : pP μ = (nL, code)) (hb : w.1.length ≤ w'.1.length ∧ nS w ≤ nS w') (hf : Nat.ble (as.flatMap (fun v => if v.1 = 1 then [v, ((9, 0) : pV)] else [v])).length nL = true)
    (h : ∀ E : pE, (∀ r1, r1 = res → E r1 w') → pCm (Ev d) code E 0 (pEnt nL as) [] w) : Ev (d + 1) μ as w res w' :=
  ev_in hb (by rw [hP]; exact hf) (by rw [hP]; exact h _ (fun r1 e => ⟨e, rfl⟩))
/-- a call of whose world behind it something is told -/
theorem evS {d μ nL : Nat} {code : Nat → Option pT} {as : List pV} {xs : List (Nat × Nat)} {t dd rr : Nat} {σ : Sg} {res : pV} {Post : Sg → Prop} (hP : pP μ = (nL, code)) (hdt : DetC code) (hf : Nat.ble (as.flatMap (fun v => if v.1 = 1 then [v, ((9, 0) : pV)] else [v])).length nL = true)
    (h : ∀ E : pE, (∀ r1 σ', r1 = res → Post σ' → E r1 (Wd xs t dd rr σ')) → pCm (Ev d) code E 0 (pEnt nL as) [] (Wd xs t dd rr σ)) : ∃ σ', Ev (d + 1) μ as (Wd xs t dd rr σ) res (Wd xs t dd rr σ') ∧ Post σ' :=
  ev_sx hP hdt hf (h _ (fun r1 σ' e hp => ⟨σ', e, rfl, hp⟩))

-- weights, as rows hold them
theorem wsf_skip {R : Int → Int} {T P c : Int} {hs so co who mt : Int → Int} {cw : Int → Int → Int} {f : Int} {U : Int → Int} (h : ¬ (hs f = 1 ∧ co (f / 8) = c ∧ 0 ≤ bl P so co who mt f)) : ∀ n : Nat, wsf R T P c hs so co who mt cw f n U = U := by
  intro n
  induction n with
  | zero => rfl
  | succ n ih =>
    have e : wsf R T P c hs so co who mt cw f ((n + 1 : Nat) : Int) U = _ := wsf_s (n := n) (by omega)
    rw [e, ih]
    unfold wcs
    rw [if_neg (fun w => h ⟨w.1, w.2.1, w.2.2.2.1⟩)]
theorem wsf_skip8 {R : Int → Int} {T P c : Int} {hs so co who mt : Int → Int} {cw : Int → Int → Int} {f : Int} {U : Int → Int} (h : ¬ (hs f = 1 ∧ co (f / 8) = c ∧ 0 ≤ bl P so co who mt f)) : wsf R T P c hs so co who mt cw f 8 U = U := wsf_skip h 8
theorem WB_e {U : Int → Int} {B : Int} (h : (∀ i, 0 ≤ i → i < 144 → 0 ≤ U i) ∧ ∀ k, 0 ≤ k → k < 12 → sumZ (fun j => U (12 * k + j)) 12 ≤ B) {k j : Int} (hk : 0 ≤ k ∧ k < 12) (hj : 0 ≤ j ∧ j < 12) : 0 ≤ U (12 * k + j) ∧ U (12 * k + j) ≤ B := by
  have h1 := h.2 k hk.1 hk.2
  have h2 := sumZ_mono (f := fun j => U (12 * k + j)) (n := 12) (fun i i0 i1 => h.1 _ (by omega) (by omega)) (j + 1) (by omega) (by omega)
  have h3 := sumZ_mono (f := fun j => U (12 * k + j)) (n := 12) (fun i i0 i1 => h.1 _ (by omega) (by omega)) 0 (by omega) (by omega)
  have h4 : sumZ (fun j => U (12 * k + j)) (j + 1) = sumZ (fun j => U (12 * k + j)) j + U (12 * k + j) := sumZ_s hj.1
  have h5 : 0 ≤ sumZ (fun j => U (12 * k + j)) j := by
    have := sumZ_mono (f := fun j => U (12 * k + j)) (n := j) (fun i i0 i1 => h.1 _ (by omega) (by omega)) 0 (by omega) (by omega)
    exact this
  exact ⟨h.1 _ (by omega) (by omega), by omega⟩
theorem wgt_dg {R : Int → Int} {T P c : Int} {hs so co who mt : Int → Int} {cw : Int → Int → Int} (hT : 0 ≤ T) (hi : ∀ f, 0 ≤ f → f < 8 * P → ∀ g, 0 ≤ g → g < 8 → hs f = 1 → co (f / 8) = c → 0 < cw f g → 0 ≤ bl P so co who mt f → 0 ≤ bl P so co who mt (f / 8 * 8 + g) → (0 ≤ idx R T (bl P so co who mt f) ∧ idx R T (bl P so co who mt f) < 12) ∧ 0 ≤ idx R T (bl P so co who mt (f / 8 * 8 + g)) ∧ idx R T (bl P so co who mt (f / 8 * 8 + g)) < 12) {k : Int} (hk : 0 ≤ k ∧ k < 12) : ∀ n : Nat, (n : Int) ≤ 8 * P → wgt R T P c hs so co who mt cw n (12 * k + k) = 0 := by
  have key : ∀ f, 0 ≤ f → f < 8 * P → ∀ (U : Int → Int), U (12 * k + k) = 0 → ∀ m : Nat, (m : Int) ≤ 8 → wsf R T P c hs so co who mt cw f m U (12 * k + k) = 0 := by
    intro f f0 f1 U hU m
    induction m with
    | zero => intro _; exact hU
    | succ m ih =>
      intro hm
      have e : wsf R T P c hs so co who mt cw f ((m + 1 : Nat) : Int) U = _ := wsf_s (n := m) (by omega)
      rw [e]
      unfold wcs
      split
      · rename_i q
        obtain ⟨ia, ib⟩ := hi f f0 f1 m (by omega) (by omega) q.1 q.2.1 q.2.2.1 q.2.2.2.1 q.2.2.2.2.1
        have hne : idx R T (bl P so co who mt f) ≠ idx R T (bl P so co who mt (f / 8 * 8 + m)) := fun w => q.2.2.2.2.2 (by
          rcases idx_c (R := R) (T := T) (y := bl P so co who mt f) hT with z | z
          · omega
          · rcases idx_c (R := R) (T := T) (y := bl P so co who mt (f / 8 * 8 + m)) hT with y | y
            · omega
            · rw [← z.2.2, ← y.2.2, w])
        rw [fup_o (by omega)]
        exact ih (by omega)
      · exact ih (by omega)
  intro n
  induction n with
  | zero => intro _; rfl
  | succ n ih =>
    intro hn
    have e : wgt R T P c hs so co who mt cw ((n + 1 : Nat) : Int) = _ := wgt_s (n := n) (by omega)
    rw [e]
    exact key n (by omega) (by omega) _ (ih (by omega)) 8 (by omega)
def nev (x : Int) : Int := if x < 0 then 1000000 else x
theorem nev_bst {c : Int → Int} {T : Int} (hT : 0 ≤ T) (hc : -1 ≤ c T ∧ c T ≤ 500000) (hb : -1 ≤ bstf c T ∧ bstf c T ≤ 500000) : nev (bstf c (T + 1)) = min (nev (bstf c T)) (nev (c T)) := by
  rw [bstf_s hT]
  unfold nev
  by_cases q : 0 ≤ c T ∧ (bstf c T < 0 ∨ c T < bstf c T)
  · rw [if_pos q]
    split <;> split <;> omega
  · rw [if_neg q]
    split <;> split <;> omega
/-- what is told of the class's blows: sure, cuts -/
def KW (s : Sg) (A U : Int → Int) (T : Int) : Prop := s 57 5 = T ∧ (0 ≤ T ∧ T ≤ 12) ∧ (∀ k, 0 ≤ k → k < T → s 59 k = A k) ∧ (∀ i, 0 ≤ i → i < 144 → s 60 i = U i) ∧ (∀ k j, 0 ≤ k → k < 12 → 0 ≤ j → j < 12 → U (12 * k + j) ≠ 0 → bx (s 61 k) j = 1) ∧ WB U ∧ ∀ k, 0 ≤ k → k < 12 → U (12 * k + k) = 0
theorem KW_fr {s s' : Sg} {A U : Int → Int} {T : Int} (h : KW s A U T) {r : List Nat} (hF : Fr r [] s s') (h7 : (r.contains 57 || ([] : List (Nat × Int)).any (fun q => q.1 == 57)) = false) (h9 : (r.contains 59 || ([] : List (Nat × Int)).any (fun q => q.1 == 59)) = false) (h0 : (r.contains 60 || ([] : List (Nat × Int)).any (fun q => q.1 == 60)) = false) (h1 : (r.contains 61 || ([] : List (Nat × Int)).any (fun q => q.1 == 61)) = false) : KW s' A U T := by
  unfold KW
  rw [hF.fn 57 h7, hF.fn 59 h9, hF.fn 60 h0, hF.fn 61 h1]
  exact h
def brs (U : Int → Int) (br k n : Int) : Int := sumZ (fun j => if bx br j = 0 then 0 else U (12 * k + j)) n
theorem los_br {s : Sg} {A U : Int → Int} {T k dn : Int} (h : KW s A U T) (hk : 0 ≤ k ∧ k < T) : los U T k dn = brs U (pAnd (s 61 k) (pXor dn (-1))) k T := by
  obtain ⟨h1, h2, h3, h4, h5, h6, h7⟩ := h
  apply sumZ_congr
  intro j j0 j1
  have hj : 0 ≤ j ∧ j < 12 := ⟨j0, by omega⟩
  rw [bx_and hj, bx_not hj]
  have b1 := bx_01 (n := dn) hj
  have hk' := h7 k hk.1 (by omega)
  by_cases q : U (12 * k + j) = 0
  · rw [q]
    repeat' split
    all_goals rfl
  · have b2 := h5 k j hk.1 (by omega) hj.1 hj.2 q
    have ne : j ≠ k := fun e => q (by rw [e]; exact hk')
    rw [b2]
    rcases b1 with e | e
    · rw [e]; simp [ne]
    · rw [e]; simp
theorem los_0 {s : Sg} {A U : Int → Int} {T k dn : Int} (h : KW s A U T) (hk : 0 ≤ k ∧ k < T) (hb : pAnd (s 61 k) (pXor dn (-1)) = 0) : los U T k dn = 0 := by
  have hT := h.2.1
  rw [los_br h hk, hb]
  unfold brs
  rw [sumZ_congr (g := fun _ => 0) (fun j j0 j1 => by rw [bx_0 ⟨j0, by omega⟩]; rfl)]
  have := sumZ_bd (f := fun _ => 0) (c := 0) hT.1 (fun i _ _ => ⟨Int.le_refl _, Int.le_refl _⟩)
  omega
theorem cnd_bd {U A : Int → Int} {T dn k : Int} (hU : WB U) (hT : 0 ≤ T ∧ T ≤ 12) (hk : 0 ≤ k ∧ k < T) : -1 ≤ cnd U A T (Lq U A T) dn k ∧ cnd U A T (Lq U A T) dn k ≤ 500000 := by
  unfold cnd
  have hl := los_bd (dn := dn) hU hT ⟨hk.1, by omega⟩ T hT.1 (Int.le_refl _)
  have := Lq_bd (A := A) (dn := nxt dn k) hU hT
  split <;> omega
theorem bst_bd {U A : Int → Int} {T dn : Int} (hU : WB U) (hT : 0 ≤ T ∧ T ≤ 12) {n : Int} (n0 : 0 ≤ n) (n1 : n ≤ T) : -1 ≤ bstf (cnd U A T (Lq U A T) dn) n ∧ bstf (cnd U A T (Lq U A T) dn) n ≤ 500000 := by
  have := (bstf_ok (c := cnd U A T (Lq U A T) dn) (M := 500000) n.toNat (fun k k0 k1 => (cnd_bd hU hT ⟨k0, by omega⟩).2)).1
  rw [Int.toNat_of_nonneg n0] at this
  omega

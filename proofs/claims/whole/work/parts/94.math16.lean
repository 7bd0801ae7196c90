-- the blows of a cobble: their numbers, what is sure, what cuts what
def mny (co : Int → Int) (P x : Int) : Int := sumZ (fun q => b2i (co q = x)) P
def bl (P : Int) (so co who mt : Int → Int) (f : Int) : Int := if so f = 0 ∧ 2 ≤ mny co P (co (f / 8)) then (if 0 ≤ mt f then who (mt f / 8) else 100 + f) else -1
theorem bl_e {P : Int} {so co who mt : Int → Int} {f : Int} : bl P so co who mt f = if so f = 0 ∧ 2 ≤ mny co P (co (f / 8)) then (if 0 ≤ mt f then who (mt f / 8) else 100 + f) else -1 := rfl
def gst (g v : Int → Int) (x : Int) (a : Int × (Int → Int)) : Int × (Int → Int) := if g x = 1 then (a.1 + 1, fup a.2 a.1 (v x)) else a
def gg1 (c : Int) (co who : Int → Int) (p : Int) : Int := b2i (co p = c ∧ who p = p)
def gg2 (P c : Int) (hs so co who mt : Int → Int) (f : Int) : Int := b2i (hs f = 1 ∧ co (f / 8) = c ∧ bl P so co who mt f = 100 + f)
def gt1 (c : Int) (co who : Int → Int) (n : Int) : Int × (Int → Int) := foldZ (gst (gg1 c co who) (fun p => p)) n (0, fun _ => 0)
def gt2 (P c : Int) (hs so co who mt : Int → Int) (n : Int) : Int × (Int → Int) := foldZ (gst (gg2 P c hs so co who mt) (fun f => 100 + f)) n (gt1 c co who P)
theorem gt1_s {c : Int} {co who : Int → Int} {n : Int} (h : 0 ≤ n) : gt1 c co who (n + 1) = gst (gg1 c co who) (fun p => p) n (gt1 c co who n) := foldZ_s h
theorem gt2_s {P c : Int} {hs so co who mt : Int → Int} {n : Int} (h : 0 ≤ n) : gt2 P c hs so co who mt (n + 1) = gst (gg2 P c hs so co who mt) (fun f => 100 + f) n (gt2 P c hs so co who mt n) := foldZ_s h
def GV (S : Int → Prop) (a : Int × (Int → Int)) : Prop := 0 ≤ a.1 ∧ (∀ i, 0 ≤ i → i < a.1 → S (a.2 i)) ∧ (∀ y, S y → ∃ i, 0 ≤ i ∧ i < a.1 ∧ a.2 i = y) ∧ ∀ i j, 0 ≤ i → i < j → j < a.1 → a.2 i < a.2 j
theorem gst_ok {S S' : Int → Prop} {g v : Int → Int} {x : Int} {a : Int × (Int → Int)} (h : GV S a) (hv : ∀ y, S y → y < v x) (hS : ∀ y, S' y ↔ S y ∨ (g x = 1 ∧ y = v x)) : GV S' (gst g v x a) := by
  obtain ⟨h1, h2, h3, h4⟩ := h
  unfold gst
  by_cases q : g x = 1
  · rw [if_pos q]
    have e1 : (a.1 + 1, fup a.2 a.1 (v x)).1 = a.1 + 1 := rfl
    have e2 : (a.1 + 1, fup a.2 a.1 (v x)).2 = fup a.2 a.1 (v x) := rfl
    unfold GV
    rw [e1, e2]
    refine ⟨by omega, fun i i0 i1 => ?_, fun y hy => ?_, fun i j i0 ij j1 => ?_⟩
    · by_cases z : i = a.1
      · rw [z, fup_s]; exact (hS _).mpr (Or.inr ⟨q, rfl⟩)
      · rw [fup_o z]; exact (hS _).mpr (Or.inl (h2 i i0 (by omega)))
    · rcases (hS y).mp hy with w | ⟨_, w⟩
      · obtain ⟨i, i0, i1, i2⟩ := h3 y w
        exact ⟨i, i0, by omega, by rw [fup_o (by omega)]; exact i2⟩
      · exact ⟨a.1, h1, by omega, by rw [fup_s, w]⟩
    · by_cases z : j = a.1
      · rw [z, fup_s, fup_o (by omega)]; exact hv _ (h2 i i0 (by omega))
      · rw [fup_o z, fup_o (by omega)]; exact h4 i j i0 ij (by omega)
  · rw [if_neg q]
    have e : ∀ y, S' y ↔ S y := fun y => by rw [hS y]; exact ⟨fun w => w.elim id (fun w => absurd w.1 q), Or.inl⟩
    exact ⟨h1, fun i i0 i1 => (e _).mpr (h2 i i0 i1), fun y hy => h3 y ((e y).mp hy), h4⟩
theorem gt1_ok {c P : Int} {co who : Int → Int} (hP : 0 ≤ P) : GV (fun y => 0 ≤ y ∧ y < P ∧ gg1 c co who y = 1) (gt1 c co who P) := by
  have key : ∀ n : Nat, GV (fun y => 0 ≤ y ∧ y < (n : Int) ∧ gg1 c co who y = 1) (gt1 c co who n) := by
    intro n
    induction n with
    | zero => exact ⟨Int.le_refl _, fun i i0 i1 => absurd i1 (by show ¬ i < 0; omega), fun y hy => absurd hy.2.1 (by omega), fun i j i0 ij j1 => absurd j1 (by show ¬ j < 0; omega)⟩
    | succ n ih =>
      have e : gt1 c co who ((n + 1 : Nat) : Int) = _ := gt1_s (n := n) (by omega)
      rw [e]
      refine gst_ok ih (fun y hy => hy.2.1) (fun y => ⟨fun w => ?_, fun w => ?_⟩)
      · by_cases z : y = n
        · exact Or.inr ⟨by rw [← z]; exact w.2.2, z⟩
        · exact Or.inl ⟨w.1, by omega, w.2.2⟩
      · rcases w with w | w
        · exact ⟨w.1, by omega, w.2.2⟩
        · exact ⟨by rw [w.2]; exact Int.natCast_nonneg n, by rw [w.2]; omega, by rw [w.2]; exact w.1⟩
  have := key P.toNat
  rwa [Int.toNat_of_nonneg hP] at this
/-- the numbers of a cobble's blows -/
def BN (P c : Int) (hs so co who mt : Int → Int) (y : Int) : Prop := (0 ≤ y ∧ y < P ∧ gg1 c co who y = 1) ∨ (100 ≤ y ∧ y - 100 < 8 * P ∧ gg2 P c hs so co who mt (y - 100) = 1)
theorem gt2_ok {P c : Int} {hs so co who mt : Int → Int} (hP : 0 ≤ P ∧ P ≤ 40) : GV (BN P c hs so co who mt) (gt2 P c hs so co who mt (8 * P)) := by
  have key : ∀ n : Nat, GV (fun y => (0 ≤ y ∧ y < P ∧ gg1 c co who y = 1) ∨ (100 ≤ y ∧ y - 100 < (n : Int) ∧ gg2 P c hs so co who mt (y - 100) = 1)) (gt2 P c hs so co who mt n) := by
    intro n
    induction n with
    | zero =>
      obtain ⟨h1, h2, h3, h4⟩ := gt1_ok (c := c) (co := co) (who := who) hP.1
      refine ⟨h1, fun i i0 i1 => Or.inl (h2 i i0 i1), fun y hy => ?_, h4⟩
      rcases hy with w | w
      · exact h3 y w
      · omega
    | succ n ih =>
      have e : gt2 P c hs so co who mt ((n + 1 : Nat) : Int) = _ := gt2_s (n := n) (by omega)
      rw [e]
      refine gst_ok ih (fun y hy => ?_) (fun y => ⟨fun w => ?_, fun w => ?_⟩)
      · rcases hy with w | w <;> omega
      · rcases w with w | w
        · exact Or.inl (Or.inl w)
        · by_cases z : y = 100 + n
          · refine Or.inr ⟨?_, z⟩
            have := w.2.2
            rwa [show y - 100 = n by omega] at this
          · exact Or.inl (Or.inr ⟨w.1, by omega, w.2.2⟩)
      · rcases w with (w | w) | w
        · exact Or.inl w
        · exact Or.inr ⟨w.1, by omega, w.2.2⟩
        · exact Or.inr ⟨by omega, by omega, by rw [show y - 100 = n by omega]; exact w.1⟩
  have := key (8 * P).toNat
  rw [Int.toNat_of_nonneg (by omega)] at this
  exact this
/-- the place of a number -/
def idx (R : Int → Int) (T y : Int) : Int := foldZ (fun k i => if R k = y then k else i) T (-1)
theorem idx_s {R : Int → Int} {T y : Int} (h : 0 ≤ T) : idx R (T + 1) y = if R T = y then T else idx R T y := foldZ_s h
theorem idx_ok {R : Int → Int} {y : Int} : ∀ T : Nat, (idx R T y = -1 ∧ ∀ i, 0 ≤ i → i < (T : Int) → R i ≠ y) ∨ (0 ≤ idx R T y ∧ idx R T y < T ∧ R (idx R T y) = y) := by
  intro T
  induction T with
  | zero => exact Or.inl ⟨rfl, fun i h0 h1 => by omega⟩
  | succ T ih =>
    have e : idx R ((T + 1 : Nat) : Int) y = _ := idx_s (T := T) (by omega)
    rw [e]
    by_cases q : R T = y
    · rw [if_pos q]; exact Or.inr ⟨by omega, by omega, q⟩
    · rw [if_neg q]
      rcases ih with ⟨i1, i2⟩ | ⟨i1, i2, i3⟩
      · refine Or.inl ⟨i1, fun i h0 h1 => ?_⟩
        by_cases z : i = T
        · rw [z]; exact q
        · exact i2 i h0 (by omega)
      · exact Or.inr ⟨i1, by omega, i3⟩
theorem idx_c {R : Int → Int} {T y : Int} (hT : 0 ≤ T) : (idx R T y = -1 ∧ ∀ i, 0 ≤ i → i < T → R i ≠ y) ∨ (0 ≤ idx R T y ∧ idx R T y < T ∧ R (idx R T y) = y) := by
  have := idx_ok (R := R) (y := y) T.toNat
  rwa [Int.toNat_of_nonneg hT] at this
theorem idx_at {R : Int → Int} {T : Int} (hR : ∀ i j, 0 ≤ i → i < j → j < T → R i < R j) {i : Int} (h0 : 0 ≤ i) (h1 : i < T) : idx R T (R i) = i := by
  rcases idx_c (R := R) (T := T) (y := R i) (by omega) with ⟨_, h⟩ | ⟨a, b, e⟩
  · exact absurd rfl (h i h0 h1)
  · by_cases q : idx R T (R i) < i
    · have := hR _ i a q h1; omega
    · by_cases q2 : i < idx R T (R i)
      · have := hR i _ h0 q2 b; omega
      · omega
theorem idx_rc {R R' : Int → Int} {T y : Int} (h : ∀ i, 0 ≤ i → i < T → R i = R' i) : idx R T y = idx R' T y := foldZ_congr (fun i i0 i1 x => by rw [h i i0 i1])
/-- a whole with a belly in a join -/
def stk (hs so who mt : Int → Int) (w n : Int) : Int := foldZ (fun f x => if hs f = 1 ∧ who (f / 8) = w ∧ so f = 1 ∧ 0 ≤ mt f then 1 else x) n 0
theorem stk_s {hs so who mt : Int → Int} {w n : Int} (h : 0 ≤ n) : stk hs so who mt w (n + 1) = if hs n = 1 ∧ who (n / 8) = w ∧ so n = 1 ∧ 0 ≤ mt n then 1 else stk hs so who mt w n := foldZ_s h
theorem stk_01 {hs so who mt : Int → Int} {w : Int} : ∀ n : Nat, stk hs so who mt w n = 0 ∨ stk hs so who mt w n = 1 := by
  intro n
  induction n with
  | zero => exact Or.inl rfl
  | succ n ih =>
    have e : stk hs so who mt w ((n + 1 : Nat) : Int) = _ := stk_s (n := n) (by omega)
    rw [e]; split
    · exact Or.inr rfl
    · exact ih
/-- what surely comes ahead of the k-th blow, of faces below n -/
def srf (R : Int → Int) (T P : Int) (hs so co who mt : Int → Int) (k n : Int) : Int := foldZ (fun f x => if hs f = 1 ∧ who (f / 8) = R k ∧ 0 ≤ bl P so co who mt f ∧ bl P so co who mt f ≠ R k then pOr x (pShl 1 (idx R T (bl P so co who mt f))) else x) n 0
theorem srf_s {R : Int → Int} {T P : Int} {hs so co who mt : Int → Int} {k n : Int} (h : 0 ≤ n) : srf R T P hs so co who mt k (n + 1) = if hs n = 1 ∧ who (n / 8) = R k ∧ 0 ≤ bl P so co who mt n ∧ bl P so co who mt n ≠ R k then pOr (srf R T P hs so co who mt k n) (pShl 1 (idx R T (bl P so co who mt n))) else srf R T P hs so co who mt k n := foldZ_s h
def sur (R : Int → Int) (T P : Int) (hs so co who mt : Int → Int) (k : Int) : Int := if R k < 100 ∧ stk hs so who mt (R k) (8 * P) = 1 then srf R T P hs so co who mt k (8 * P) else 0
/-- one cut told: face f cuts the g-th face of its piece -/
def wcs (R : Int → Int) (T P c : Int) (hs so co who mt : Int → Int) (cw : Int → Int → Int) (f g : Int) (U : Int → Int) : Int → Int := if hs f = 1 ∧ co (f / 8) = c ∧ 0 < cw f g ∧ 0 ≤ bl P so co who mt f ∧ 0 ≤ bl P so co who mt (f / 8 * 8 + g) ∧ bl P so co who mt f ≠ bl P so co who mt (f / 8 * 8 + g) then fup U (12 * idx R T (bl P so co who mt f) + idx R T (bl P so co who mt (f / 8 * 8 + g))) (U (12 * idx R T (bl P so co who mt f) + idx R T (bl P so co who mt (f / 8 * 8 + g))) + cw f g) else U
def wsf (R : Int → Int) (T P c : Int) (hs so co who mt : Int → Int) (cw : Int → Int → Int) (f n : Int) (U : Int → Int) : Int → Int := foldZ (wcs R T P c hs so co who mt cw f) n U
def wgt (R : Int → Int) (T P c : Int) (hs so co who mt : Int → Int) (cw : Int → Int → Int) (n : Int) : Int → Int := foldZ (fun f U => wsf R T P c hs so co who mt cw f 8 U) n (fun _ => 0)
theorem wsf_s {R : Int → Int} {T P c : Int} {hs so co who mt : Int → Int} {cw : Int → Int → Int} {f n : Int} {U : Int → Int} (h : 0 ≤ n) : wsf R T P c hs so co who mt cw f (n + 1) U = wcs R T P c hs so co who mt cw f n (wsf R T P c hs so co who mt cw f n U) := foldZ_s h
theorem wgt_s {R : Int → Int} {T P c : Int} {hs so co who mt : Int → Int} {cw : Int → Int → Int} {n : Int} (h : 0 ≤ n) : wgt R T P c hs so co who mt cw (n + 1) = wsf R T P c hs so co who mt cw n 8 (wgt R T P c hs so co who mt cw n) := foldZ_s h
/-- what is so of pieces, heaps and mates -/
def HH (P : Int) (hs co who mt : Int → Int) : Prop := (0 ≤ P ∧ P ≤ 40) ∧ (∀ p, 0 ≤ p → p < P → (0 ≤ co p ∧ co p < P) ∧ (0 ≤ who p ∧ who p < P) ∧ who (who p) = who p ∧ co (who p) = co p) ∧ ∀ f, 0 ≤ f → f < 8 * P → hs f = 1 → mt f = -1 ∨ (0 ≤ mt f ∧ mt f < 8 * P) ∧ co (mt f / 8) = co (f / 8)
theorem bl_bd {P : Int} {hs so co who mt : Int → Int} (hH : HH P hs co who mt) {f : Int} (f0 : 0 ≤ f) (f1 : f < 8 * P) (hf : hs f = 1) : -1 ≤ bl P so co who mt f ∧ bl P so co who mt f ≤ 100 + f ∧ bl P so co who mt f < 420 := by
  have h := hH.2.2 f f0 f1 hf
  have hP := hH.1
  unfold bl
  split
  · split
    · have := (hH.2.1 (mt f / 8) (by omega) (by omega)).2.1
      omega
    · omega
  · omega
/-- a blow of a face of the cobble is one of its numbers -/
theorem bl_in {P c : Int} {hs so co who mt : Int → Int} (hH : HH P hs co who mt) {f : Int} (f0 : 0 ≤ f) (f1 : f < 8 * P) (hf : hs f = 1) (hc : co (f / 8) = c) (hb : 0 ≤ bl P so co who mt f) : BN P c hs so co who mt (bl P so co who mt f) := by
  have h := hH.2.2 f f0 f1 hf
  have hP := hH.1
  have hbl := bl_e (P := P) (so := so) (co := co) (who := who) (mt := mt) (f := f)
  rw [hbl] at hb ⊢
  by_cases q : so f = 0 ∧ 2 ≤ mny co P (co (f / 8))
  · rw [if_pos q] at hbl hb ⊢
    by_cases z : 0 ≤ mt f
    · rw [if_pos z] at hbl hb ⊢
      have hw := hH.2.1 (mt f / 8) (by omega) (by omega)
      refine Or.inl ⟨hw.2.1.1, hw.2.1.2, ?_⟩
      rcases h with h | h
      · omega
      · exact b2i_t ⟨by rw [hw.2.2.2, h.2, hc], hw.2.2.1⟩
    · rw [if_neg z] at hbl hb ⊢
      refine Or.inr ⟨by omega, by omega, ?_⟩
      rw [show 100 + f - 100 = f by omega]
      exact b2i_t ⟨hf, hc, hbl⟩
  · rw [if_neg q] at hb; omega
theorem idx_in {P c : Int} {hs so co who mt : Int → Int} (hP : 0 ≤ P ∧ P ≤ 40) {y : Int} (hy : BN P c hs so co who mt y) : 0 ≤ idx (gt2 P c hs so co who mt (8 * P)).2 (gt2 P c hs so co who mt (8 * P)).1 y ∧ idx (gt2 P c hs so co who mt (8 * P)).2 (gt2 P c hs so co who mt (8 * P)).1 y < (gt2 P c hs so co who mt (8 * P)).1 ∧ (gt2 P c hs so co who mt (8 * P)).2 (idx (gt2 P c hs so co who mt (8 * P)).2 (gt2 P c hs so co who mt (8 * P)).1 y) = y := by
  obtain ⟨h1, h2, h3, h4⟩ := gt2_ok (c := c) (hs := hs) (so := so) (co := co) (who := who) (mt := mt) hP
  obtain ⟨i, i0, i1, i2⟩ := h3 y hy
  rcases idx_c (R := (gt2 P c hs so co who mt (8 * P)).2) (T := (gt2 P c hs so co who mt (8 * P)).1) (y := y) h1 with ⟨_, h⟩ | h
  · exact absurd i2 (h i i0 i1)
  · exact h
/-- weights stay small -/
theorem wcs_ok {R : Int → Int} {T P c : Int} {hs so co who mt : Int → Int} {cw : Int → Int → Int} {f g : Int} {U : Int → Int} {B : Int} (hi : hs f = 1 → co (f / 8) = c → 0 < cw f g → 0 ≤ bl P so co who mt f → 0 ≤ bl P so co who mt (f / 8 * 8 + g) → (0 ≤ idx R T (bl P so co who mt f) ∧ idx R T (bl P so co who mt f) < 12) ∧ 0 ≤ idx R T (bl P so co who mt (f / 8 * 8 + g)) ∧ idx R T (bl P so co who mt (f / 8 * 8 + g)) < 12) (hw : cw f g ≤ 15) (hU : (∀ i, 0 ≤ i → i < 144 → 0 ≤ U i) ∧ ∀ k, 0 ≤ k → k < 12 → sumZ (fun j => U (12 * k + j)) 12 ≤ B) : (∀ i, 0 ≤ i → i < 144 → 0 ≤ wcs R T P c hs so co who mt cw f g U i) ∧ ∀ k, 0 ≤ k → k < 12 → sumZ (fun j => wcs R T P c hs so co who mt cw f g U (12 * k + j)) 12 ≤ B + 15 := by
  unfold wcs
  split
  · rename_i q
    obtain ⟨ia, ib⟩ := hi q.1 q.2.1 q.2.2.1 q.2.2.2.1 q.2.2.2.2.1
    generalize idx R T (bl P so co who mt f) = a at *
    generalize idx R T (bl P so co who mt (f / 8 * 8 + g)) = b at *
    refine ⟨fun i i0 i1 => ?_, fun k k0 k1 => ?_⟩
    · by_cases z : i = 12 * a + b
      · rw [z, fup_s]; have := hU.1 (12 * a + b) (by omega) (by omega); omega
      · rw [fup_o z]; exact hU.1 i i0 i1
    · have hk := hU.2 k k0 k1
      by_cases z : k = a
      · subst z
        have := sumZ_at (f := fun j => fup U (12 * k + b) (U (12 * k + b) + cw f g) (12 * k + j)) (g := fun j => U (12 * k + j)) (n := 12) ib.1 ib.2 (fun j hj => fup_o (by omega))
        rw [this]
        rw [fup_s]
        omega
      · rw [sumZ_congr (g := fun j => U (12 * k + j)) (fun j j0 j1 => fup_o (by omega))]
        omega
  · exact ⟨hU.1, fun k k0 k1 => by have := hU.2 k k0 k1; omega⟩
theorem wsf_ok {R : Int → Int} {T P c : Int} {hs so co who mt : Int → Int} {cw : Int → Int → Int} {f : Int} {U : Int → Int} {B : Int} (hi : ∀ g, 0 ≤ g → g < 8 → hs f = 1 → co (f / 8) = c → 0 < cw f g → 0 ≤ bl P so co who mt f → 0 ≤ bl P so co who mt (f / 8 * 8 + g) → (0 ≤ idx R T (bl P so co who mt f) ∧ idx R T (bl P so co who mt f) < 12) ∧ 0 ≤ idx R T (bl P so co who mt (f / 8 * 8 + g)) ∧ idx R T (bl P so co who mt (f / 8 * 8 + g)) < 12) (hw : ∀ g, 0 ≤ g → g < 8 → cw f g ≤ 15) (hU : (∀ i, 0 ≤ i → i < 144 → 0 ≤ U i) ∧ ∀ k, 0 ≤ k → k < 12 → sumZ (fun j => U (12 * k + j)) 12 ≤ B) : ∀ n : Nat, (n : Int) ≤ 8 → (∀ i, 0 ≤ i → i < 144 → 0 ≤ wsf R T P c hs so co who mt cw f n U i) ∧ ∀ k, 0 ≤ k → k < 12 → sumZ (fun j => wsf R T P c hs so co who mt cw f n U (12 * k + j)) 12 ≤ B + 15 * n := by
  intro n
  induction n with
  | zero => intro _; exact ⟨hU.1, fun k k0 k1 => by have := hU.2 k k0 k1; have e : wsf R T P c hs so co who mt cw f ((0 : Nat) : Int) U = U := rfl; rw [e]; omega⟩
  | succ n ih =>
    intro hn
    have e : wsf R T P c hs so co who mt cw f ((n + 1 : Nat) : Int) U = _ := wsf_s (n := n) (by omega)
    rw [e]
    have := wcs_ok (B := B + 15 * n) (hi n (by omega) (by omega)) (hw n (by omega) (by omega)) (ih (by omega))
    exact ⟨this.1, fun k k0 k1 => by have := this.2 k k0 k1; omega⟩
theorem wgt_ok {R : Int → Int} {T P c : Int} {hs so co who mt : Int → Int} {cw : Int → Int → Int} (hP : 0 ≤ P ∧ P ≤ 40) (hi : ∀ f, 0 ≤ f → f < 8 * P → ∀ g, 0 ≤ g → g < 8 → hs f = 1 → co (f / 8) = c → 0 < cw f g → 0 ≤ bl P so co who mt f → 0 ≤ bl P so co who mt (f / 8 * 8 + g) → (0 ≤ idx R T (bl P so co who mt f) ∧ idx R T (bl P so co who mt f) < 12) ∧ 0 ≤ idx R T (bl P so co who mt (f / 8 * 8 + g)) ∧ idx R T (bl P so co who mt (f / 8 * 8 + g)) < 12) (hw : ∀ f, 0 ≤ f → f < 8 * P → ∀ g, 0 ≤ g → g < 8 → cw f g ≤ 15) : ∀ n : Nat, (n : Int) ≤ 8 * P → (∀ i, 0 ≤ i → i < 144 → 0 ≤ wgt R T P c hs so co who mt cw n i) ∧ ∀ k, 0 ≤ k → k < 12 → sumZ (fun j => wgt R T P c hs so co who mt cw n (12 * k + j)) 12 ≤ 120 * n := by
  intro n
  induction n with
  | zero => intro _; exact ⟨fun _ _ _ => Int.le_refl _, fun k _ _ => Int.le_refl _⟩
  | succ n ih =>
    intro hn
    have e : wgt R T P c hs so co who mt cw ((n + 1 : Nat) : Int) = _ := wgt_s (n := n) (by omega)
    rw [e]
    have := wsf_ok (B := 120 * n) (hi n (by omega) (by omega)) (hw n (by omega) (by omega)) (ih (by omega)) 8 (by omega)
    have e8 : ((8 : Nat) : Int) = 8 := rfl
    rw [e8] at this
    exact ⟨this.1, fun k k0 k1 => by have := this.2 k k0 k1; omega⟩

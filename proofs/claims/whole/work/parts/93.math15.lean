-- the least quarrel, over sets of blows that are done
/-- what may come next -/
def mc (A : Int → Int) (k dn : Int) : Int := b2i (bx dn k = 0 ∧ pAnd (A k) (pXor dn (-1)) = 0)
def los (U : Int → Int) (T k dn : Int) : Int := sumZ (fun j => if bx dn j = 0 ∧ j ≠ k then U (12 * k + j) else 0) T
/-- the least of those that are not below 0 -/
def bstf (c : Int → Int) (T : Int) : Int := foldZ (fun k x => if 0 ≤ c k ∧ (x < 0 ∨ c k < x) then c k else x) T (-1)
theorem bstf_s {c : Int → Int} {T : Int} (h : 0 ≤ T) : bstf c (T + 1) = if 0 ≤ c T ∧ (bstf c T < 0 ∨ c T < bstf c T) then c T else bstf c T := foldZ_s h
theorem bstf_c {c c' : Int → Int} {T : Int} (h : ∀ k, 0 ≤ k → k < T → c k = c' k) : bstf c T = bstf c' T := foldZ_congr (fun i i0 i1 x => by rw [h i i0 i1])
theorem bstf_ok {c : Int → Int} {M : Int} : ∀ T : Nat, (∀ k, 0 ≤ k → k < (T : Int) → c k ≤ M) → (bstf c T = -1 ∨ 0 ≤ bstf c T ∧ bstf c T ≤ M ∧ ∃ k, 0 ≤ k ∧ k < (T : Int) ∧ c k = bstf c T) ∧ (∀ k, 0 ≤ k → k < (T : Int) → 0 ≤ c k → 0 ≤ bstf c T ∧ bstf c T ≤ c k) := by
  intro T
  induction T with
  | zero => intro _; exact ⟨Or.inl rfl, fun k h0 h1 => by omega⟩
  | succ T ih =>
    intro hM
    obtain ⟨i1, i2⟩ := ih (fun k h0 h1 => hM k h0 (by omega))
    have e : bstf c ((T + 1 : Nat) : Int) = _ := bstf_s (T := T) (by omega)
    have hm := hM T (by omega) (by omega)
    rw [e]
    by_cases q : 0 ≤ c T ∧ (bstf c T < 0 ∨ c T < bstf c T)
    · rw [if_pos q]
      refine ⟨Or.inr ⟨q.1, hm, T, by omega, by omega, rfl⟩, fun k h0 h1 hk => ⟨q.1, ?_⟩⟩
      by_cases z : k = T
      · rw [z]; omega
      · have := i2 k h0 (by omega) hk; omega
    · rw [if_neg q]
      refine ⟨?_, fun k h0 h1 hk => ?_⟩
      · rcases i1 with i1 | ⟨a, b, k, k0, k1, k2⟩
        · exact Or.inl i1
        · exact Or.inr ⟨a, b, k, k0, by omega, k2⟩
      · by_cases z : k = T
        · subst z; omega
        · exact i2 k h0 (by omega) hk
/-- what comes of taking k next, or -1 -/
def cnd (U A : Int → Int) (T : Int) (L : Int → Int) (dn k : Int) : Int := if mc A k dn = 1 ∧ 0 ≤ L (nxt dn k) then los U T k dn + L (nxt dn k) else -1
def Lqf (U A : Int → Int) (T : Int) : Nat → Int → Int
  | 0, _ => -1
  | m + 1, dn => if dn = pShl 1 T - 1 then 0 else bstf (cnd U A T (Lqf U A T m) dn) T
def Lq (U A : Int → Int) (T dn : Int) : Int := Lqf U A T 4097 dn
theorem mc_01 {A : Int → Int} {k dn : Int} : 0 ≤ mc A k dn ∧ mc A k dn ≤ 1 := b2i_bd
theorem mc_b {A : Int → Int} {k dn : Int} (h : mc A k dn = 1) : bx dn k = 0 ∧ pAnd (A k) (pXor dn (-1)) = 0 := by
  unfold mc b2i at h
  split at h
  · assumption
  · omega
theorem Lqf_i {U A : Int → Int} {T : Int} (hT : 0 ≤ T ∧ T ≤ 12) : ∀ (m m' : Nat) (dn : Int), 0 ≤ dn → dn < pShl 1 T → pShl 1 T - dn ≤ m → pShl 1 T - dn ≤ m' → Lqf U A T m dn = Lqf U A T m' dn := by
  intro m
  induction m with
  | zero => intro m' dn h0 h1 h2; omega
  | succ m ih =>
    intro m' dn h0 h1 h2 h3
    cases m' with
    | zero => omega
    | succ m' =>
      unfold Lqf
      by_cases q : dn = pShl 1 T - 1
      · rw [if_pos q, if_pos q]
      · rw [if_neg q, if_neg q]
        apply bstf_c
        intro k k0 k1
        unfold cnd
        by_cases z : mc A k dn = 1
        · have hb := nxt_bd hT ⟨h0, h1⟩ ⟨k0, k1⟩ (mc_b z).1
          rw [ih m' (nxt dn k) (by omega) hb.2 (by omega) (by omega)]
        · rw [if_neg (fun w => z w.1), if_neg (fun w => z w.1)]
theorem Lq_e {U A : Int → Int} {T dn : Int} (hT : 0 ≤ T ∧ T ≤ 12) (h0 : 0 ≤ dn) (h1 : dn < pShl 1 T) : Lq U A T dn = if dn = pShl 1 T - 1 then 0 else bstf (cnd U A T (Lq U A T) dn) T := by
  have hb := al_bd hT
  show Lqf U A T 4097 dn = _
  unfold Lqf
  by_cases q : dn = pShl 1 T - 1
  · rw [if_pos q, if_pos q]
  · rw [if_neg q, if_neg q]
    apply bstf_c
    intro k k0 k1
    unfold cnd Lq
    by_cases z : mc A k dn = 1
    · have hb := nxt_bd hT ⟨h0, h1⟩ ⟨k0, k1⟩ (mc_b z).1
      rw [Lqf_i hT 4096 4097 (nxt dn k) (by omega) hb.2 (by omega) (by omega)]
    · rw [if_neg (fun w => z w.1), if_neg (fun w => z w.1)]
/-- how many are not done -/
def zc (T dn : Int) : Int := sumZ (fun j => b2i (bx dn j = 0)) T
theorem zc_bd {T dn : Int} (hT : 0 ≤ T) : 0 ≤ zc T dn ∧ zc T dn ≤ T := by
  have := sumZ_bd (f := fun j => b2i (bx dn j = 0)) (c := 1) hT (fun i _ _ => b2i_bd)
  unfold zc
  omega
theorem zc_n {dn k : Int} (hk : 0 ≤ k ∧ k < 12) (hb : bx dn k = 0) : ∀ T : Nat, (T : Int) ≤ 12 → zc T (nxt dn k) = zc T dn - b2i (k < (T : Int)) := by
  intro T
  induction T with
  | zero => intro _; rw [b2i_f (by omega)]; rfl
  | succ T ih =>
    intro hT
    have e1 : zc ((T + 1 : Nat) : Int) (nxt dn k) = zc T (nxt dn k) + _ := sumZ_s (f := fun j => b2i (bx (nxt dn k) j = 0)) (n := T) (by omega)
    have e2 : zc ((T + 1 : Nat) : Int) dn = zc T dn + _ := sumZ_s (f := fun j => b2i (bx dn j = 0)) (n := T) (by omega)
    rw [e1, e2, ih (by omega), nxt_bx hk ⟨by omega, by omega⟩]
    by_cases q : (T : Int) = k
    · rw [if_pos q, q, hb, b2i_f (p := (1 : Int) = 0) (by omega), b2i_t (p := (0 : Int) = 0) rfl, b2i_f (p := k < k) (by omega), b2i_t (p := k < ((T + 1 : Nat) : Int)) (by omega)]; omega
    · rw [if_neg q]
      by_cases z : k < T
      · rw [b2i_t (p := k < (T : Int)) z, b2i_t (p := k < ((T + 1 : Nat) : Int)) (by omega)]; omega
      · rw [b2i_f (p := k < (T : Int)) z, b2i_f (p := k < ((T + 1 : Nat) : Int)) (by omega)]; omega
theorem zc_all {T : Int} (hT : 0 ≤ T ∧ T ≤ 12) : zc T (pShl 1 T - 1) = 0 := by
  unfold zc
  rw [sumZ_congr (g := fun _ => 0) (fun i i0 i1 => by rw [al_bx hT ⟨i0, i1⟩]; rfl)]
  have := sumZ_bd (f := fun _ => 0) (c := 0) hT.1 (fun i _ _ => ⟨Int.le_refl _, Int.le_refl _⟩)
  omega
/-- the rows of weights are not too great -/
def WB (U : Int → Int) : Prop := (∀ i, 0 ≤ i → i < 144 → 0 ≤ U i) ∧ ∀ k, 0 ≤ k → k < 12 → sumZ (fun j => U (12 * k + j)) 12 ≤ 38400
theorem los_bd {U : Int → Int} {T k dn : Int} (hU : WB U) (hT : 0 ≤ T ∧ T ≤ 12) (hk : 0 ≤ k ∧ k < 12) : ∀ n, 0 ≤ n → n ≤ T → 0 ≤ los U n k dn ∧ los U n k dn ≤ 38400 := by
  intro n n0 n1
  have h1 : ∀ m : Nat, (m : Int) ≤ 12 → 0 ≤ los U m k dn ∧ los U m k dn ≤ sumZ (fun j => U (12 * k + j)) m := by
    intro m
    induction m with
    | zero => intro _; exact ⟨Int.le_refl _, Int.le_refl _⟩
    | succ m ih =>
      intro hm
      have e1 : los U ((m + 1 : Nat) : Int) k dn = los U m k dn + _ := sumZ_s (f := fun j => if bx dn j = 0 ∧ j ≠ k then U (12 * k + j) else 0) (n := m) (by omega)
      have e2 : sumZ (fun j => U (12 * k + j)) ((m + 1 : Nat) : Int) = _ := sumZ_s (n := m) (by omega)
      have := ih (by omega)
      have := hU.1 (12 * k + m) (by omega) (by omega)
      rw [e1, e2]
      split <;> omega
  have h2 := h1 n.toNat (by omega)
  rw [Int.toNat_of_nonneg n0] at h2
  have h3 := sumZ_mono (f := fun j => U (12 * k + j)) (n := 12) (fun i i0 i1 => hU.1 _ (by omega) (by omega)) n n0 (by omega)
  have := hU.2 k hk.1 hk.2
  omega
theorem Lqf_bd {U A : Int → Int} {T : Int} (hU : WB U) (hT : 0 ≤ T ∧ T ≤ 12) : ∀ (m : Nat) (dn : Int), Lqf U A T m dn = -1 ∨ 0 ≤ Lqf U A T m dn ∧ Lqf U A T m dn ≤ 38400 * zc T dn := by
  intro m
  induction m with
  | zero => intro dn; exact Or.inl rfl
  | succ m ih =>
    intro dn
    have hz := zc_bd (dn := dn) hT.1
    unfold Lqf
    by_cases q : dn = pShl 1 T - 1
    · rw [if_pos q]; omega
    · rw [if_neg q]
      have h := (bstf_ok (c := cnd U A T (Lqf U A T m) dn) (M := 38400 * zc T dn) T.toNat (fun k k0 k1 => by
        have k1 : k < T := by omega
        unfold cnd
        split
        · rename_i w
          have hb := zc_n ⟨k0, by omega⟩ (mc_b w.1).1 T.toNat (by omega)
          rw [b2i_t (by omega), Int.toNat_of_nonneg hT.1] at hb
          have hl := los_bd (dn := dn) hU hT ⟨k0, by omega⟩ T hT.1 (Int.le_refl _)
          have := ih (nxt dn k)
          rw [hb] at this
          omega
        · omega)).1
      rw [Int.toNat_of_nonneg hT.1] at h
      rcases h with h | h
      · exact Or.inl h
      · exact Or.inr ⟨h.1, h.2.1⟩
theorem Lq_bd {U A : Int → Int} {T dn : Int} (hU : WB U) (hT : 0 ≤ T ∧ T ≤ 12) : -1 ≤ Lq U A T dn ∧ Lq U A T dn ≤ 460800 := by
  have := Lqf_bd (A := A) hU hT 4097 dn
  have hz := zc_bd (dn := dn) hT.1
  unfold Lq
  omega
/-- what keeps to the least -/
def good (U A : Int → Int) (T dn k : Int) : Int := b2i (mc A k dn = 1 ∧ 0 ≤ Lq U A T (nxt dn k) ∧ los U T k dn + Lq U A T (nxt dn k) = Lq U A T dn)
def pck (U A : Int → Int) (T dn : Int) : Int := frst (good U A T dn) (fun k => k) T
theorem frst_k {g : Int → Int} : ∀ T : Nat, (∃ k, 0 ≤ k ∧ k < (T : Int) ∧ g k = 1) → 0 ≤ frst g (fun k => k) T ∧ frst g (fun k => k) T < T ∧ g (frst g (fun k => k) T) = 1 ∧ ∀ k, 0 ≤ k → k < frst g (fun k => k) T → g k ≠ 1 := by
  intro T
  have key : ∀ T : Nat, (frst g (fun k => k) T = -1 ∧ ∀ k, 0 ≤ k → k < (T : Int) → g k ≠ 1) ∨ (0 ≤ frst g (fun k => k) T ∧ frst g (fun k => k) T < T ∧ g (frst g (fun k => k) T) = 1 ∧ ∀ k, 0 ≤ k → k < frst g (fun k => k) T → g k ≠ 1) := by
    intro T
    induction T with
    | zero => exact Or.inl ⟨rfl, fun k h0 h1 => by omega⟩
    | succ T ih =>
      have e : frst g (fun k => k) ((T + 1 : Nat) : Int) = _ := frst_s (n := T) (by omega)
      rw [e]
      rcases ih with ⟨i1, i2⟩ | ⟨i1, i2, i3, i4⟩
      · rw [if_pos i1]
        by_cases q : g T = 1
        · rw [if_pos q]; exact Or.inr ⟨by omega, by omega, q, i2⟩
        · rw [if_neg q]
          refine Or.inl ⟨rfl, fun k h0 h1 => ?_⟩
          by_cases z : k = T
          · rw [z]; exact q
          · exact i2 k h0 (by omega)
      · rw [if_neg (by omega)]
        exact Or.inr ⟨i1, by omega, i3, i4⟩
  intro ⟨k, h0, h1, h2⟩
  rcases key T with ⟨_, j⟩ | j
  · exact absurd h2 (j k h0 h1)
  · exact j
theorem pck_ok {U A : Int → Int} {T dn : Int} (hU : WB U) (hT : 0 ≤ T ∧ T ≤ 12) (h0 : 0 ≤ dn) (h1 : dn < pShl 1 T - 1) (hL : 0 ≤ Lq U A T dn) : (0 ≤ pck U A T dn ∧ pck U A T dn < T) ∧ good U A T dn (pck U A T dn) = 1 ∧ ∀ k, 0 ≤ k → k < pck U A T dn → good U A T dn k ≠ 1 := by
  have he := Lq_e (U := U) (A := A) (dn := dn) hT h0 (by omega)
  rw [if_neg (by omega)] at he
  have h := (bstf_ok (c := cnd U A T (Lq U A T) dn) (M := 600000) T.toNat (fun k k0 k1 => by
    have k1 : k < T := by omega
    unfold cnd
    have hl := los_bd (dn := dn) hU hT ⟨k0, by omega⟩ T hT.1 (Int.le_refl _)
    have := Lq_bd (A := A) (dn := nxt dn k) hU hT
    split <;> omega)).1
  rw [Int.toNat_of_nonneg hT.1, ← he] at h
  rcases h with h | ⟨_, _, k, k0, k1, k2⟩
  · omega
  · have hg : good U A T dn k = 1 := by
      unfold cnd at k2
      split at k2
      · rename_i w; exact b2i_t ⟨w.1, w.2, k2⟩
      · omega
    have := frst_k (g := good U A T dn) T.toNat ⟨k, k0, by omega, hg⟩
    rw [Int.toNat_of_nonneg hT.1] at this
    exact ⟨⟨this.1, this.2.1⟩, this.2.2⟩
theorem good_e {U A : Int → Int} {T dn k : Int} (h : good U A T dn k = 1) : mc A k dn = 1 ∧ 0 ≤ Lq U A T (nxt dn k) ∧ los U T k dn + Lq U A T (nxt dn k) = Lq U A T dn := by
  unfold good b2i at h
  split at h
  · assumption
  · omega
/-- the sets that are done, one behind the other -/
def dnz (U A : Int → Int) (T i : Int) : Int := foldZ (fun _ dn => nxt dn (pck U A T dn)) i 0
theorem dnz_s {U A : Int → Int} {T i : Int} (h : 0 ≤ i) : dnz U A T (i + 1) = nxt (dnz U A T i) (pck U A T (dnz U A T i)) := foldZ_s h
theorem dnz_ok {U A : Int → Int} {T : Int} (hU : WB U) (hT : 0 ≤ T ∧ T ≤ 12) (hL : 0 ≤ Lq U A T 0) : ∀ i : Nat, (i : Int) ≤ T → (0 ≤ dnz U A T i ∧ dnz U A T i < pShl 1 T) ∧ zc T (dnz U A T i) = T - i ∧ 0 ≤ Lq U A T (dnz U A T i) := by
  intro i
  induction i with
  | zero =>
    intro _
    have := al_bd hT
    refine ⟨⟨Int.le_refl _, by show 0 < _; omega⟩, ?_, hL⟩
    show sumZ (fun j => b2i (bx 0 j = 0)) T = _
    have h : ∀ m : Nat, (m : Int) ≤ 12 → sumZ (fun j => b2i (bx 0 j = 0)) m = m := by
      intro m
      induction m with
      | zero => intro _; rfl
      | succ m ih =>
        intro hm
        have e1 : sumZ (fun j => b2i (bx 0 j = 0)) ((m + 1 : Nat) : Int) = _ := sumZ_s (n := m) (by omega)
        rw [e1, ih (by omega), bx_0 ⟨by omega, by omega⟩, b2i_t rfl]
        omega
    have := h T.toNat (by omega)
    rw [Int.toNat_of_nonneg hT.1] at this
    rw [this]; simp
  | succ i ih =>
    intro hi
    obtain ⟨i1, i2, i3⟩ := ih (by omega)
    have hne : dnz U A T i ≠ pShl 1 T - 1 := fun q => by rw [q, zc_all hT] at i2; omega
    obtain ⟨p1, p2, -⟩ := pck_ok hU hT i1.1 (by omega) i3
    obtain ⟨g1, g2, g3⟩ := good_e p2
    have e : dnz U A T ((i + 1 : Nat) : Int) = _ := dnz_s (i := i) (by omega)
    rw [e]
    have hb := nxt_bd hT i1 p1 (mc_b g1).1
    have hz := zc_n ⟨p1.1, by omega⟩ (mc_b g1).1 T.toNat (by omega)
    rw [b2i_t (by omega), Int.toNat_of_nonneg hT.1] at hz
    refine ⟨⟨by omega, hb.2⟩, by rw [hz, i2]; omega, g2⟩

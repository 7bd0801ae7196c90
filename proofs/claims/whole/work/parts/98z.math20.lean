-- texts: runs of signs, and what words are worth
def rnF (p : Int → Int) : Nat → Int → Int
  | 0, k => k
  | m + 1, k => if p k = 1 then rnF p m (k + 1) else k
/-- the end of a run of signs that are so, from k on -/
def RN (p : Int → Int) (n k : Int) : Int := rnF p (n - k).toNat k
theorem RN_s {p : Int → Int} {n k : Int} (h : k < n) (hp : p k = 1) : RN p n k = RN p n (k + 1) := by
  unfold RN
  rw [show (n - k).toNat = (n - (k + 1)).toNat + 1 by omega]
  show (if p k = 1 then rnF p _ (k + 1) else k) = _
  rw [if_pos hp]
theorem RN_e {p : Int → Int} {n k : Int} (h : ¬ (k < n ∧ p k = 1)) : RN p n k = k := by
  unfold RN
  by_cases q : k < n
  · rw [show (n - k).toNat = (n - (k + 1)).toNat + 1 by omega]
    show (if p k = 1 then rnF p _ (k + 1) else k) = _
    rw [if_neg (fun w => h ⟨q, w⟩)]
  · rw [show (n - k).toNat = 0 by omega]; rfl
theorem RN_ok {p : Int → Int} {n : Int} : ∀ (m : Nat) (k : Int), n - k = m → k ≤ RN p n k ∧ RN p n k ≤ n ∧ (∀ i, k ≤ i → i < RN p n k → p i = 1) ∧ (RN p n k < n → p (RN p n k) ≠ 1) := by
  intro m
  induction m with
  | zero =>
    intro k h
    rw [RN_e (by omega)]
    exact ⟨Int.le_refl _, by omega, fun i h0 h1 => by omega, fun w => by omega⟩
  | succ m ih =>
    intro k h
    by_cases q : p k = 1
    · rw [RN_s (by omega) q]
      obtain ⟨i1, i2, i3, i4⟩ := ih (k + 1) (by omega)
      refine ⟨by omega, i2, fun i h0 h1 => ?_, i4⟩
      by_cases z : i = k
      · rw [z]; exact q
      · exact i3 i (by omega) h1
    · rw [RN_e (fun w => q w.2)]
      exact ⟨Int.le_refl _, by omega, fun i h0 h1 => by omega, fun _ => q⟩
theorem RN_c {p p' : Int → Int} {n : Int} : ∀ (m : Nat) (k : Int), n - k = m → (∀ i, k ≤ i → i < n → p i = p' i) → RN p n k = RN p' n k := by
  intro m
  induction m with
  | zero => intro k h _; rw [RN_e (by omega), RN_e (by omega)]
  | succ m ih =>
    intro k h hp
    have e := hp k (by omega) (by omega)
    by_cases q : p k = 1
    · rw [RN_s (p := p) (k := k) (by omega) q, RN_s (p := p') (k := k) (by omega) (by rw [← e]; exact q)]
      exact ih (k + 1) (by omega) (fun i i0 i1 => hp i (by omega) i1)
    · rw [RN_e (fun w => q w.2), RN_e (fun w => q (by rw [e]; exact w.2))]
def isB (c : Int → Int) (k : Int) : Int := b2i (c k = 10 ∨ c k = 32)
def isL (c : Int → Int) (k : Int) : Int := b2i (97 ≤ c k ∧ c k ≤ 122)
def isD (c : Int → Int) (k : Int) : Int := b2i (48 ≤ c k ∧ c k ≤ 57)
/-- where the next token begins, and where a token that begins at p ends -/
def skp (c : Int → Int) (n k : Int) : Int := RN (isB c) n k
def ten (c : Int → Int) (n p : Int) : Int := if isL c p = 1 then RN (isL c) n p else if isD c p = 1 then RN (isD c) n p else p + 1
/-- a word's worth to the base b, of digits f -/
def wvl (b : Int) (f : Int → Int) (l : Int) : Int := foldZ (fun i v => b * v + f i) l 0
theorem wvl_s {b : Int} {f : Int → Int} {l : Int} (h : 0 ≤ l) : wvl b f (l + 1) = b * wvl b f l + f l := foldZ_s h
theorem wvl_c {b : Int} {f g : Int → Int} {l : Int} (h : ∀ i, 0 ≤ i → i < l → f i = g i) : wvl b f l = wvl b g l := foldZ_congr (fun i i0 i1 x => by rw [h i i0 i1])
theorem wvl_pos {b : Int} {f : Int → Int} (hb : 1 ≤ b) : ∀ l : Nat, (∀ i, 0 ≤ i → i < (l : Int) → 1 ≤ f i ∧ f i ≤ 26) → 0 ≤ wvl b f l ∧ (1 ≤ l → 1 ≤ wvl b f l) := by
  intro l
  induction l with
  | zero => intro _; exact ⟨Int.le_refl _, fun w => by omega⟩
  | succ l ih =>
    intro hf
    have e : wvl b f ((l + 1 : Nat) : Int) = _ := wvl_s (l := l) (by omega)
    have h1 := (ih (fun i i0 i1 => hf i i0 (by omega))).1
    have h2 := hf l (by omega) (by omega)
    have h3 := Int.mul_nonneg (show 0 ≤ b by omega) h1
    rw [e]
    omega
theorem wvl_inj {b : Int} (hb : b = 32 ∨ b = 37) : ∀ (l m : Nat) (f g : Int → Int), (∀ i, 0 ≤ i → i < (l : Int) → 1 ≤ f i ∧ f i ≤ 26) → (∀ i, 0 ≤ i → i < (m : Int) → 1 ≤ g i ∧ g i ≤ 26) → (wvl b f l = wvl b g m ↔ l = m ∧ ∀ i, 0 ≤ i → i < (l : Int) → f i = g i) := by
  intro l
  induction l with
  | zero =>
    intro m f g hf hg
    constructor
    · intro h
      by_cases q : m = 0
      · exact ⟨q.symm, fun i i0 i1 => by omega⟩
      · have := (wvl_pos (b := b) (by omega) m hg).2 (by omega)
        have e : wvl b f ((0 : Nat) : Int) = 0 := rfl
        rw [e] at h
        omega
    · intro h; rw [← h.1]; rfl
  | succ l ih =>
    intro m f g hf hg
    cases m with
    | zero =>
      constructor
      · intro h
        have := (wvl_pos (b := b) (by omega) (l + 1) hf).2 (by omega)
        have e : wvl b g ((0 : Nat) : Int) = 0 := rfl
        rw [e] at h
        omega
      · intro h; omega
    | succ m =>
      have e1 : wvl b f ((l + 1 : Nat) : Int) = _ := wvl_s (l := l) (by omega)
      have e2 : wvl b g ((m + 1 : Nat) : Int) = _ := wvl_s (l := m) (by omega)
      have hf' := hf l (by omega) (by omega)
      have hg' := hg m (by omega) (by omega)
      have ih := ih m f g (fun i i0 i1 => hf i i0 (by omega)) (fun i i0 i1 => hg i i0 (by omega))
      rw [e1, e2]
      constructor
      · intro h
        have hx : wvl b f l = wvl b g m ∧ f l = g m := by
          rcases hb with e | e <;> subst e <;> omega
        obtain ⟨a, c⟩ := ih.mp hx.1
        refine ⟨by omega, fun i i0 i1 => ?_⟩
        by_cases z : i = l
        · rw [z, hx.2]; congr 1; omega
        · exact c i i0 (by omega)
      · intro ⟨a, c⟩
        have hl : l = m := by omega
        have h1 := ih.mpr ⟨hl, fun i i0 i1 => c i i0 (by omega)⟩
        have h2 := c l (by omega) (by omega)
        rw [h1, h2, hl]
theorem wvl_bd {b : Int} {f : Int → Int} (hb : b = 32 ∨ b = 37) {l : Int} (h0 : 0 ≤ l) (h8 : l ≤ 8) (hf : ∀ i, 0 ≤ i → i < l → 1 ≤ f i ∧ f i ≤ 26) : 0 ≤ wvl b f l ∧ wvl b f l ≤ 4000000000000 ∧ (l < 8 → wvl b f l ≤ 100000000000) := by
  have key : ∀ m : Nat, (m : Int) ≤ l → 0 ≤ wvl b f m ∧ wvl b f m < ((37 ^ m : Nat) : Int) := by
    intro m
    induction m with
    | zero => intro _; exact ⟨Int.le_refl _, by show (0 : Int) < 1; omega⟩
    | succ m ih =>
      intro hm
      have ih := ih (by omega)
      have e : wvl b f ((m + 1 : Nat) : Int) = _ := wvl_s (l := m) (by omega)
      have h := hf m (by omega) (by omega)
      have e2 : ((37 ^ (m + 1) : Nat) : Int) = 37 * ((37 ^ m : Nat) : Int) := by rw [Nat.pow_succ, Nat.mul_comm]; simp
      rw [e, e2]
      rcases hb with z | z <;> subst z <;> omega
  have h := key l.toNat (by omega)
  rw [Int.toNat_of_nonneg h0] at h
  have h1 : 37 ^ l.toNat ≤ 37 ^ 8 := Nat.pow_le_pow_right (by decide) (by omega)
  have h2 : l < 8 → 37 ^ l.toNat ≤ 37 ^ 7 := fun w => Nat.pow_le_pow_right (by decide) (by omega)
  have e8 : 37 ^ 8 = 3512479453921 := by decide
  have e7 : 37 ^ 7 = 94931877133 := by decide
  rw [e8] at h1
  rw [e7] at h2
  refine ⟨h.1, by omega, fun w => ?_⟩
  have := h2 w
  omega
/-- a number's worth -/
def dvl (f : Int → Int) (l : Int) : Int := foldZ (fun i v => 10 * v + f i) l 0
theorem dvl_s {f : Int → Int} {l : Int} (h : 0 ≤ l) : dvl f (l + 1) = 10 * dvl f l + f l := foldZ_s h
theorem dvl_bd {f : Int → Int} {l : Int} (h0 : 0 ≤ l) (h4 : l ≤ 4) (hf : ∀ i, 0 ≤ i → i < l → 0 ≤ f i ∧ f i ≤ 9) : 0 ≤ dvl f l ∧ dvl f l ≤ 9999 := by
  have key : ∀ m : Nat, (m : Int) ≤ l → 0 ≤ dvl f m ∧ dvl f m < ((10 ^ m : Nat) : Int) := by
    intro m
    induction m with
    | zero => intro _; exact ⟨Int.le_refl _, by show (0 : Int) < 1; omega⟩
    | succ m ih =>
      intro hm
      have ih := ih (by omega)
      have e : dvl f ((m + 1 : Nat) : Int) = _ := dvl_s (l := m) (by omega)
      have h := hf m (by omega) (by omega)
      have e2 : ((10 ^ (m + 1) : Nat) : Int) = 10 * ((10 ^ m : Nat) : Int) := by rw [Nat.pow_succ, Nat.mul_comm]; simp
      rw [e, e2]
      omega
  have h := key l.toNat (by omega)
  rw [Int.toNat_of_nonneg h0] at h
  have h1 : 10 ^ l.toNat ≤ 10 ^ 4 := Nat.pow_le_pow_right (by decide) (by omega)
  omega

-- the tokens of a tape
def tkF (so va wd : Int → Int) (j : Int) : Int := if so j = 0 then 0 else if so j = 2 then 2 else if so j = 3 then va j else if so j = 1 then (if fnd wd (va j) 20 = -1 then 3 else if fnd wd (va j) 20 < 8 then 128 + fnd wd (va j) 20 else 4) else 1
def nwF (so va wd : Int → Int) (j : Int) : Int := b2i (so j = 1 ∧ fnd wd (va j) 20 = -1)
def t0F (so va wd : Int → Int) (j : Int) : Int := if so j = 2 then va j else if so j = 1 then (if fnd wd (va j) 20 = -1 then 0 else if fnd wd (va j) 20 < 8 then 0 else fnd wd (va j) 20 - 8) else 0
def soT (c : Int → Int) (n m j : Int) : Int := if 0 ≤ j ∧ j < m then tso c n (plz c n j) else 0
def vaT (c : Int → Int) (n m j : Int) : Int := if 0 ≤ j ∧ j < m then tva c n (plz c n j) else 0
def plT (c : Int → Int) (n m j : Int) : Int := if 0 ≤ j ∧ j < m then plz c n j else n
/-- m tokens fill the tape -/
def NT (c : Int → Int) (n m : Int) : Prop := (0 ≤ m ∧ m ≤ n) ∧ plz c n m = n ∧ ∀ j, 0 ≤ j → j < m → plz c n j < n
theorem plz_b {c : Int → Int} {n m : Int} (h : NT c n m) : ∀ j : Nat, (j : Int) ≤ m → 0 ≤ plz c n j ∧ plz c n j ≤ n := by
  intro j
  induction j with
  | zero =>
    intro _
    have := skp_ok (c := c) (n := n) (k := 0) (by have := h.1; omega)
    exact ⟨this.1, this.2.1⟩
  | succ j ih =>
    intro hj
    have hj : (j : Int) + 1 ≤ m := by omega
    have e : plz c n ((j : Int) + 1) = _ := plz_s (by omega)
    have h1 := ih (by omega)
    have h2 := h.2.2 j (by omega) (by omega)
    have h3 := ten_ok (c := c) h2
    have h4 := skp_ok (c := c) (n := n) (k := ten c n (plz c n j)) (by omega)
    show 0 ≤ plz c n ((j : Int) + 1) ∧ plz c n ((j : Int) + 1) ≤ n
    rw [e]; omega
theorem plz_c {c : Int → Int} {n m j : Int} (h : NT c n m) (h0 : 0 ≤ j) (h1 : j ≤ m) : 0 ≤ plz c n j ∧ plz c n j ≤ n := by
  have := plz_b h j.toNat (by omega)
  rw [Int.toNat_of_nonneg h0] at this
  exact this
theorem tso_c {c : Int → Int} {n p : Int} (hp : p < n) : (1 ≤ tso c n p ∧ tso c n p ≤ 4) ∧ (tso c n p = 3 → isG (tva c n p) = 1 ∧ tva c n p = c p) ∧ (tso c n p = 2 → 0 ≤ tva c n p ∧ tva c n p ≤ 9999) := by
  unfold tso tva
  by_cases a : isL c p = 1
  · rw [if_pos a]
    by_cases b : 8 < ten c n p - p
    · rw [if_pos b]; omega
    · rw [if_neg b]; omega
  · rw [if_neg a, if_neg a]
    by_cases e : isD c p = 1
    · rw [if_pos e]
      by_cases b : 4 < ten c n p - p
      · rw [if_pos b]; omega
      · rw [if_neg b, if_pos e]
        refine ⟨by omega, fun z => by omega, fun _ => ?_⟩
        have ht := ten_ok (c := c) hp
        have et : ten c n p = RN (isD c) n p := by unfold ten; rw [if_neg a, if_pos e]
        have hr := RN_ok (p := isD c) (n := n) (n - p).toNat p (by omega)
        rw [← et] at hr
        have hm : min (ten c n p - p) 4 = ten c n p - p := by omega
        rw [hm]
        exact dvl_bd (by omega) (by omega) (fun i i0 i1 => by
          have := hr.2.2.1 (p + i) (by omega) (by omega)
          unfold isD b2i at this
          split at this
          · omega
          · omega)
    · rw [if_neg e, if_neg e]
      by_cases g : isG (c p) = 1
      · rw [if_pos g]; exact ⟨by omega, fun _ => ⟨g, rfl⟩, fun z => by omega⟩
      · rw [if_neg g]; omega
theorem isG_b {x : Int} (h : isG x = 1) : 40 ≤ x ∧ x ≤ 61 := by unfold isG b2i at h; split at h <;> omega
theorem TP_t {c wd : Int → Int} {n m : Int} (h : NT c n m) : TP (tkF (soT c n m) (vaT c n m) wd) (nwF (soT c n m) (vaT c n m) wd) (t0F (soT c n m) (vaT c n m) wd) (plT c n m) m := by
  have hso : ∀ j, soT c n m j = 3 → 40 ≤ vaT c n m j ∧ vaT c n m j ≤ 61 := fun j z => by
    unfold soT at z
    unfold vaT
    by_cases q : 0 ≤ j ∧ j < m
    · rw [if_pos q] at z ⊢
      exact isG_b ((tso_c (h.2.2 j q.1 q.2)).2.1 z).1
    · rw [if_neg q] at z; omega
  refine ⟨?_, fun j => ⟨?_, ?_, ?_⟩⟩
  · unfold tkF soT; rw [if_pos (by rw [if_neg (by omega)])]
  · unfold plT
    split
    · rename_i q; exact (plz_c h q.1 (by omega)).1
    · have := h.1; omega
  · have hs := hso j
    unfold tkF nwF
    generalize soT c n m j = s at *
    generalize vaT c n m j = v at *
    have hf := fnd_bd (r := wd) (v := v) (n := 20) (by omega)
    have hb := b2i_e (p := s = 1 ∧ fnd wd v 20 = -1)
    by_cases q : s = 1 ∧ fnd wd v 20 = -1
    · rw [if_neg (by omega), if_neg (by omega), if_neg (by omega), if_pos q.1, if_pos q.2]
      exact ⟨fun _ => b2i_t q, fun _ => rfl⟩
    · rw [b2i_f q]
      refine ⟨fun z => ?_, fun z => by omega⟩
      exfalso
      split at z
      · omega
      · split at z
        · omega
        · split at z
          · have := hs (by assumption); omega
          · split at z
            · split at z
              · exact q ⟨by assumption, by assumption⟩
              · split at z <;> omega
            · omega
  · intro z
    have hs := hso j
    unfold tkF at z
    unfold t0F
    generalize soT c n m j = s at *
    generalize vaT c n m j = v at *
    have hf := fnd_bd (r := wd) (v := v) (n := 20) (by omega)
    split at z
    · omega
    · split at z
      · omega
      · split at z
        · have := hs (by assumption); omega
        · split at z
          · split at z
            · omega
            · split at z
              · omega
              · rw [if_neg (by assumption), if_pos (by assumption), if_neg (by assumption), if_neg (by assumption)]; omega
          · omega
/-- the reference's rows hold a tape's tokens -/
def BT (s : Sg) (c : Int → Int) (n m : Int) : Prop := NT c n m ∧ n ≤ 1000 ∧ TK s c n m ∧ s 73 m = 0 ∧ s 74 m = n ∧ (s 71 11 = 0 ∨ s 71 11 = 1) ∧ ∀ a b, 0 ≤ a → a < b → b < 20 → s 76 a ≠ s 76 b
theorem BT_rows {s : Sg} {c : Int → Int} {n m j : Int} (h : BT s c n m) (h0 : 0 ≤ j) (h1 : j ≤ m) : s 73 j = soT c n m j ∧ s 74 j = plT c n m j ∧ (s 73 j ≠ 0 → s 75 j = vaT c n m j) := by
  obtain ⟨a1, a2, a3, a4, a5, a6, a7⟩ := h
  unfold soT plT vaT
  by_cases q : j < m
  · rw [if_pos ⟨h0, q⟩, if_pos ⟨h0, q⟩, if_pos ⟨h0, q⟩]
    have := a3 j h0 q
    exact ⟨this.2.2.1, this.2.1, fun _ => this.2.2.2⟩
  · rw [if_neg (by omega), if_neg (by omega), show j = m by omega]
    exact ⟨a4, a5, fun z => absurd a4 z⟩
theorem TR_of {s : Sg} {c : Int → Int} {n m : Int} (h : BT s c n m) (h81 : 0 ≤ s 81 (s 71 11) ∧ s 81 (s 71 11) ≤ 8) : TR s m := by
  obtain ⟨a1, a2, a3, a4, a5, a6, a7⟩ := id h
  have hm := a1.1
  refine ⟨by omega, a4, fun j j0 j1 => ?_, a7, a6, h81.1, h81.2⟩
  by_cases q : j < m
  · have hj := a3 j j0 q
    have hc := tso_c (c := c) hj.1
    have hp := plz_c a1 j0 (by omega)
    rw [hj.2.2.1, hj.2.1, hj.2.2.2]
    exact ⟨by omega, by omega, fun z => (hc.2.1 z).1, hc.2.2⟩
  · rw [show j = m by omega, a4, a5]
    exact ⟨by omega, by omega, fun z => by omega, fun z => by omega⟩
/-- the reference's tokens are the tape's -/
theorem tk_T {s : Sg} {c : Int → Int} {n m j : Int} (h : BT s c n m) (h0 : 0 ≤ j) (h1 : j ≤ m) : tkM s j = tkF (soT c n m) (vaT c n m) (s 76) j := by
  obtain ⟨e1, e2, e3⟩ := BT_rows h h0 h1
  unfold tkM tkF
  by_cases q : s 73 j = 0
  · rw [if_pos q, if_pos (by omega)]
  · rw [e3 q, ← e1]
theorem tw_T {s : Sg} {c nm : Int → Int} {n m j M : Int} (h : BT s c n m) (h0 : 0 ≤ j) (h1 : j ≤ m) (hM : s 81 (s 71 11) = M) (hn : ∀ k, 0 ≤ k → k < M → s 82 (8 * s 71 11 + k) = nm k) : twM s j = twN (nwF (soT c n m) (vaT c n m) (s 76)) (t0F (soT c n m) (vaT c n m) (s 76)) (vaT c n m) nm M j := by
  obtain ⟨e1, e2, e3⟩ := BT_rows h h0 h1
  have hi : idx (nmF s) M (vaT c n m j) = idx nm M (vaT c n m j) := idx_rc (fun k k0 k1 => hn k k0 k1)
  unfold twM twN nwF t0F
  rw [hM]
  by_cases q : s 73 j = 0
  · rw [if_neg (by omega), if_neg (by omega), b2i_f (by omega), if_neg (by omega), if_neg (by omega), if_neg (by omega)]
  · rw [e3 q, ← e1, hi]
    by_cases a : s 73 j = 2
    · rw [if_pos a, b2i_f (by omega), if_neg (by omega), if_pos a]
    · rw [if_neg a, if_neg a]
      by_cases b : s 73 j = 1
      · rw [if_pos b, if_pos b]
        by_cases z : fnd (s 76) (vaT c n m j) 20 = -1
        · rw [if_pos z, b2i_t ⟨b, z⟩, if_pos rfl]
        · rw [if_neg z, b2i_f (fun w => z w.2), if_neg (c := (0 : Int) = 1) (by omega), if_neg z]
      · rw [if_neg b, if_neg b, b2i_f (fun w => b w.1), if_neg (by omega)]

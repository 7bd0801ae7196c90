-- the words that are kept: their letters
def WDS : List (List Int) := [[12, 5, 20], [2, 1, 18], [4, 15, 21, 2, 20], [19, 20, 15, 14, 5], [23, 8, 5, 14], [1, 14, 4], [15, 18], [14, 15, 20], [7, 1, 16], [19, 13, 1, 12, 12], [7, 18, 5, 1, 20], [6, 1, 18], [12, 1, 25, 5, 18, 19], [2, 21, 18, 14, 20], [2, 18, 5, 1, 11, 19], [3, 15, 12, 15, 21, 18], [7, 18, 1, 9, 14], [19, 16, 15, 20, 19], [6, 9, 18, 5], [19, 9, 26, 5]]
def wdg (w i : Int) : Int := (WDS.getD w.toNat []).getD i.toNat 0
def wln (w : Int) : Int := ((WDS.getD w.toNat []).length : Int)
def V37 : List Int := [16633, 2793, 8285282, 36643177, 1176170, 1891, 573, 19741, 9636, 36269373, 14037783, 8269, 835275500, 4837215, 172677872, 236773452, 14032597, 36440801, 316910, 975695]
theorem wd_fin : ∀ w : Fin 20, (1 ≤ wln (w.val : Int) ∧ wln (w.val : Int) ≤ 8) ∧ wvl 37 (wdg (w.val : Int)) (wln (w.val : Int)) = V37.getD w.val 0 ∧ (∀ i : Fin 8, (i.val : Int) < wln (w.val : Int) → 1 ≤ wdg (w.val : Int) (i.val : Int) ∧ wdg (w.val : Int) (i.val : Int) ≤ 26) := by decide +kernel
theorem wd_ne : ∀ a b : Fin 20, a.val < b.val → V37.getD a.val 0 ≠ V37.getD b.val 0 := by decide +kernel
theorem wd_ok {w : Int} (h0 : 0 ≤ w) (h1 : w < 20) : (1 ≤ wln w ∧ wln w ≤ 8) ∧ wvl 37 (wdg w) (wln w) = V37.getD w.toNat 0 ∧ ∀ i, 0 ≤ i → i < wln w → 1 ≤ wdg w i ∧ wdg w i ≤ 26 := by
  have h := wd_fin ⟨w.toNat, by omega⟩
  dsimp only at h
  rw [Int.toNat_of_nonneg h0] at h
  refine ⟨h.1, h.2.1, fun i i0 i1 => ?_⟩
  have := h.2.2 ⟨i.toNat, by omega⟩
  dsimp only at this
  rw [Int.toNat_of_nonneg i0] at this
  exact this i1
theorem wd_d {a b : Int} (h0 : 0 ≤ a) (h1 : a < b) (h2 : b < 20) : V37.getD a.toNat 0 ≠ V37.getD b.toNat 0 := wd_ne ⟨a.toNat, by omega⟩ ⟨b.toNat, by omega⟩ (by dsimp only; omega)
/-- words are told apart to the base 37 as to the base 32 -/
theorem wv_32 {f g : Int → Int} {l m : Int} (l0 : 0 ≤ l) (m0 : 0 ≤ m) (hf : ∀ i, 0 ≤ i → i < l → 1 ≤ f i ∧ f i ≤ 26) (hg : ∀ i, 0 ≤ i → i < m → 1 ≤ g i ∧ g i ≤ 26) : wvl 37 f l = wvl 37 g m ↔ wvl 32 f l = wvl 32 g m := by
  obtain ⟨l, rfl⟩ : ∃ k : Nat, l = k := ⟨l.toNat, by omega⟩
  obtain ⟨m, rfl⟩ : ∃ k : Nat, m = k := ⟨m.toNat, by omega⟩
  rw [wvl_inj (Or.inr rfl) l m f g hf hg, wvl_inj (Or.inl rfl) l m f g hf hg]
/-- key words and part words, to both bases -/
theorem kw_eq {r76 r54 r55 f : Int → Int} {l : Int} (l0 : 0 ≤ l) (hf : ∀ i, 0 ≤ i → i < l → 1 ≤ f i ∧ f i ≤ 26) (h76 : ∀ w, 0 ≤ w → w < 20 → r76 w = wvl 37 (wdg w) (wln w)) (h54 : ∀ w, 0 ≤ w → w < 8 → r54 w = wvl 32 (wdg w) (wln w)) (h55 : ∀ w, 0 ≤ w → w < 12 → r55 w = wvl 32 (wdg (8 + w)) (wln (8 + w))) : (fnd r76 (wvl 37 f l) 20 = -1 ∧ fnd r54 (wvl 32 f l) 8 = -1 ∧ fnd r55 (wvl 32 f l) 12 = -1) ∨ ((0 ≤ fnd r76 (wvl 37 f l) 20 ∧ fnd r76 (wvl 37 f l) 20 < 8) ∧ fnd r54 (wvl 32 f l) 8 = fnd r76 (wvl 37 f l) 20) ∨ ((8 ≤ fnd r76 (wvl 37 f l) 20 ∧ fnd r76 (wvl 37 f l) 20 < 20) ∧ fnd r54 (wvl 32 f l) 8 = -1 ∧ fnd r55 (wvl 32 f l) 12 = fnd r76 (wvl 37 f l) 20 - 8) := by
  have key : ∀ w, 0 ≤ w → w < 20 → (r76 w = wvl 37 f l ↔ wvl 32 (wdg w) (wln w) = wvl 32 f l) := fun w w0 w1 => by
    rw [h76 w w0 w1]
    have hw := wd_ok w0 w1
    exact wv_32 (by omega) l0 hw.2.2 hf
  have h7 := fnd_bd (r := r76) (v := wvl 37 f l) (n := 20) (by omega)
  have h5 := fnd_bd (r := r54) (v := wvl 32 f l) (n := 8) (by omega)
  have h6 := fnd_bd (r := r55) (v := wvl 32 f l) (n := 12) (by omega)
  have un : ∀ a b, 0 ≤ a → a < 20 → 0 ≤ b → b < 20 → wvl 32 (wdg a) (wln a) = wvl 32 f l → wvl 32 (wdg b) (wln b) = wvl 32 f l → a = b := fun a b a0 a1 b0 b1 ha hb => by
    have ea := (key a a0 a1).mpr ha
    have eb := (key b b0 b1).mpr hb
    rw [h76 a a0 a1, (wd_ok a0 a1).2.1] at ea
    rw [h76 b b0 b1, (wd_ok b0 b1).2.1] at eb
    rcases Int.lt_trichotomy a b with z | z | z
    · exact absurd (ea.trans eb.symm) (wd_d a0 z b1)
    · exact z
    · exact absurd (eb.trans ea.symm) (wd_d b0 z a1)
  have k5 : ∀ w, 0 ≤ w → w < 8 → (r54 w = wvl 32 f l ↔ wvl 32 (wdg w) (wln w) = wvl 32 f l) := fun w w0 w1 => by rw [h54 w w0 w1]
  have k6 : ∀ w, 0 ≤ w → w < 12 → (r55 w = wvl 32 f l ↔ wvl 32 (wdg (8 + w)) (wln (8 + w)) = wvl 32 f l) := fun w w0 w1 => by rw [h55 w w0 w1]
  rcases h7 with q | q
  · left
    refine ⟨q.1, ?_, ?_⟩
    · rcases h5 with y | y
      · exact y.1
      · exact absurd ((key _ y.1 (by omega)).mpr ((k5 _ y.1 y.2.1).mp y.2.2.1)) (q.2 _ y.1 (by omega))
    · rcases h6 with y | y
      · exact y.1
      · exact absurd ((key (8 + fnd r55 (wvl 32 f l) 12) (by omega) (by omega)).mpr ((k6 _ y.1 y.2.1).mp y.2.2.1)) (q.2 _ (by omega) (by omega))
  · have hq := (key _ q.1 q.2.1).mp q.2.2.1
    right
    by_cases z : fnd r76 (wvl 37 f l) 20 < 8
    · left
      refine ⟨⟨q.1, z⟩, ?_⟩
      rcases h5 with y | y
      · exact absurd ((k5 _ q.1 z).mpr hq) (y.2 _ q.1 z)
      · exact un _ _ y.1 (by omega) q.1 q.2.1 ((k5 _ y.1 y.2.1).mp y.2.2.1) hq
    · right
      refine ⟨⟨by omega, q.2.1⟩, ?_, ?_⟩
      · rcases h5 with y | y
        · exact y.1
        · have := un _ _ y.1 (by omega) q.1 q.2.1 ((k5 _ y.1 y.2.1).mp y.2.2.1) hq
          omega
      · have e8 : 8 + (fnd r76 (wvl 37 f l) 20 - 8) = fnd r76 (wvl 37 f l) 20 := by omega
        rcases h6 with y | y
        · exact absurd ((k6 (fnd r76 (wvl 37 f l) 20 - 8) (by omega) (by omega)).mpr (by rw [e8]; exact hq)) (y.2 _ (by omega) (by omega))
        · have := un (8 + fnd r55 (wvl 32 f l) 12) _ (by omega) (by omega) q.1 q.2.1 ((k6 _ y.1 y.2.1).mp y.2.2.1) hq
          omega

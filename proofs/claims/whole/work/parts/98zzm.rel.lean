-- the relation between class and reference
def Ra (σ : Sg) : Prop := (σ 71 24 = σ 0 8 ∧ 0 ≤ σ 0 8 ∧ σ 0 8 ≤ 999) ∧ (σ 71 71 = σ 0 9 ∧ σ 71 72 = σ 0 10 ∧ (0 ≤ σ 0 9 ∧ σ 0 9 ≤ 1000) ∧ 0 ≤ σ 0 10 ∧ σ 0 10 ≤ σ 0 9) ∧ σ 71 25 = σ 36 2 ∧ 0 ≤ σ 36 2 ∧ σ 36 2 ≤ 400
def Rb (σ : Sg) : Prop := (σ 71 2 = σ 52 0 ∧ (0 ≤ σ 52 0 ∧ σ 52 0 ≤ 1000) ∧ σ 72 = σ 53 ∧ ∀ i, 0 ≤ i → i < σ 52 0 → 0 ≤ σ 53 i ∧ σ 53 i ≤ 127) ∧ σ 71 65 = σ 64 2 ∧ (0 ≤ σ 64 2 ∧ σ 64 2 ≤ 20) ∧ σ 119 = σ 65 ∧ σ 120 = σ 66 ∧ σ 121 = σ 67 ∧ FB (σ 65) (σ 66) (σ 67) (σ 64 2)
/-- the pieces -/
def Rp (σ : Sg) (P : Int) : Prop := (σ 1 0 = P ∧ σ 71 26 = P ∧ 0 ≤ P ∧ P ≤ 40) ∧ (σ 88 = σ 2 ∧ σ 89 = σ 3 ∧ σ 90 = σ 4 ∧ σ 91 = σ 5 ∧ σ 92 = σ 6 ∧ σ 93 = σ 7 ∧ σ 94 = σ 8 ∧ σ 95 = σ 9 ∧ σ 96 = σ 10 ∧ σ 97 = σ 11) ∧ PBs σ P ∧ (∀ p, 0 ≤ p → p < P → -1 ≤ σ 2 p ∧ σ 2 p ≤ 7) ∧ ∀ p, P ≤ p → p < 40 → σ 7 p = 0 ∧ σ 8 p = 0 ∧ σ 9 p = 0 ∧ σ 10 p = 0 ∧ σ 11 p = 0
/-- the faces -/
def Rf (σ : Sg) (P : Int) : Prop := (σ 98 = σ 13 ∧ σ 99 = σ 14 ∧ σ 101 = σ 16 ∧ ∀ i, 0 ≤ σ 100 i ∧ σ 100 i ≤ 255) ∧ (∀ p, 0 ≤ p → p < P → 0 ≤ σ 13 p ∧ σ 13 p ≤ 8) ∧ (∀ p, P ≤ p → p < 40 → σ 13 p = 0) ∧ (∀ f, 0 ≤ f → f < 320 → (0 ≤ σ 14 f ∧ σ 14 f ≤ 3) ∧ 0 ≤ σ 16 f ∧ σ 16 f ≤ 7) ∧ (∀ f k, 0 ≤ f → f < 320 → 0 ≤ k → k < 8 → σ 100 (8 * f + k) = byt (σ 15 f) k ∧ σ 116 (8 * f + k) = nib (σ 18 f) k) ∧ ∀ f k, 0 ≤ f → f < 320 → 0 ≤ k → k < 8 → 0 < nib (σ 18 f) k → hsS σ f = 1 ∧ hsS σ (f / 8 * 8 + k) = 1
/-- the joins -/
def Rj (σ : Sg) (P J : Int) : Prop := (σ 71 43 = J ∧ σ 102 = σ 22 ∧ σ 103 = σ 23 ∧ σ 104 = σ 24 ∧ σ 105 = σ 25 ∧ σ 106 = σ 26) ∧ CW σ P J ∧ (∀ j, 0 ≤ j → j < J → (hsS σ (σ 22 j) = 1 ∧ hsS σ (σ 23 j) = 1 ∧ σ 22 j / 8 ≠ σ 23 j / 8) ∧ (σ 14 (σ 22 j) = 0 ∧ σ 14 (σ 23 j) = 1 ∨ σ 14 (σ 22 j) = 1 ∧ σ 14 (σ 23 j) = 0 ∨ σ 14 (σ 22 j) = 3 ∧ σ 14 (σ 23 j) = 3) ∧ (σ 27 j ≠ 0 ↔ σ 14 (σ 22 j) = 3) ∧ (0 ≤ σ 25 j ∧ (σ 26 j = -1 ∨ 0 ≤ σ 26 j)) ∧ (σ 26 j = -1 → σ 17 (σ 22 j) = j ∧ σ 17 (σ 23 j) = j)) ∧ ∀ f, 0 ≤ f → f < 8 * P → hsS σ f = 1 → σ 17 f = -1 ∨ (0 ≤ σ 17 f ∧ σ 17 f < J) ∧ σ 26 (σ 17 f) = -1 ∧ (σ 22 (σ 17 f) = f ∨ σ 23 (σ 17 f) = f)
/-- the texts -/
def Rt (σ : Sg) (t dd : Nat) : Prop := ((t = 53 ∧ dd = 60) ∨ (t = 60 ∧ dd = 53)) ∧ (σ 40 0 = 0 ∧ σ 47 0 = 0) ∧ (∀ w, 0 ≤ w → w < 8 → σ 54 w = wvl 32 (wdg w) (wln w)) ∧ (∀ w, 0 ≤ w → w < 12 → σ 55 w = wvl 32 (wdg (8 + w)) (wln (8 + w))) ∧ (∀ w, 0 ≤ w → w < 20 → σ 76 w = wvl 37 (wdg w) (wln w)) ∧ ∃ (h N M : Int) (kd nu len : Int → Int) (K W : Int → Int → Int), WT N kd nu len K W ∧ TSx σ t N kd nu len K W ∧ MTh σ h N kd nu len K W ∧ (∀ l, 0 ≤ l → l < N → 0 ≤ nu l ∧ nu l ≤ 99) ∧ σ (t - 16) 1 = M ∧ σ 81 h = M
/-- all but what is held -/
def R0 (σ : Sg) (t dd : Nat) (P J : Int) : Prop := Ra σ ∧ Rb σ ∧ Rp σ P ∧ Rf σ P ∧ Rj σ P J ∧ GI σ P J ∧ Rt σ t dd
/-- the relation -/
def RR (σ : Sg) (t dd : Nat) (P J : Int) : Prop := R0 σ t dd P J ∧ HB σ P J ∧ HG σ P
def Fs (σ s : Sg) : Prop := Fr [19, 20, 33, 34, 35, 42, 43, 49, 50, 51, 58, 59, 60, 61, 62, 63, 68, 69, 70, 85, 86, 87, 107, 108, 109, 110, 111, 112, 113, 114, 115, 117, 118] [(57, 4), (57, 5), (64, 9), (64, 10), (64, 11), (64, 12), (64, 13), (64, 14), (64, 15), (64, 16), (71, 0), (71, 41), (71, 42), (71, 55), (71, 62), (71, 63), (71, 64), (71, 69), (71, 70)] σ s
theorem hsS_fn {σ s : Sg} (h : s 13 = σ 13) : hsS s = hsS σ := by funext f; unfold hsS; rw [h]
theorem CT_fs {σ s : Sg} {B : Nat} {N : Int} {kd nu len : Int → Int} {K W : Int → Int → Int} (h0 : s B 0 = σ B 0) (h1 : s (B + 1) = σ (B + 1)) (h2 : s (B + 2) = σ (B + 2)) (h3 : s (B + 3) = σ (B + 3)) (h4 : s (B + 4) = σ (B + 4)) (h : CT σ B N kd nu len K W) : CT s B N kd nu len K W := by
  unfold CT at h ⊢
  rw [h0, h1, h2, h3, h4]; exact h
theorem GI_fs {σ s : Sg} {P J : Int} (e22 : s 22 = σ 22) (e23 : s 23 = σ 23) (e24 : s 24 = σ 24) (e26 : s 26 = σ 26) (e27 : s 27 = σ 27) (e29 : s 29 = σ 29) (e30 : s 30 = σ 30) (e31 : s 31 = σ 31) (e32 : s 32 = σ 32) (gi : GI σ P J) : GI s P J := by
  have ec : cobS s P J = cobS σ P J := by unfold cobS onS; rw [e22, e23, e26]
  have ew : whoS s P J = whoS σ P J := by unfold whoS onB; rw [e22, e23, e26, e27]
  have et : trnS s P J = trnS σ P J := by unfold trnS onS; rw [e22, e23, e24, e26]
  unfold GI at gi ⊢
  rw [ec, ew, et, e29, e30, e31, e32]; exact gi
theorem Rt_fs {σ s : Sg} {t dd : Nat} (a37 : s 37 0 = σ 37 0) (a44 : s 44 0 = σ 44 0) (b37 : s 37 1 = σ 37 1) (b44 : s 44 1 = σ 44 1) (a71 : s 71 10 = σ 71 10) (e38 : s 38 = σ 38) (e39 : s 39 = σ 39) (e40 : s 40 = σ 40) (e41 : s 41 = σ 41) (e45 : s 45 = σ 45) (e46 : s 46 = σ 46) (e47 : s 47 = σ 47) (e48 : s 48 = σ 48) (e54 : s 54 = σ 54) (e55 : s 55 = σ 55) (e76 : s 76 = σ 76) (e77 : s 77 = σ 77) (e78 : s 78 = σ 78) (e79 : s 79 = σ 79) (e80 : s 80 = σ 80) (e81 : s 81 = σ 81) (e83 : s 83 = σ 83) (e84 : s 84 = σ 84) (rt : Rt σ t dd) : Rt s t dd := by
  obtain ⟨t1, t2, t3, t4, t5, hh, N, M, kd, nu, len, K, W, w1, w2, w3, w4, w5, w6⟩ := rt
  refine ⟨t1, by rw [e40, e47]; exact t2, by rw [e54]; exact t3, by rw [e55]; exact t4, by rw [e76]; exact t5, hh, N, M, kd, nu, len, K, W, w1, ?_, ?_, w4, ?_, by rw [e81]; exact w6⟩
  · rcases w2 with ⟨z, w2⟩ | ⟨z, w2⟩
    · exact Or.inl ⟨z, CT_fs a37 e38 e39 e40 e41 w2⟩
    · exact Or.inr ⟨z, CT_fs a44 e45 e46 e47 e48 w2⟩
  · unfold MTh MT at w3 ⊢
    rw [a71, e77, e78, e79, e80, e83, e84]; exact w3
  · rcases t1 with ⟨z, -⟩ | ⟨z, -⟩
    · subst z
      show s 37 1 = M
      rw [b37]; exact w5
    · subst z
      show s 44 1 = M
      rw [b44]; exact w5
theorem HB_fs {σ s : Sg} {P J : Int} (a4 : s 57 4 = σ 57 4) (a5 : s 57 5 = σ 57 5) (e13 : s 13 = σ 13) (e14 : s 14 = σ 14) (e17 : s 17 = σ 17) (e18 : s 18 = σ 18) (e22 : s 22 = σ 22) (e23 : s 23 = σ 23) (e29 : s 29 = σ 29) (e30 : s 30 = σ 30) (e58 : s 58 = σ 58) (e62 : s 62 = σ 62) (e63 : s 63 = σ 63) (h : HB σ P J) : HB s P J := by
  have eh := hsS_fn e13
  have em : mtS s J = mtS σ J := by funext f; unfold mtS; rw [e17, e22, e23]
  have eg : gtS s P J = gtS σ P J := by funext c n; unfold gtS; rw [eh, e14, e29, e30, em]
  have eU : US s P J = US σ P J := by funext c; unfold US; rw [eg, eh, e14, e29, e30, em, e18]
  have eA : AS s P J = AS σ P J := by funext c; unfold AS; rw [eg, eh, e14, e29, e30, em]
  unfold HB BCx at h ⊢
  rw [a4, a5, eg, eU, eA, e58, e62, e63]; exact h
theorem HG_fs {σ s : Sg} {P : Int} (a10 : s 64 10 = σ 64 10) (a11 : s 64 11 = σ 64 11) (a12 : s 64 12 = σ 64 12) (a13 : s 64 13 = σ 64 13) (a14 : s 64 14 = σ 64 14) (e3 : s 3 = σ 3) (e4 : s 4 = σ 4) (e5 : s 5 = σ 5) (e29 : s 29 = σ 29) (h : HG σ P) : HG s P := by
  have es : stS s P = stS σ P := by funext c n; unfold stS; rw [e29, e4, e5, e3]
  unfold HG SC at h ⊢
  rw [a10, a11, a12, a13, a14, es]; exact h

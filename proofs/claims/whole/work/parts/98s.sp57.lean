/-- what the reference judges by -/
def JM (σ : Sg) (P h N : Int) (kd nu len : Int → Int) (K W : Int → Int → Int) : Prop := σ 71 26 = P ∧ (0 ≤ P ∧ P ≤ 40) ∧ PBm σ P ∧ (∀ f, 0 ≤ f → f < 8 * P → 0 ≤ σ 101 f ∧ σ 101 f ≤ 7) ∧ (∀ i, 0 ≤ i → i < 64 * P → 0 ≤ σ 100 i ∧ σ 100 i ≤ 255) ∧ (∀ p, 0 ≤ p → p < P → -1 ≤ σ 88 p) ∧ (0 ≤ σ 71 25 ∧ σ 71 25 ≤ 400) ∧ WT N kd nu len K W ∧ MT σ h N kd nu len K W ∧ ∀ l, 0 ≤ l → l < N → 0 ≤ nu l ∧ nu l ≤ 99
def Fk (σ s : Sg) : Prop := Fr [85, 86, 87] [(71, 0), (71, 41), (71, 42)] σ s
theorem JM_fr {σ s : Sg} {P h N : Int} {kd nu len : Int → Int} {K W : Int → Int → Int} (hJ : JM σ P h N kd nu len K W) (hF : Fk σ s) : JM s P h N kd nu len K W := by
  obtain ⟨h0, h1, h2, h3, h4, h5, h6, h7, h8, h9⟩ := hJ
  refine ⟨by rw [hF.at 71 26 rfl]; exact h0, h1, ?_, ?_, ?_, ?_, ?_, h7, MT_fr h8 hF rfl rfl rfl rfl rfl rfl rfl, h9⟩
  · unfold PBm
    rw [hF.fn 89 rfl, hF.fn 90 rfl, hF.fn 91 rfl, hF.fn 92 rfl, hF.fn 93 rfl, hF.fn 94 rfl, hF.fn 95 rfl, hF.fn 96 rfl, hF.fn 97 rfl]
    exact h2
  · rw [hF.fn 101 rfl]; exact h3
  · rw [hF.fn 100 rfl]; exact h4
  · rw [hF.fn 88 rfl]; exact h5
  · rw [hF.at 71 25 rfl]; exact h6
theorem fitM_fr {σ s : Sg} {a b : Int} (h1 : s 100 = σ 100) (h2 : s 101 = σ 101) : fitM s a b = fitM σ a b := by unfold fitM; rw [h1, h2]
theorem mayM_fr {σ s : Sg} {N : Int} {kd nu len : Int → Int} {K W : Int → Int → Int} {a b : Int} (hF : Fk σ s) : mayM s N kd nu len K W a b = mayM σ N kd nu len K W a b := by
  have e := fitM_fr (a := a) (b := b) (hF.fn 100 rfl) (hF.fn 101 rfl)
  have e2 : ∀ p, stnM s N kd nu len K W p = stnM σ N kd nu len K W p := fun p => by
    unfold stnM; rw [hF.fn 88 rfl, hF.fn 93 rfl, hF.fn 94 rfl, hF.fn 95 rfl, hF.fn 96 rfl, hF.fn 89 rfl]
  have e3 : kmM s a b = kmM σ a b := by
    unfold kmM; rw [e, hF.fn 99 rfl, hF.fn 89 rfl, hF.fn 90 rfl, hF.fn 91 rfl, hF.fn 92 rfl, hF.fn 96 rfl, hF.fn 93 rfl, hF.fn 94 rfl, hF.fn 95 rfl]
  unfold mayM
  rw [e, e2, e2, e3, hF.fn 99 rfl, hF.at 71 25 rfl, hF.fn 96 rfl]
def dbM (σ : Sg) (N : Int) (kd nu len : Int → Int) (K W : Int → Int → Int) (a b : Int) : Int := sumZ (fun l => if hld (kmM σ a b) kd nu len K W 2 l = 1 then nu l else 0) N
theorem dbM_fr {σ s : Sg} {N : Int} {kd nu len : Int → Int} {K W : Int → Int → Int} {a b : Int} (hF : Fk σ s) : dbM s N kd nu len K W a b = dbM σ N kd nu len K W a b := by
  have e := fitM_fr (a := a) (b := b) (hF.fn 100 rfl) (hF.fn 101 rfl)
  have e3 : kmM s a b = kmM σ a b := by
    unfold kmM; rw [e, hF.fn 99 rfl, hF.fn 89 rfl, hF.fn 90 rfl, hF.fn 91 rfl, hF.fn 92 rfl, hF.fn 96 rfl, hF.fn 93 rfl, hF.fn 94 rfl, hF.fn 95 rfl]
  unfold dbM; rw [e3]
theorem mayM_or {σ : Sg} {N : Int} {kd nu len : Int → Int} {K W : Int → Int → Int} {a b : Int} : mayM σ N kd nu len K W a b = 0 ∨ mayM σ N kd nu len K W a b = 1 ∧ a / 8 ≠ b / 8 ∧ (σ 99 a = 0 ∧ σ 99 b = 1 ∨ σ 99 a = 1 ∧ σ 99 b = 0 ∨ σ 99 a = 3 ∧ σ 99 b = 3) := by
  unfold mayM
  rcases (b2i_or (p := a / 8 ≠ b / 8 ∧ (σ 99 a = 0 ∧ σ 99 b = 1 ∨ σ 99 a = 1 ∧ σ 99 b = 0 ∨ σ 99 a = 3 ∧ σ 99 b = 3) ∧ fitM σ a b / 8 ≤ σ 71 25 + 10 * (σ 96 (a / 8) + σ 96 (b / 8)) ∧ (stnM σ N kd nu len K W (a / 8) = stnM σ N kd nu len K W (b / 8) ∨ stnM σ N kd nu len K W (a / 8) = -1 ∨ stnM σ N kd nu len K W (b / 8) = -1) ∧ frst (hld (kmM σ a b) kd nu len K W 1) nu N = -1)) with w | w
  · exact Or.inr ⟨w.1, w.2.1, w.2.2.1⟩
  · exact Or.inl w.1
theorem sp_X10_mayMeetJ (d : Nat) (hd : 5 ≤ d) (xs : List (Nat × Nat)) (t dd rr : Nat) (σ : Sg) (a b P h N : Int) (kd nu len : Int → Int) (K W : Int → Int → Int) (hJ : JM σ P h N kd nu len K W) (ha : 0 ≤ a ∧ a < 8 * P) (hb : 0 ≤ b ∧ b < 8 * P) : ∃ σ', Ev d 75 [(87, 0), (0, a), (0, b)] (Wd xs t dd rr σ) (0, mayM σ N kd nu len K W a b) (Wd xs t dd rr σ') ∧ Fk σ σ' := by
  obtain ⟨h0, h1, h2, h3, h4, h5, h6, h7, h8, h9⟩ := hJ
  obtain ⟨s, hev, hF⟩ := sp_X10_mayMeet d hd xs t dd rr σ a b P h1.2 h2 ⟨ha.1, by omega⟩ ⟨hb.1, by omega⟩ (fun k k0 k1 => h4 _ (by omega) (by omega)) (fun k k0 k1 => h4 _ (by omega) (by omega)) (h3 a ha.1 ha.2) (h3 b hb.1 hb.2) h5 h6 h N kd nu len K W h7 h8 h9
  exact ⟨s, hev, hF.tr (r2 := []) (s2 := []) Fr.rf rfl rfl⟩
theorem sp_X10_doubtsJ (d : Nat) (hd : 5 ≤ d) (xs : List (Nat × Nat)) (t dd rr : Nat) (σ : Sg) (a b P h N : Int) (kd nu len : Int → Int) (K W : Int → Int → Int) (hJ : JM σ P h N kd nu len K W) (ha : 0 ≤ a ∧ a < 8 * P) (hb : 0 ≤ b ∧ b < 8 * P) (hsm : σ 99 a = 0 ∧ σ 99 b = 1 ∨ σ 99 a = 1 ∧ σ 99 b = 0 ∨ σ 99 a = 3 ∧ σ 99 b = 3) : ∃ σ', Ev d 76 [(87, 0), (0, a), (0, b)] (Wd xs t dd rr σ) (0, dbM σ N kd nu len K W a b) (Wd xs t dd rr σ') ∧ Fk σ σ' := by
  obtain ⟨h0, h1, h2, h3, h4, h5, h6, h7, h8, h9⟩ := hJ
  obtain ⟨s, hev, hF⟩ := sp_X10_doubts d hd xs t dd rr σ a b P h1.2 h2 ⟨ha.1, by omega⟩ ⟨hb.1, by omega⟩ (fun k k0 k1 => h4 _ (by omega) (by omega)) (fun k k0 k1 => h4 _ (by omega) (by omega)) (h3 a ha.1 ha.2) (h3 b hb.1 hb.2) hsm h N kd nu len K W h7 h8 h9
  exact ⟨s, hev, hF.tr (r2 := []) (s2 := []) Fr.rf rfl rfl⟩
theorem sp_X10_measuresJ (d : Nat) (hd : 2 ≤ d) (xs : List (Nat × Nat)) (t dd rr : Nat) (σ : Sg) (a b P h N : Int) (kd nu len : Int → Int) (K W : Int → Int → Int) (hJ : JM σ P h N kd nu len K W) (ha : 0 ≤ a ∧ a < 8 * P) (hb : 0 ≤ b ∧ b < 8 * P) : ∃ σ', Ev d 72 [(87, 0), (0, a), (0, b)] (Wd xs t dd rr σ) (8, 0) (Wd xs t dd rr σ') ∧ Fk σ σ' ∧ σ' 71 41 = fitM σ a b / 8 ∧ σ' 71 42 = fitM σ a b % 8 ∧ σ' 71 0 = σ 71 0 := by
  obtain ⟨h0, h1, h2, h3, h4, h5, h6, h7, h8, h9⟩ := hJ
  obtain ⟨s, hev, hF, e1, e2⟩ := sp_X10_measures d hd xs t dd rr σ a b ⟨ha.1, by omega⟩ ⟨hb.1, by omega⟩ (fun k k0 k1 => h4 _ (by omega) (by omega)) (fun k k0 k1 => h4 _ (by omega) (by omega)) (h3 a ha.1 ha.2) (h3 b hb.1 hb.2)
  exact ⟨s, hev, hF.tr (r2 := []) (s2 := []) Fr.rf rfl rfl, e1, e2, hF.at 71 0 rfl⟩

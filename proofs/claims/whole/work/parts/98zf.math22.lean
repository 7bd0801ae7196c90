-- the reference's reading of a line, against the pure one
def nmF (σ : Sg) (k : Int) : Int := σ 82 (8 * σ 71 11 + k)
def tkM (σ : Sg) (j : Int) : Int := if σ 73 j = 0 then 0 else if σ 73 j = 2 then 2 else if σ 73 j = 3 then σ 75 j else if σ 73 j = 1 then (if fnd (σ 76) (σ 75 j) 20 = -1 then 3 else if fnd (σ 76) (σ 75 j) 20 < 8 then 128 + fnd (σ 76) (σ 75 j) 20 else 4) else 1
def twM (σ : Sg) (j : Int) : Int := if σ 73 j = 2 then σ 75 j else if σ 73 j = 1 then (if fnd (σ 76) (σ 75 j) 20 = -1 then idx (nmF σ) (σ 81 (σ 71 11)) (σ 75 j) else if fnd (σ 76) (σ 75 j) 20 < 8 then 0 else fnd (σ 76) (σ 75 j) 20 - 8) else 0
/-- the tokens that were cut, m of them -/
def TR (σ : Sg) (m : Int) : Prop := (0 ≤ m ∧ m ≤ 1000) ∧ σ 73 m = 0 ∧ (∀ j, 0 ≤ j → j ≤ m → (0 ≤ σ 73 j ∧ σ 73 j ≤ 4) ∧ (0 ≤ σ 74 j ∧ σ 74 j ≤ 1000) ∧ (σ 73 j = 3 → isG (σ 75 j) = 1) ∧ (σ 73 j = 2 → 0 ≤ σ 75 j ∧ σ 75 j ≤ 9999)) ∧ (∀ a b, 0 ≤ a → a < b → b < 20 → σ 76 a ≠ σ 76 b) ∧ (σ 71 11 = 0 ∨ σ 71 11 = 1) ∧ 0 ≤ σ 81 (σ 71 11) ∧ σ 81 (σ 71 11) ≤ 8
def GR (s s' : Sg) : Prop := s 71 7 ≤ s' 71 7 ∧ s 71 18 ≤ s' 71 18 ∧ s' 71 18 - s 71 18 ≤ s' 71 7 - s 71 7
theorem GR.rf {s : Sg} : GR s s := ⟨Int.le_refl _, Int.le_refl _, by omega⟩
theorem GR.tr {a b c : Sg} (h : GR a b) (k : GR b c) : GR a c := ⟨by have := h.1; have := k.1; omega, by have := h.2.1; have := k.2.1; omega, by have := h.2.2; have := k.2.2; omega⟩
def Fp (σ s : Sg) : Prop := Fr [83, 84] [(71, 7), (71, 8), (71, 18)] σ s
def RP (s σ : Sg) (m c0 : Int) (S : PSt) : Prop := Fp σ s ∧ s 71 8 = S.2.1 ∧ 0 ≤ S.2.1 ∧ (0 ≤ s 71 7 ∧ s 71 7 ≤ m) ∧ (0 ≤ c0 ∧ c0 ≤ s 71 18 ∧ s 71 18 ≤ s 71 7) ∧ (∀ x, x < 1100 * σ 71 11 + c0 ∨ 1100 * (σ 71 11 + 1) ≤ x → s 83 x = σ 83 x ∧ s 84 x = σ 84 x) ∧ (S.2.1 = 0 → s 71 7 = S.1 ∧ s 71 18 = c0 + S.2.2.1 ∧ ∀ q, 0 ≤ q → q < S.2.2.1 → s 83 (1100 * σ 71 11 + c0 + q) = opOf (S.2.2.2.1 q) ∧ s 84 (1100 * σ 71 11 + c0 + q) = S.2.2.2.2 q)
theorem sg_tk {s σ : Sg} {m c0 ch : Int} {S : PSt} (hT : TR σ m) (h : RP s σ m c0 S) (hc : isG ch = 1) : sgM s ch = 1 ∧ S.2.1 = 0 ∧ tkM σ S.1 = ch ∨ sgM s ch = 0 ∧ ¬ (S.2.1 = 0 ∧ tkM σ S.1 = ch) := by
  obtain ⟨hF, h8, h80, h7, h18, hx, hok⟩ := h
  have hcb : 40 ≤ ch ∧ ch ≤ 61 := by unfold isG b2i at hc; split at hc <;> omega
  have e : sgM s ch = 1 ∧ (s 71 8 = 0 ∧ s 73 (s 71 7) = 3 ∧ s 75 (s 71 7) = ch) ∨ sgM s ch = 0 ∧ ¬ (s 71 8 = 0 ∧ s 73 (s 71 7) = 3 ∧ s 75 (s 71 7) = ch) := b2i_or
  rw [hF.fn 73 rfl, hF.fn 75 rfl] at e
  by_cases q : S.2.1 = 0
  · have hi := (hok q).1
    rw [hi] at e
    have ht := hT.2.2.1 S.1 (by omega) (by omega)
    have hk : tkM σ S.1 = ch ↔ σ 73 S.1 = 3 ∧ σ 75 S.1 = ch := by
      unfold tkM
      by_cases a : σ 73 S.1 = 0
      · rw [if_pos a]; omega
      · rw [if_neg a]
        by_cases b : σ 73 S.1 = 2
        · rw [if_pos b]; omega
        · rw [if_neg b]
          by_cases d : σ 73 S.1 = 3
          · rw [if_pos d]; omega
          · rw [if_neg d]
            by_cases f : σ 73 S.1 = 1
            · rw [if_pos f]
              have hf := fnd_bd (r := σ 76) (v := σ 75 S.1) (n := 20) (by omega)
              split
              · omega
              · split <;> omega
            · rw [if_neg f]; omega
    rcases e with w | w
    · exact Or.inl ⟨w.1, q, hk.mpr w.2.2⟩
    · refine Or.inr ⟨w.1, fun z => w.2 ⟨by omega, hk.mp z.2⟩⟩
  · rcases e with w | w
    · omega
    · exact Or.inr ⟨w.1, fun z => q z.1⟩
theorem fnd_at {r : Int → Int} {n w : Int} (hd : ∀ a b, 0 ≤ a → a < b → b < n → r a ≠ r b) (h0 : 0 ≤ w) (h1 : w < n) : fnd r (r w) n = w := by
  rcases fnd_bd (r := r) (v := r w) (n := n) (by omega) with q | q
  · exact absurd rfl (q.2 w h0 h1)
  · rcases Int.lt_trichotomy (fnd r (r w) n) w with z | z | z
    · exact absurd q.2.2.1 (hd _ _ q.1 z h1)
    · exact z
    · exact absurd rfl (q.2.2.2 w h0 z)
theorem wo_tk {s σ : Sg} {m c0 w : Int} {S : PSt} (hT : TR σ m) (h : RP s σ m c0 S) (hw : 0 ≤ w ∧ w < 8) : woM s w = 1 ∧ S.2.1 = 0 ∧ tkM σ S.1 = 128 + w ∨ woM s w = 0 ∧ ¬ (S.2.1 = 0 ∧ tkM σ S.1 = 128 + w) := by
  obtain ⟨hF, h8, h80, h7, h18, hx, hok⟩ := h
  have e : woM s w = 1 ∧ (s 71 8 = 0 ∧ s 73 (s 71 7) = 1 ∧ s 75 (s 71 7) = s 76 w) ∨ woM s w = 0 ∧ ¬ (s 71 8 = 0 ∧ s 73 (s 71 7) = 1 ∧ s 75 (s 71 7) = s 76 w) := b2i_or
  rw [hF.fn 73 rfl, hF.fn 75 rfl, hF.fn 76 rfl] at e
  by_cases q : S.2.1 = 0
  · have hi := (hok q).1
    rw [hi] at e
    have ht := hT.2.2.1 S.1 (by omega) (by omega)
    have hk : tkM σ S.1 = 128 + w ↔ σ 73 S.1 = 1 ∧ σ 75 S.1 = σ 76 w := by
      unfold tkM
      by_cases a : σ 73 S.1 = 0
      · rw [if_pos a]; omega
      · rw [if_neg a]
        by_cases b : σ 73 S.1 = 2
        · rw [if_pos b]; omega
        · rw [if_neg b]
          by_cases d : σ 73 S.1 = 3
          · rw [if_pos d]
            have hg := ht.2.2.1 d
            unfold isG b2i at hg
            split at hg <;> omega
          · rw [if_neg d]
            by_cases f : σ 73 S.1 = 1
            · rw [if_pos f]
              have hf := fnd_bd (r := σ 76) (v := σ 75 S.1) (n := 20) (by omega)
              constructor
              · intro z
                have hz : fnd (σ 76) (σ 75 S.1) 20 = w := by
                  split at z
                  · omega
                  · split at z <;> omega
                refine ⟨f, ?_⟩
                rcases hf with y | y
                · omega
                · rw [hz] at y; exact y.2.2.1.symm
              · intro z
                rw [z.2, fnd_at hT.2.2.2.1 hw.1 (by omega), if_neg (by omega), if_pos (by omega)]
            · rw [if_neg f]; omega
    rcases e with y | y
    · exact Or.inl ⟨y.1, q, hk.mpr y.2.2⟩
    · refine Or.inr ⟨y.1, fun z => y.2 ⟨by omega, hk.mp z.2⟩⟩
  · rcases e with y | y
    · omega
    · exact Or.inr ⟨y.1, fun z => q z.1⟩
/-- one token more was taken -/
theorem RP_ad {s s' σ : Sg} {m c0 : Int} {S : PSt} (hT : TR σ m) (h : RP s σ m c0 S) (hf : S.2.1 = 0) (hk : tkM σ S.1 ≠ 0) (hF : Fr [] [(71, 7)] s s') (h7 : s' 71 7 = s 71 7 + 1) : RP s' σ m c0 (pAd S) ∧ GR s s' := by
  obtain ⟨a1, a2, a3, a4, a5, a6, a7⟩ := h
  have ha := a7 hf
  have hne : S.1 ≠ m := fun z => hk (by rw [z]; unfold tkM; rw [if_pos hT.2.1])
  refine ⟨⟨a1.tr hF rfl rfl, by rw [hF.at 71 8 rfl]; exact a2, a3, by omega, by rw [hF.at 71 18 rfl]; omega, fun x hx => by rw [hF.row 83 rfl, hF.row 84 rfl]; exact a6 x hx, fun _ => ⟨by rw [h7, ha.1]; rfl, by rw [hF.at 71 18 rfl]; exact ha.2.1, fun q q0 q1 => by rw [hF.row 83 rfl, hF.row 84 rfl]; exact ha.2.2 q q0 q1⟩⟩, by omega, by rw [hF.at 71 18 rfl]; omega, by rw [hF.at 71 18 rfl]; omega⟩
/-- nothing was taken -/
theorem RP_no {s s' σ : Sg} {m c0 : Int} {S : PSt} (h : RP s σ m c0 S) (hF : Fr [] [(71, 7)] s s') (h7 : s' 71 7 = s 71 7) : RP s' σ m c0 S ∧ GR s s' := by
  obtain ⟨a1, a2, a3, a4, a5, a6, a7⟩ := h
  refine ⟨⟨a1.tr hF rfl rfl, by rw [hF.at 71 8 rfl]; exact a2, a3, by omega, by rw [hF.at 71 18 rfl]; omega, fun x hx => by rw [hF.row 83 rfl, hF.row 84 rfl]; exact a6 x hx, fun z => ?_⟩, by omega, by rw [hF.at 71 18 rfl]; omega, by rw [hF.at 71 18 rfl]; omega⟩
  have ha := a7 z
  exact ⟨by rw [h7]; exact ha.1, by rw [hF.at 71 18 rfl]; exact ha.2.1, fun q q0 q1 => by rw [hF.row 83 rfl, hF.row 84 rfl]; exact ha.2.2 q q0 q1⟩
/-- a step was written, with a token of its own -/
theorem RP_em {s s' σ : Sg} {m c0 k w a b : Int} {S : PSt} (hT : TR σ m) (h : RP s σ m c0 S) (hroom : s 71 18 + 1 ≤ s 71 7) (hF : Fr [83, 84] [(71, 18)] s s') (h18 : s' 71 18 = s 71 18 + 1) (h83 : ∀ x, s' 83 x = if x = 1100 * s 71 11 + s 71 18 then a else s 83 x) (h84 : ∀ x, s' 84 x = if x = 1100 * s 71 11 + s 71 18 then b else s 84 x) (ha : S.2.1 = 0 → a = opOf k ∧ b = w) : RP s' σ m c0 (if S.2.1 = 0 then pEm k w S else S) := by
  obtain ⟨a1, a2, a3, a4, a5, a6, a7⟩ := h
  have e11 : s 71 11 = σ 71 11 := a1.at 71 11 rfl
  rw [e11] at h83 h84
  have hm := hT.1
  have hnx := hT.2.2.2.2.1
  have hfr : Fp σ s' := a1.tr hF rfl rfl
  have hout : ∀ x, x < 1100 * σ 71 11 + c0 ∨ 1100 * (σ 71 11 + 1) ≤ x → s' 83 x = σ 83 x ∧ s' 84 x = σ 84 x := fun x hx => by
    rw [h83, h84, if_neg (by omega), if_neg (by omega)]; exact a6 x hx
  by_cases q : S.2.1 = 0
  · rw [if_pos q]
    obtain ⟨b1, b2, b3⟩ := a7 q
    obtain ⟨c1, c2⟩ := ha q
    refine ⟨hfr, by rw [hF.at 71 8 rfl]; exact a2, a3, by rw [hF.at 71 7 rfl]; exact a4, by rw [hF.at 71 7 rfl]; omega, hout, fun _ => ⟨by rw [hF.at 71 7 rfl]; exact b1, by rw [h18, b2]; show c0 + S.2.2.1 + 1 = c0 + (S.2.2.1 + 1); omega, fun y y0 y1 => ?_⟩⟩
    have y1 : y < S.2.2.1 + 1 := y1
    show s' 83 (1100 * σ 71 11 + c0 + y) = opOf (fup S.2.2.2.1 S.2.2.1 k y) ∧ s' 84 (1100 * σ 71 11 + c0 + y) = fup S.2.2.2.2 S.2.2.1 w y
    by_cases z : y = S.2.2.1
    · rw [h83, h84, if_pos (by omega), if_pos (by omega), z, fup_s, fup_s]; exact ⟨c1, c2⟩
    · rw [h83, h84, if_neg (by omega), if_neg (by omega), fup_o z, fup_o z]; exact b3 y y0 (by omega)
  · rw [if_neg q]
    exact ⟨hfr, by rw [hF.at 71 8 rfl]; exact a2, a3, by rw [hF.at 71 7 rfl]; exact a4, by rw [hF.at 71 7 rfl]; omega, hout, fun z => absurd z q⟩
/-- what is wrong is told once -/
theorem RP_er {s s' σ : Sg} {m c0 c : Int} {S : PSt} (hT : TR σ m) (h : RP s σ m c0 S) (hc : 1 ≤ c) (hF : Fr [] [(71, 8)] s s') (h8 : s' 71 8 = if s 71 8 = 0 then c + 16 * s 74 (s 71 7) else s 71 8) : RP s' σ m c0 (if S.2.1 = 0 then pEr (σ 74) c S else S) ∧ GR s s' := by
  obtain ⟨a1, a2, a3, a4, a5, a6, a7⟩ := h
  have hp := (hT.2.2.1 (s 71 7) a4.1 a4.2).2.1
  rw [a1.row 74 rfl, a2] at h8
  refine ⟨?_, by rw [hF.at 71 7 rfl]; omega, by rw [hF.at 71 18 rfl]; omega, by rw [hF.at 71 7 rfl, hF.at 71 18 rfl]; omega⟩
  have h7 := hF.at 71 7 rfl
  have h18 := hF.at 71 18 rfl
  by_cases q : S.2.1 = 0
  · rw [if_pos q] at h8 ⊢
    have b1 := (a7 q).1
    refine ⟨a1.tr hF rfl rfl, by rw [h8, b1]; rfl, by show 0 ≤ c + 16 * σ 74 S.1; rw [← b1]; omega, by omega, by omega, fun x hx => by rw [hF.row 83 rfl, hF.row 84 rfl]; exact a6 x hx, fun z => ?_⟩
    have z : c + 16 * σ 74 S.1 = 0 := z
    rw [← b1] at z
    omega
  · rw [if_neg q] at h8 ⊢
    exact ⟨a1.tr hF rfl rfl, h8, a3, by omega, by omega, fun x hx => by rw [hF.row 83 rfl, hF.row 84 rfl]; exact a6 x hx, fun z => absurd z q⟩
/-- a method that reads as F does -/
def MSp (μ D : Nat) (F : PSt → PSt) (dep : Int) (σ : Sg) (m c0 : Int) : Prop := ∀ d, D ≤ d → ∀ (xs : List (Nat × Nat)) (t dd rr : Nat) (s : Sg) (S : PSt), RP s σ m c0 S → ∃ s', Ev d μ [(87, 0), (0, dep)] (Wd xs t dd rr s) (8, 0) (Wd xs t dd rr s') ∧ RP s' σ m c0 (F S) ∧ GR s s'

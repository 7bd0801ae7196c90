-- what is written of a line is sound: the stack never lacks, never overflows, and one is left
theorem hgt_c {K K' : Int → Int} {n : Int} (h : ∀ i, 0 ≤ i → i < n → K i = K' i) : hgt K n = hgt K' n := foldZ_congr (fun i i0 i1 x => by rw [h i i0 i1])
/-- the steps so far are sound, and h are on the stack -/
def PO (M : Int) (s : PSt) (h : Int) : Prop := 0 ≤ s.2.2.1 ∧ (∀ i, 0 ≤ i → i < s.2.2.1 → (okst (s.2.2.2.1 i) (s.2.2.2.2 i) (hgt s.2.2.2.1 i) ∧ hgt s.2.2.2.1 i ≤ 32) ∧ (s.2.2.2.1 i = 3 → 0 ≤ s.2.2.2.2 i ∧ s.2.2.2.2 i < M)) ∧ hgt s.2.2.2.1 s.2.2.1 = h
theorem PO_ad {M h : Int} {s : PSt} (p : PO M s h) : PO M (pAd s) h := p
theorem PO_em {M h k w : Int} {s : PSt} (p : PO M s h) (ho : okst k w h) (h32 : h ≤ 32) (hM : k = 3 → 0 ≤ w ∧ w < M) : PO M (pEm k w s) (if k = 135 then h else if k = 2 ∨ k = 3 ∨ k = 4 then h + 1 else h - 1) := by
  obtain ⟨p0, p1, p2⟩ := p
  have hc : ∀ n, n ≤ s.2.2.1 → hgt (fup s.2.2.2.1 s.2.2.1 k) n = hgt s.2.2.2.1 n := fun n hn => hgt_c (fun i i0 i1 => fup_o (by omega))
  refine ⟨by show 0 ≤ s.2.2.1 + 1; omega, fun i i0 i1 => ?_, ?_⟩
  · have i1 : i < s.2.2.1 + 1 := i1
    show (okst (fup s.2.2.2.1 s.2.2.1 k i) (fup s.2.2.2.2 s.2.2.1 w i) (hgt (fup s.2.2.2.1 s.2.2.1 k) i) ∧ hgt (fup s.2.2.2.1 s.2.2.1 k) i ≤ 32) ∧ (fup s.2.2.2.1 s.2.2.1 k i = 3 → 0 ≤ fup s.2.2.2.2 s.2.2.1 w i ∧ fup s.2.2.2.2 s.2.2.1 w i < M)
    rw [hc i (by omega)]
    by_cases q : i = s.2.2.1
    · rw [q, fup_s, fup_s, p2]; exact ⟨⟨ho, h32⟩, hM⟩
    · rw [fup_o q, fup_o q]; exact p1 i i0 (by omega)
  · show hgt (fup s.2.2.2.1 s.2.2.1 k) (s.2.2.1 + 1) = _
    rw [hgt_s p0, fup_s, hc _ (Int.le_refl _), p2]
/-- a reader whose steps leave one more, and need b above -/
def HK (M : Int) (F : PSt → PSt) (b : Int) : Prop := ∀ (s : PSt) (h : Int), s.2.1 = 0 → PO M s h → 0 ≤ h → h + b ≤ 32 → (F s).2.1 = 0 → PO M (F s) (h + 1)
theorem lvo_bin {k lv : Int} (h : lvo k = lv) (hl : 0 ≤ lv) : isBin k := by
  unfold lvo at h
  unfold isBin
  split at h
  · omega
  · split at h
    · omega
    · split at h
      · omega
      · split at h <;> omega
theorem lps_h {M lv b : Int} {tk : Int → Int} {nx : PSt → PSt} (hn : HK M nx b) (hl : 0 ≤ lv) (hb : 0 ≤ b) : ∀ (n : Nat) (s : PSt) (h : Int), PO M s (h + 1) → 0 ≤ h → h + 1 + b ≤ 32 → 1 ≤ b → (lps tk nx lv n s).2.1 = 0 → PO M (lps tk nx lv n s) (h + 1) := by
  intro n
  induction n with
  | zero => intro s h p _ _ _ _; exact p
  | succ n ih =>
    intro s h p h0 h1 b1 hf
    by_cases q : s.2.1 = 0 ∧ lvo (tk s.1) = lv
    · rw [lps_st q] at hf ⊢
      by_cases z : (nx (pAd s)).2.1 = 0
      · rw [if_pos z] at hf ⊢
        have p2 := hn (pAd s) (h + 1) q.1 p (by omega) (by omega) z
        have hbin := lvo_bin q.2 hl
        have p3 := PO_em (k := tk s.1) (w := 0) p2 (Or.inr (Or.inr ⟨hbin, by omega⟩)) (by omega) (fun w => by unfold isBin at hbin; omega)
        rw [if_neg (by unfold isBin at hbin; omega), if_neg (by unfold isBin at hbin; omega), show h + 1 + 1 - 1 = h + 1 by omega] at p3
        exact ih _ h p3 h0 h1 b1 hf
      · rw [if_neg z] at hf ⊢
        rw [lps_f z] at hf
        exact absurd hf z
    · rw [lps_n q]; exact p
theorem lp_h {M lv b : Int} {tk : Int → Int} {nx F : PSt → PSt} {n : Nat} (hF : HK M F b) (hn : HK M nx b) (hl : 0 ≤ lv) (hb : 1 ≤ b) : HK M (fun s => lps tk nx lv n (F s)) (b + 1) := by
  intro s h hf p h0 h1 hz
  have hz : (lps tk nx lv n (F s)).2.1 = 0 := hz
  have hFf : (F s).2.1 = 0 := by
    by_cases q : (F s).2.1 = 0
    · exact q
    · rw [lps_f q] at hz; exact hz
  exact lps_h hn hl (by omega) n (F s) h (hF s h hf p h0 (by omega) hFf) h0 (by omega) hb hz
theorem HK_w {M b b' : Int} {F : PSt → PSt} (h : HK M F b) (hb : b ≤ b') : HK M F b' := fun s k hf p h0 h1 hz => h s k hf p h0 (by omega) hz
theorem ch0_h {M b : Int} {tk : Int → Int} {P : PSt → PSt} (hP : HK M P b) (hb : 1 ≤ b) : HK M (ch0 tk P) (b + 4) := by
  have h3 : HK M (ch3 tk P) (b + 1) := lp_h hP hP (by omega) hb
  have h2 : HK M (ch2 tk P) (b + 1 + 1) := lp_h h3 h3 (by omega) (by omega)
  have h1 : HK M (ch1 tk P) (b + 1 + 1 + 1) := lp_h h2 h2 (by omega) (by omega)
  have h0 : HK M (ch0 tk P) (b + 1 + 1 + 1 + 1) := lp_h h1 h1 (by omega) (by omega)
  exact HK_w h0 (by omega)
theorem prt_h {M : Int} {tk tw pl : Int → Int} (hM : M ≤ 8) (hpl : ∀ i, 0 ≤ pl i) (hw : ∀ i, (tk i = 3 → tw i = -1 ∨ 0 ≤ tw i ∧ tw i < M) ∧ (tk i = 4 → 0 ≤ tw i ∧ tw i < 12)) : ∀ e : Nat, HK M (prt tk tw pl e) (4 * e + 1) := by
  intro e
  induction e with
  | zero =>
    intro s h hf p h0 h1 hz
    exfalso
    have hp := hpl s.1
    have hb : pBd tk tw s.1 = 0 ∨ pBd tk tw s.1 = 1 ∨ pBd tk tw s.1 = 2 := by unfold pBd; split <;> (try split) <;> omega
    unfold prt at hz
    rw [if_neg (by omega)] at hz
    split at hz
    · have hz : pBd tk tw s.1 + 16 * pl s.1 = 0 := hz
      omega
    · have hz : 5 + 16 * pl s.1 = 0 := hz
      omega
  | succ e ih =>
    intro s h hf p h0 h1 hz
    have hp := hpl s.1
    have hws := hw s.1
    have hb : pBd tk tw s.1 = 0 ∨ pBd tk tw s.1 = 1 ∨ pBd tk tw s.1 = 2 := by unfold pBd; split <;> (try split) <;> omega
    have hb0 : pBd tk tw s.1 = 0 → (tk s.1 = 2 ∨ tk s.1 = 3 ∨ tk s.1 = 4 ∨ tk s.1 = 135 ∨ tk s.1 = 40) ∧ ¬ (tk s.1 = 3 ∧ tw s.1 = -1) := fun q => by
      unfold pBd at q
      split at q
      · omega
      · split at q <;> omega
    unfold prt at hz ⊢
    rw [if_neg (by omega)] at hz ⊢
    by_cases b : pBd tk tw s.1 ≠ 0
    · rw [if_pos b] at hz
      have hz : pBd tk tw s.1 + 16 * pl s.1 = 0 := hz
      omega
    · rw [if_neg b] at hz ⊢
      have hk := hb0 (by omega)
      by_cases c : tk s.1 = 135
      · rw [if_pos c] at hz ⊢
        by_cases z : (prt tk tw pl e (pAd s)).2.1 = 0
        · rw [if_pos z] at hz ⊢
          have p2 := ih (pAd s) h hf (PO_ad p) h0 (by omega) z
          have p3 := PO_em (k := 135) (w := 0) p2 (Or.inl ⟨rfl, by omega⟩) (by omega) (fun w => by omega)
          rw [if_pos rfl] at p3
          exact p3
        · rw [if_neg z] at hz; exact absurd hz z
      · rw [if_neg c] at hz ⊢
        by_cases c2 : tk s.1 = 40
        · rw [if_pos c2] at hz ⊢
          have hch := ch0_h (tk := tk) ih (by omega)
          by_cases y : (ch0 tk (prt tk tw pl e) (pAd s)).2.1 ≠ 0
          · rw [if_pos y] at hz; exact absurd hz y
          · rw [if_neg y] at hz ⊢
            have p2 := hch (pAd s) h hf (PO_ad p) h0 (by omega) (by omega)
            by_cases x : tk (ch0 tk (prt tk tw pl e) (pAd s)).1 = 41
            · rw [if_pos x]; exact PO_ad p2
            · rw [if_neg x] at hz
              have hz : 1 + 16 * pl (ch0 tk (prt tk tw pl e) (pAd s)).1 = 0 := hz
              have := hpl (ch0 tk (prt tk tw pl e) (pAd s)).1
              omega
        · rw [if_neg c2]
          have p3 := PO_em (k := tk s.1) (w := tw s.1) (PO_ad p) (Or.inr (Or.inl ⟨by omega, by omega, by omega⟩)) (by omega) (fun w => by omega)
          rw [if_neg c, if_pos (by omega)] at p3
          exact p3
theorem WF_of {M : Int} {s : PSt} (p : PO M s 1) : WF s.2.2.2.1 s.2.2.2.2 s.2.2.1 := ⟨fun i i0 i1 => (p.2.1 i i0 i1).1, p.2.2⟩

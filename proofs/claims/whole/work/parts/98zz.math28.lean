-- the reading depends on the tokens that are there alone
def AGr (m : Int) (F G : PSt → PSt) : Prop := ∀ s : PSt, 0 ≤ s.1 → s.1 ≤ m → F s = G s
theorem lps_c {tk tk' : Int → Int} {nx nx' : PSt → PSt} {lv m : Int} (ht : ∀ j, 0 ≤ j → j ≤ m → tk j = tk' j) (hm : tk m = 0) (hlv : 0 ≤ lv) (hk : PK nx m) (h : AGr m nx nx') : ∀ n : Nat, AGr m (lps tk nx lv n) (lps tk' nx' lv n) := by
  intro n
  induction n with
  | zero => intro s _ _; rfl
  | succ n ih =>
    intro s h0 h1
    unfold lps
    rw [← ht s.1 h0 h1]
    by_cases q : s.2.1 = 0 ∧ lvo (tk s.1) = lv
    · have hlt : s.1 < m := by
        by_cases z : s.1 = m
        · have := q.2; rw [z, lvo_0 hm] at this; omega
        · omega
      rw [if_pos q, if_pos q, ← h (pAd s) (show 0 ≤ s.1 + 1 by omega) (show s.1 + 1 ≤ m by omega)]
      have ha := (hk (pAd s)).2 q.1 (show 0 ≤ s.1 + 1 by omega) (show s.1 + 1 ≤ m by omega)
      have e1 : (pAd s).1 = s.1 + 1 := rfl
      by_cases z : (nx (pAd s)).2.1 = 0
      · rw [if_pos z, if_pos z]
        exact ih _ (show 0 ≤ (nx (pAd s)).1 by omega) (show (nx (pAd s)).1 ≤ m by omega)
      · rw [if_neg z, if_neg z]
    · rw [if_neg q, if_neg q]
theorem PK_c {nx nx' : PSt → PSt} {m : Int} (hk : PK nx m) (h : AGr m nx nx') (hf : ∀ s : PSt, s.2.1 ≠ 0 → nx' s = s) : PK nx' m := fun s => ⟨hf s, fun q h0 h1 => by rw [← h s h0 h1]; exact (hk s).2 q h0 h1⟩
theorem lp_c {tk tk' : Int → Int} {F F' nx nx' : PSt → PSt} {lv m : Int} {n : Nat} (ht : ∀ j, 0 ≤ j → j ≤ m → tk j = tk' j) (hm : tk m = 0) (hlv : 0 ≤ lv) (hkF : PK F m) (hF : AGr m F F') (hk : PK nx m) (h : AGr m nx nx') : AGr m (fun s => lps tk nx lv n (F s)) (fun s => lps tk' nx' lv n (F' s)) := by
  intro s h0 h1
  show lps tk nx lv n (F s) = lps tk' nx' lv n (F' s)
  rw [← hF s h0 h1]
  by_cases q : s.2.1 = 0
  · have ha := (hkF s).2 q h0 h1
    exact lps_c ht hm hlv hk h n (F s) (by omega) ha.2.1
  · rw [(hkF s).1 q, lps_f q, lps_f q]
theorem ch0_c {tk tk' : Int → Int} {P P' : PSt → PSt} {m : Int} (ht : ∀ j, 0 ≤ j → j ≤ m → tk j = tk' j) (hm : tk m = 0) (hk : PK P m) (h : AGr m P P') : AGr m (ch0 tk P) (ch0 tk' P') := by
  obtain ⟨k3, k2, k1, k0⟩ := ch0_k hk hm
  have h3 : AGr m (ch3 tk P) (ch3 tk' P') := lp_c ht hm (by omega) hk h hk h
  have h2 : AGr m (ch2 tk P) (ch2 tk' P') := lp_c ht hm (by omega) k3 h3 k3 h3
  have h1 : AGr m (ch1 tk P) (ch1 tk' P') := lp_c ht hm (by omega) k2 h2 k2 h2
  exact lp_c ht hm (by omega) k1 h1 k1 h1
theorem prt_c {tk tk' tw tw' pl pl' : Int → Int} {m : Int} (ht : ∀ j, 0 ≤ j → j ≤ m → tk j = tk' j ∧ tw j = tw' j ∧ pl j = pl' j) (hm : tk m = 0) (hpl : ∀ j, 0 ≤ j → j ≤ m → 0 ≤ pl j) : ∀ e : Nat, AGr m (prt tk tw pl e) (prt tk' tw' pl' e) := by
  have hb : ∀ i, 0 ≤ i → i ≤ m → pBd tk tw i = pBd tk' tw' i := fun i i0 i1 => by unfold pBd; rw [(ht i i0 i1).1, (ht i i0 i1).2.1]
  have hr : ∀ (c : Int) (s : PSt), 0 ≤ s.1 → s.1 ≤ m → pEr pl c s = pEr pl' c s := fun c s s0 s1 => by unfold pEr; rw [(ht s.1 s0 s1).2.2]
  intro e
  induction e with
  | zero =>
    intro s h0 h1
    unfold prt
    rw [← hb s.1 h0 h1, hr _ s h0 h1, hr _ s h0 h1]
  | succ e ih =>
    intro s h0 h1
    unfold prt
    rw [← hb s.1 h0 h1, hr _ s h0 h1, ← (ht s.1 h0 h1).1, ← (ht s.1 h0 h1).2.1]
    by_cases q : s.2.1 ≠ 0
    · rw [if_pos q, if_pos q]
    · rw [if_neg q, if_neg q]
      by_cases b : pBd tk tw s.1 ≠ 0
      · rw [if_pos b, if_pos b]
      · rw [if_neg b, if_neg b]
        have hlt : s.1 < m := by
          by_cases z : s.1 = m
          · exfalso; apply b; unfold pBd; rw [z, hm, if_pos (by omega)]; omega
          · omega
        have hk := prt_k (tw := tw) hm hpl e
        by_cases c : tk s.1 = 135
        · rw [if_pos c, if_pos c, ← ih (pAd s) (show 0 ≤ s.1 + 1 by omega) (show s.1 + 1 ≤ m by omega)]
        · rw [if_neg c, if_neg c]
          by_cases c2 : tk s.1 = 40
          · have hch := (ch0_k hk hm).2.2.2
            have ha := (hch (pAd s)).2 (by show s.2.1 = 0; omega) (show 0 ≤ s.1 + 1 by omega) (show s.1 + 1 ≤ m by omega)
            rw [if_pos c2, if_pos c2, ← ch0_c (fun j j0 j1 => (ht j j0 j1).1) hm hk ih (pAd s) (show 0 ≤ s.1 + 1 by omega) (show s.1 + 1 ≤ m by omega)]
            have e1 : (pAd s).1 = s.1 + 1 := rfl
            generalize ch0 tk (prt tk tw pl e) (pAd s) = u at *
            rw [(ht u.1 (by omega) ha.2.1).1, hr _ u (by omega) ha.2.1]
          · rw [if_neg c2, if_neg c2]
theorem tsg_c {tk tk' pl pl' : Int → Int} {ch m : Int} (ht : ∀ j, 0 ≤ j → j ≤ m → tk j = tk' j ∧ pl j = pl' j) : AGr m (tsg tk pl ch) (tsg tk' pl' ch) := by
  intro s h0 h1
  unfold tsg pEr
  rw [(ht s.1 h0 h1).1, (ht s.1 h0 h1).2]
theorem tnn_c {tk tk' tw tw' pl pl' : Int → Int} {M m : Int} (ht : ∀ j, 0 ≤ j → j ≤ m → tk j = tk' j ∧ tw j = tw' j ∧ pl j = pl' j) : AGr m (tnn tk tw pl M) (tnn tk' tw' pl' M) := by
  intro s h0 h1
  unfold tnn pEr
  rw [(ht s.1 h0 h1).1, (ht s.1 h0 h1).2.1, (ht s.1 h0 h1).2.2]
theorem tnm_c {tk tk' tw tw' pl pl' : Int → Int} {a b m : Int} (ht : ∀ j, 0 ≤ j → j ≤ m → tk j = tk' j ∧ tw j = tw' j ∧ pl j = pl' j) : AGr m (tnm tk tw pl a b) (tnm tk' tw' pl' a b) := by
  intro s h0 h1
  unfold tnm pEr
  rw [(ht s.1 h0 h1).1, (ht s.1 h0 h1).2.1, (ht s.1 h0 h1).2.2]
theorem tsg_m {tk pl : Int → Int} {ch m : Int} {s : PSt} (hm : tk m = 0) (hc : ch ≠ 0) (h0 : 0 ≤ s.1) (h1 : s.1 ≤ m) : 0 ≤ (tsg tk pl ch s).1 ∧ (tsg tk pl ch s).1 ≤ m := by
  unfold tsg
  split
  · exact ⟨h0, h1⟩
  · split
    · rename_i q
      have : s.1 ≠ m := fun z => by rw [z, hm] at q; exact hc q.symm
      show 0 ≤ s.1 + 1 ∧ s.1 + 1 ≤ m
      omega
    · exact ⟨h0, h1⟩
theorem tnn_m {tk tw pl : Int → Int} {M m : Int} {s : PSt} (hm : tk m = 0) (h0 : 0 ≤ s.1) (h1 : s.1 ≤ m) : 0 ≤ (tnn tk tw pl M s).1 ∧ (tnn tk tw pl M s).1 ≤ m := by
  unfold tnn
  split
  · exact ⟨h0, h1⟩
  · split
    · exact ⟨h0, h1⟩
    · split
      · exact ⟨h0, h1⟩
      · split
        · exact ⟨h0, h1⟩
        · rename_i q _ _
          have : s.1 ≠ m := fun z => by rw [z, hm] at q; omega
          show 0 ≤ s.1 + 1 ∧ s.1 + 1 ≤ m
          omega
theorem tnm_m {tk tw pl : Int → Int} {a b m : Int} {s : PSt} (hm : tk m = 0) (h0 : 0 ≤ s.1) (h1 : s.1 ≤ m) : 0 ≤ (tnm tk tw pl a b s).1 ∧ (tnm tk tw pl a b s).1 ≤ m := by
  unfold tnm
  split
  · exact ⟨h0, h1⟩
  · split
    · exact ⟨h0, h1⟩
    · split
      · exact ⟨h0, h1⟩
      · rename_i q _
        have : s.1 ≠ m := fun z => by rw [z, hm] at q; omega
        show 0 ≤ s.1 + 1 ∧ s.1 + 1 ≤ m
        omega
theorem hdS_c {tk tk' tw tw' pl pl' : Int → Int} {M k m : Int} (ht : ∀ j, 0 ≤ j → j ≤ m → tk j = tk' j ∧ tw j = tw' j ∧ pl j = pl' j) (hm : tk m = 0) (s : PSt) (h0 : 0 ≤ s.1) (h1 : s.1 ≤ m) : hdS tk tw pl M k s = hdS tk' tw' pl' M k s ∧ 0 ≤ (hdS tk tw pl M k s).1 ∧ (hdS tk tw pl M k s).1 ≤ m := by
  have ht2 : ∀ j, 0 ≤ j → j ≤ m → tk j = tk' j ∧ pl j = pl' j := fun j j0 j1 => ⟨(ht j j0 j1).1, (ht j j0 j1).2.2⟩
  unfold hdS
  by_cases q : k = 0
  · rw [if_pos q, if_pos q, ← tnn_c ht s h0 h1]
    have hr := tnn_m (tw := tw) (pl := pl) (M := M) hm h0 h1
    exact ⟨tsg_c ht2 _ hr.1 hr.2, tsg_m hm (by decide) hr.1 hr.2⟩
  · rw [if_neg q, if_neg q]
    by_cases q2 : k = 2
    · rw [if_pos q2, if_pos q2, ← tnm_c ht s h0 h1]
      have hr := tnm_m (tw := tw) (pl := pl) (a := 1) (b := 99) hm h0 h1
      exact ⟨tsg_c ht2 _ hr.1 hr.2, tsg_m hm (by decide) hr.1 hr.2⟩
    · rw [if_neg q2, if_neg q2]
      by_cases q3 : k = 3
      · rw [if_pos q3, if_pos q3, ← tnm_c ht s h0 h1]
        have hr := tnm_m (tw := tw) (pl := pl) (a := 0) (b := 7) hm h0 h1
        exact ⟨tsg_c ht2 _ hr.1 hr.2, tsg_m hm (by decide) hr.1 hr.2⟩
      · rw [if_neg q3, if_neg q3]
        exact ⟨tsg_c ht2 _ h0 h1, tsg_m hm (by decide) h0 h1⟩
theorem lnP_c {tk tk' tw tw' pl pl' : Int → Int} {N M m : Int} (ht : ∀ j, 0 ≤ j → j ≤ m → tk j = tk' j ∧ tw j = tw' j ∧ pl j = pl' j) (hm : tk m = 0) (hpl : ∀ j, 0 ≤ j → j ≤ m → 0 ≤ pl j) (s : PSt) (h0 : 0 ≤ s.1) (h1 : s.1 ≤ m) : lnP tk tw pl N M s = lnP tk' tw' pl' N M s := by
  have ht2 : ∀ j, 0 ≤ j → j ≤ m → tk j = tk' j ∧ pl j = pl' j := fun j j0 j1 => ⟨(ht j j0 j1).1, (ht j j0 j1).2.2⟩
  have hs := ht s.1 h0 h1
  unfold lnP
  rw [← hs.1]
  by_cases q : ¬ (128 ≤ tk s.1 ∧ tk s.1 ≤ 131)
  · rw [if_pos q, if_pos q]; unfold pEr; rw [hs.2.2]
  · rw [if_neg q, if_neg q]
    by_cases q2 : N = 24
    · rw [if_pos q2, if_pos q2]; unfold pEr; rw [hs.2.2]
    · rw [if_neg q2, if_neg q2]
      have hlt : s.1 ≠ m := fun z => by rw [z, hm] at q; omega
      obtain ⟨a1, a2, a3⟩ := hdS_c (M := M) (k := tk s.1 - 128) ht hm (pAd s) (show 0 ≤ s.1 + 1 by omega) (show s.1 + 1 ≤ m by omega)
      rw [← a1]
      generalize hdS tk tw pl M (tk s.1 - 128) (pAd s) = u at *
      have hk := prt_k (tw := tw) hm hpl 5
      rw [← ch0_c (fun j j0 j1 => (ht j j0 j1).1) hm hk (prt_c ht hm hpl 5) u a2 a3]
      have hch := (ch0_k hk hm).2.2.2
      by_cases z : u.2.1 = 0
      · have ha := (hch u).2 z a2 a3
        exact tsg_c ht2 _ (by omega) ha.2.1
      · rw [(hch u).1 z]
        exact tsg_c ht2 _ a2 a3

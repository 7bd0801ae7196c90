-- reading a line: tokens tk (kinds as the class has them), tw (worths), at places pl
abbrev PSt : Type := Int × Int × Int × (Int → Int) × (Int → Int)
def pEm (k w : Int) (s : PSt) : PSt := (s.1, s.2.1, s.2.2.1 + 1, fup s.2.2.2.1 s.2.2.1 k, fup s.2.2.2.2 s.2.2.1 w)
def pEr (pl : Int → Int) (c : Int) (s : PSt) : PSt := (s.1, c + 16 * pl s.1, s.2.2)
def pAd (s : PSt) : PSt := (s.1 + 1, s.2)
/-- the level of a sign that binds two -/
def lvo (k : Int) : Int := if k = 133 ∨ k = 134 then 0 else if k = 60 ∨ k = 61 then 1 else if k = 43 ∨ k = 45 then 2 else if k = 42 then 3 else -1
def lps (tk : Int → Int) (nx : PSt → PSt) (lv : Int) : Nat → PSt → PSt
  | 0, s => s
  | m + 1, s => if s.2.1 = 0 ∧ lvo (tk s.1) = lv then (if (nx (pAd s)).2.1 = 0 then lps tk nx lv m (pEm (tk s.1) 0 (nx (pAd s))) else nx (pAd s)) else s
def ch3 (tk : Int → Int) (P : PSt → PSt) (s : PSt) : PSt := lps tk P 3 1000 (P s)
def ch2 (tk : Int → Int) (P : PSt → PSt) (s : PSt) : PSt := lps tk (ch3 tk P) 2 1000 (ch3 tk P s)
def ch1 (tk : Int → Int) (P : PSt → PSt) (s : PSt) : PSt := lps tk (ch2 tk P) 1 1 (ch2 tk P s)
def ch0 (tk : Int → Int) (P : PSt → PSt) (s : PSt) : PSt := lps tk (ch1 tk P) 0 1000 (ch1 tk P s)
/-- what a part can't be: 1, or not told: 2 -/
def pBd (tk tw : Int → Int) (i : Int) : Int := if ¬ (tk i = 2 ∨ tk i = 3 ∨ tk i = 4) ∧ tk i ≠ 135 ∧ tk i ≠ 40 then 1 else if tk i = 3 ∧ tw i = -1 then 2 else 0
def prt (tk tw pl : Int → Int) : Nat → PSt → PSt
  | 0, s => if s.2.1 ≠ 0 then s else if pBd tk tw s.1 ≠ 0 then pEr pl (pBd tk tw s.1) s else pEr pl 5 s
  | e + 1, s => if s.2.1 ≠ 0 then s else if pBd tk tw s.1 ≠ 0 then pEr pl (pBd tk tw s.1) s else
      if tk s.1 = 135 then (if (prt tk tw pl e (pAd s)).2.1 = 0 then pEm 135 0 (prt tk tw pl e (pAd s)) else prt tk tw pl e (pAd s))
      else if tk s.1 = 40 then (if (ch0 tk (prt tk tw pl e) (pAd s)).2.1 ≠ 0 then ch0 tk (prt tk tw pl e) (pAd s) else if tk (ch0 tk (prt tk tw pl e) (pAd s)).1 = 41 then pAd (ch0 tk (prt tk tw pl e) (pAd s)) else pEr pl 1 (ch0 tk (prt tk tw pl e) (pAd s)))
      else pEm (tk s.1) (tw s.1) (pAd s)
/-- a step that reads: it takes tokens, and no more steps are written than tokens taken; a fault stays -/
def PK (F : PSt → PSt) (m : Int) : Prop := ∀ s : PSt, (s.2.1 ≠ 0 → F s = s) ∧ (s.2.1 = 0 → 0 ≤ s.1 → s.1 ≤ m → s.1 ≤ (F s).1 ∧ (F s).1 ≤ m ∧ s.2.2.1 ≤ (F s).2.2.1 ∧ (F s).2.2.1 - s.2.2.1 ≤ (F s).1 - s.1 ∧ ((F s).2.1 = 0 → s.1 < (F s).1))
theorem lps_f {tk : Int → Int} {nx : PSt → PSt} {lv : Int} {s : PSt} (h : s.2.1 ≠ 0) : ∀ n, lps tk nx lv n s = s := by
  intro n
  cases n with
  | zero => rfl
  | succ n => unfold lps; rw [if_neg (fun w => h w.1)]
theorem lps_n {tk : Int → Int} {nx : PSt → PSt} {lv : Int} {s : PSt} (h : ¬ (s.2.1 = 0 ∧ lvo (tk s.1) = lv)) : ∀ n, lps tk nx lv n s = s := by
  intro n
  cases n with
  | zero => rfl
  | succ n => unfold lps; rw [if_neg h]
theorem lvo_0 {k : Int} (h : k = 0) : lvo k = -1 := by rw [h]; rfl
theorem lps_k {tk : Int → Int} {nx : PSt → PSt} {lv m : Int} (hk : PK nx m) (hm : tk m = 0) (hlv : 0 ≤ lv) : ∀ (n : Nat) (s : PSt), 0 ≤ s.1 → s.1 ≤ m → s.1 ≤ (lps tk nx lv n s).1 ∧ (lps tk nx lv n s).1 ≤ m ∧ s.2.2.1 ≤ (lps tk nx lv n s).2.2.1 ∧ (lps tk nx lv n s).2.2.1 - s.2.2.1 ≤ (lps tk nx lv n s).1 - s.1 := by
  intro n
  induction n with
  | zero => intro s h0 h1; exact ⟨Int.le_refl _, h1, Int.le_refl _, by show s.2.2.1 - s.2.2.1 ≤ s.1 - s.1; omega⟩
  | succ n ih =>
    intro s h0 h1
    unfold lps
    by_cases q : s.2.1 = 0 ∧ lvo (tk s.1) = lv
    · rw [if_pos q]
      have hlt : s.1 < m := by
        by_cases z : s.1 = m
        · have := q.2; rw [z, lvo_0 hm] at this; omega
        · omega
      have ha := (hk (pAd s)).2 q.1 (show 0 ≤ s.1 + 1 by omega) (show s.1 + 1 ≤ m by omega)
      have e1 : (pAd s).1 = s.1 + 1 := rfl
      have e2 : (pAd s).2.2.1 = s.2.2.1 := rfl
      rw [e1, e2] at ha
      by_cases z : (nx (pAd s)).2.1 = 0
      · rw [if_pos z]
        have hb := ih (pEm (tk s.1) 0 (nx (pAd s))) (show 0 ≤ (nx (pAd s)).1 by omega) (show (nx (pAd s)).1 ≤ m by omega)
        have e3 : (pEm (tk s.1) 0 (nx (pAd s))).1 = (nx (pAd s)).1 := rfl
        have e4 : (pEm (tk s.1) 0 (nx (pAd s))).2.2.1 = (nx (pAd s)).2.2.1 + 1 := rfl
        rw [e3, e4] at hb
        omega
      · rw [if_neg z]; omega
    · rw [if_neg q]; omega
theorem lp_k {tk : Int → Int} {F nx : PSt → PSt} {lv m : Int} {n : Nat} (hF : PK F m) (hk : PK nx m) (hm : tk m = 0) (hlv : 0 ≤ lv) : PK (fun s => lps tk nx lv n (F s)) m := by
  intro s
  have h := hF s
  refine ⟨fun q => ?_, fun q h0 h1 => ?_⟩
  · show lps tk nx lv n (F s) = s
    rw [h.1 q, lps_f q]
  · have ha := h.2 q h0 h1
    have hb := lps_k hk hm hlv n (F s) (by omega) ha.2.1
    show s.1 ≤ (lps tk nx lv n (F s)).1 ∧ (lps tk nx lv n (F s)).1 ≤ m ∧ s.2.2.1 ≤ (lps tk nx lv n (F s)).2.2.1 ∧ (lps tk nx lv n (F s)).2.2.1 - s.2.2.1 ≤ (lps tk nx lv n (F s)).1 - s.1 ∧ ((lps tk nx lv n (F s)).2.1 = 0 → s.1 < (lps tk nx lv n (F s)).1)
    refine ⟨by omega, hb.2.1, by omega, by omega, fun z => ?_⟩
    by_cases y : (F s).2.1 = 0
    · have := ha.2.2.2.2 y; omega
    · rw [lps_f y] at z; exact absurd z y
theorem ch0_k {tk : Int → Int} {P : PSt → PSt} {m : Int} (hP : PK P m) (hm : tk m = 0) : PK (ch3 tk P) m ∧ PK (ch2 tk P) m ∧ PK (ch1 tk P) m ∧ PK (ch0 tk P) m := by
  have h3 : PK (ch3 tk P) m := lp_k hP hP hm (by omega)
  have h2 : PK (ch2 tk P) m := lp_k h3 h3 hm (by omega)
  have h1 : PK (ch1 tk P) m := lp_k h2 h2 hm (by omega)
  exact ⟨h3, h2, h1, lp_k h1 h1 hm (by omega)⟩
theorem prt_k {tk tw pl : Int → Int} {m : Int} (hm : tk m = 0) (hpl : ∀ i, 0 ≤ i → i ≤ m → 0 ≤ pl i) : ∀ e, PK (prt tk tw pl e) m := by
  have hbm : ∀ i, pBd tk tw i = 0 → i ≠ m := fun i h z => by
    unfold pBd at h
    rw [z, hm, if_pos (by omega)] at h
    omega
  intro e
  induction e with
  | zero =>
    intro s
    refine ⟨fun q => ?_, fun q h0 h1 => ?_⟩
    · unfold prt; rw [if_pos q]
    · unfold prt
      rw [if_neg (by omega)]
      have hp := hpl s.1 h0 h1
      have hb : pBd tk tw s.1 = 0 ∨ pBd tk tw s.1 = 1 ∨ pBd tk tw s.1 = 2 := by unfold pBd; split <;> (try split) <;> omega
      split
      · refine ⟨Int.le_refl _, h1, Int.le_refl _, ?_, fun z => ?_⟩
        · show s.2.2.1 - s.2.2.1 ≤ s.1 - s.1; omega
        · have z : pBd tk tw s.1 + 16 * pl s.1 = 0 := z
          omega
      · refine ⟨Int.le_refl _, h1, Int.le_refl _, ?_, fun z => ?_⟩
        · show s.2.2.1 - s.2.2.1 ≤ s.1 - s.1; omega
        · have z : 5 + 16 * pl s.1 = 0 := z
          omega
  | succ e ih =>
    intro s
    refine ⟨fun q => ?_, fun q h0 h1 => ?_⟩
    · unfold prt; rw [if_pos q]
    · have hp := hpl s.1 h0 h1
      have hb : pBd tk tw s.1 = 0 ∨ pBd tk tw s.1 = 1 ∨ pBd tk tw s.1 = 2 := by unfold pBd; split <;> (try split) <;> omega
      unfold prt
      rw [if_neg (by omega)]
      by_cases b : pBd tk tw s.1 ≠ 0
      · rw [if_pos b]
        refine ⟨Int.le_refl _, h1, Int.le_refl _, ?_, fun z => ?_⟩
        · show s.2.2.1 - s.2.2.1 ≤ s.1 - s.1; omega
        · have z : pBd tk tw s.1 + 16 * pl s.1 = 0 := z
          omega
      · rw [if_neg b]
        have hlt : s.1 < m := by have := hbm s.1 (by omega); omega
        have e1 : (pAd s).1 = s.1 + 1 := rfl
        have e2 : (pAd s).2.2.1 = s.2.2.1 := rfl
        by_cases c : tk s.1 = 135
        · rw [if_pos c]
          have ha := (ih (pAd s)).2 q (show 0 ≤ s.1 + 1 by omega) (show s.1 + 1 ≤ m by omega)
          rw [e1, e2] at ha
          split
          · show s.1 ≤ (prt tk tw pl e (pAd s)).1 ∧ (prt tk tw pl e (pAd s)).1 ≤ m ∧ s.2.2.1 ≤ (prt tk tw pl e (pAd s)).2.2.1 + 1 ∧ (prt tk tw pl e (pAd s)).2.2.1 + 1 - s.2.2.1 ≤ (prt tk tw pl e (pAd s)).1 - s.1 ∧ ((prt tk tw pl e (pAd s)).2.1 = 0 → s.1 < (prt tk tw pl e (pAd s)).1)
            omega
          · omega
        · rw [if_neg c]
          by_cases c2 : tk s.1 = 40
          · rw [if_pos c2]
            have hch := (ch0_k ih hm).2.2.2
            have ha := (hch (pAd s)).2 q (show 0 ≤ s.1 + 1 by omega) (show s.1 + 1 ≤ m by omega)
            rw [e1, e2] at ha
            generalize ch0 tk (prt tk tw pl e) (pAd s) = u at *
            by_cases y : u.2.1 ≠ 0
            · rw [if_pos y]; omega
            · rw [if_neg y]
              by_cases x : tk u.1 = 41
              · rw [if_pos x]
                have hne : u.1 ≠ m := fun z => by rw [z, hm] at x; omega
                show s.1 ≤ u.1 + 1 ∧ u.1 + 1 ≤ m ∧ s.2.2.1 ≤ u.2.2.1 ∧ u.2.2.1 - s.2.2.1 ≤ u.1 + 1 - s.1 ∧ (u.2.1 = 0 → s.1 < u.1 + 1)
                omega
              · rw [if_neg x]
                have hpu := hpl u.1 (by omega) (by omega)
                show s.1 ≤ u.1 ∧ u.1 ≤ m ∧ s.2.2.1 ≤ u.2.2.1 ∧ u.2.2.1 - s.2.2.1 ≤ u.1 - s.1 ∧ (1 + 16 * pl u.1 = 0 → s.1 < u.1)
                omega
          · rw [if_neg c2]
            show s.1 ≤ s.1 + 1 ∧ s.1 + 1 ≤ m ∧ s.2.2.1 ≤ s.2.2.1 + 1 ∧ s.2.2.1 + 1 - s.2.2.1 ≤ s.1 + 1 - s.1 ∧ (s.2.1 = 0 → s.1 < s.1 + 1)
            omega

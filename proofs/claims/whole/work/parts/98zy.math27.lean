-- a text, line by line
abbrev TXs : Type := Int × Int × Int × Int × (Int → Int) × (Int → Int) × (Int → Int) × (Int → Int) × (Int → Int → Int) × (Int → Int → Int)
def twN (nw tw0 wv nm : Int → Int) (M j : Int) : Int := if nw j = 1 then idx nm M (wv j) else tw0 j
def fuk (K : Int → Int → Int) (n : Int) (g : Int → Int) : Int → Int → Int := fun l => if l = n then g else K l
def S0x (i : Int) : PSt := (i, 0, 0, fun _ => 0, fun _ => 0)
def twX (nw tw0 wv : Int → Int) (x : TXs) : Int → Int := twN nw tw0 wv x.2.2.2.2.1 x.2.2.2.1
def lnX (tk nw tw0 wv pl : Int → Int) (x : TXs) : PSt := lnP tk (twX nw tw0 wv x) pl x.2.2.1 x.2.2.2.1 (S0x x.1)
def txS (tk nw tw0 wv pl : Int → Int) (x : TXs) : TXs := if (lnX tk nw tw0 wv pl x).2.1 = 0 then ((lnX tk nw tw0 wv pl x).1, 0, x.2.2.1 + 1, (if tk x.1 = 128 then x.2.2.2.1 + 1 else x.2.2.2.1), (if tk x.1 = 128 then fup x.2.2.2.2.1 x.2.2.2.1 (wv (x.1 + 1)) else x.2.2.2.2.1), fup x.2.2.2.2.2.1 x.2.2.1 (tk x.1 - 128), fup x.2.2.2.2.2.2.1 x.2.2.1 (lnN tk (twX nw tw0 wv x) x.2.2.2.1 x.1), fup x.2.2.2.2.2.2.2.1 x.2.2.1 (lnX tk nw tw0 wv pl x).2.2.1, fuk x.2.2.2.2.2.2.2.2.1 x.2.2.1 (lnX tk nw tw0 wv pl x).2.2.2.1, fuk x.2.2.2.2.2.2.2.2.2 x.2.2.1 (lnX tk nw tw0 wv pl x).2.2.2.2) else (x.1, (lnX tk nw tw0 wv pl x).2.1, x.2.2)
def txl (tk nw tw0 wv pl : Int → Int) : Nat → TXs → TXs
  | 0, x => x
  | n + 1, x => if x.2.1 = 0 ∧ tk x.1 ≠ 0 then txl tk nw tw0 wv pl n (txS tk nw tw0 wv pl x) else x
def x0 : TXs := (0, 0, 0, 0, fun _ => 0, fun _ => 0, fun _ => 0, fun _ => 0, fun _ _ => 0, fun _ _ => 0)
/-- what the tokens are like -/
def TP (tk nw tw0 pl : Int → Int) (m : Int) : Prop := tk m = 0 ∧ ∀ j, 0 ≤ pl j ∧ (tk j = 3 ↔ nw j = 1) ∧ (tk j = 4 → 0 ≤ tw0 j ∧ tw0 j < 12)
def OKx (m : Int) (x : TXs) : Prop := (0 ≤ x.1 ∧ x.1 ≤ m) ∧ WT x.2.2.1 x.2.2.2.2.2.1 x.2.2.2.2.2.2.1 x.2.2.2.2.2.2.2.1 x.2.2.2.2.2.2.2.2.1 x.2.2.2.2.2.2.2.2.2 ∧ x.2.2.2.1 = letc x.2.2.2.2.2.1 x.2.2.1 ∧ (∀ l, 0 ≤ l → l < x.2.2.1 → 0 ≤ x.2.2.2.2.2.2.1 l ∧ x.2.2.2.2.2.2.1 l ≤ 99) ∧ ∀ a b, 0 ≤ a → a < b → b < x.2.2.2.1 → x.2.2.2.2.1 a ≠ x.2.2.2.2.1 b
theorem tsg_r {tk pl : Int → Int} {ch : Int} {s : PSt} (hp : ∀ j, 0 ≤ pl j) (h : (tsg tk pl ch s).2.1 = 0) : s.2.1 = 0 ∧ tk s.1 = ch ∧ tsg tk pl ch s = pAd s := by
  have h0 := tsg_f h
  have := hp s.1
  unfold tsg at h ⊢
  rw [if_neg (by omega)] at h ⊢
  by_cases q : tk s.1 = ch
  · rw [if_pos q]; exact ⟨h0, q, rfl⟩
  · rw [if_neg q] at h
    have h : 1 + 16 * pl s.1 = 0 := h
    omega
theorem tnn_r {tk tw pl : Int → Int} {M : Int} {s : PSt} (hp : ∀ j, 0 ≤ pl j) (h : (tnn tk tw pl M s).2.1 = 0) : s.2.1 = 0 ∧ tk s.1 = 3 ∧ tw s.1 = -1 ∧ M ≠ 8 ∧ tnn tk tw pl M s = pAd s := by
  have := hp s.1
  unfold tnn at h ⊢
  by_cases q : s.2.1 ≠ 0
  · rw [if_pos q] at h; omega
  · rw [if_neg q] at h ⊢
    by_cases q1 : tk s.1 ≠ 3
    · rw [if_pos q1] at h
      have h : 1 + 16 * pl s.1 = 0 := h
      omega
    · rw [if_neg q1] at h ⊢
      by_cases q2 : tw s.1 ≠ -1
      · rw [if_pos q2] at h
        have h : 3 + 16 * pl s.1 = 0 := h
        omega
      · rw [if_neg q2] at h ⊢
        by_cases q3 : M = 8
        · rw [if_pos q3] at h
          have h : 5 + 16 * pl s.1 = 0 := h
          omega
        · rw [if_neg q3]; exact ⟨by omega, by omega, by omega, q3, rfl⟩
theorem tnm_r {tk tw pl : Int → Int} {a b : Int} {s : PSt} (hp : ∀ j, 0 ≤ pl j) (h : (tnm tk tw pl a b s).2.1 = 0) : s.2.1 = 0 ∧ tk s.1 = 2 ∧ (a ≤ tw s.1 ∧ tw s.1 ≤ b) ∧ tnm tk tw pl a b s = pAd s := by
  have := hp s.1
  unfold tnm at h ⊢
  by_cases q : s.2.1 ≠ 0
  · rw [if_pos q] at h; omega
  · rw [if_neg q] at h ⊢
    by_cases q1 : tk s.1 ≠ 2
    · rw [if_pos q1] at h
      have h : 1 + 16 * pl s.1 = 0 := h
      omega
    · rw [if_neg q1] at h ⊢
      by_cases q2 : tw s.1 < a ∨ b < tw s.1
      · rw [if_pos q2] at h
        have h : 4 + 16 * pl s.1 = 0 := h
        omega
      · rw [if_neg q2]; exact ⟨by omega, by omega, by omega, rfl⟩
theorem hdS_r {tk tw pl : Int → Int} {M k m : Int} {s : PSt} (hp : ∀ j, 0 ≤ pl j) (hm : tk m = 0) (h1 : s.1 ≤ m) (h : (hdS tk tw pl M k s).2.1 = 0) : (s.1 ≤ (hdS tk tw pl M k s).1 ∧ (hdS tk tw pl M k s).1 ≤ m) ∧ (k = 0 → tk s.1 = 3 ∧ tw s.1 = -1 ∧ M ≠ 8) ∧ (k = 2 → 1 ≤ tw s.1 ∧ tw s.1 ≤ 99) ∧ (k = 3 → 0 ≤ tw s.1 ∧ tw s.1 ≤ 7) := by
  have ha : ∀ j, tk j ≠ 0 → j ≠ m := fun j q z => q (by rw [z]; exact hm)
  unfold hdS at h ⊢
  by_cases q : k = 0
  · rw [if_pos q] at h ⊢
    obtain ⟨a1, a2, a3⟩ := tsg_r hp h
    obtain ⟨b1, b2, b3, b4, b5⟩ := tnn_r hp a1
    rw [b5] at a2
    have a2 : tk (s.1 + 1) = 61 := a2
    rw [a3, b5]
    have c1 := ha s.1 (by omega)
    have c2 := ha (s.1 + 1) (by omega)
    refine ⟨?_, fun _ => ⟨b2, b3, b4⟩, fun z => by omega, fun z => by omega⟩
    show s.1 ≤ s.1 + 1 + 1 ∧ s.1 + 1 + 1 ≤ m
    omega
  · rw [if_neg q] at h ⊢
    obtain ⟨a1, a2, a3⟩ := tsg_r hp h
    rw [a3]
    by_cases q2 : k = 2
    · rw [if_pos q2] at a1 a2 ⊢
      obtain ⟨b1, b2, b3, b5⟩ := tnm_r hp a1
      rw [b5] at a2 ⊢
      have a2 : tk (s.1 + 1) = 132 := a2
      have c1 := ha s.1 (by omega)
      have c2 := ha (s.1 + 1) (by omega)
      refine ⟨?_, fun z => by omega, fun _ => b3, fun z => by omega⟩
      show s.1 ≤ s.1 + 1 + 1 ∧ s.1 + 1 + 1 ≤ m
      omega
    · rw [if_neg q2] at a1 a2 ⊢
      by_cases q3 : k = 3
      · rw [if_pos q3] at a1 a2 ⊢
        obtain ⟨b1, b2, b3, b5⟩ := tnm_r hp a1
        rw [b5] at a2 ⊢
        have a2 : tk (s.1 + 1) = 132 := a2
        have c1 := ha s.1 (by omega)
        have c2 := ha (s.1 + 1) (by omega)
        refine ⟨?_, fun z => by omega, fun z => by omega, fun _ => b3⟩
        show s.1 ≤ s.1 + 1 + 1 ∧ s.1 + 1 + 1 ≤ m
        omega
      · rw [if_neg q3] at a1 a2 ⊢
        have c1 := ha s.1 (by omega)
        refine ⟨?_, fun z => by omega, fun z => by omega, fun z => by omega⟩
        show s.1 ≤ s.1 + 1 ∧ s.1 + 1 ≤ m
        omega
theorem lnP_r {tk tw pl : Int → Int} {N M : Int} {s : PSt} (hp : ∀ j, 0 ≤ pl j) (h : (lnP tk tw pl N M s).2.1 = 0) : (128 ≤ tk s.1 ∧ tk s.1 ≤ 131) ∧ N ≠ 24 ∧ lnP tk tw pl N M s = tsg tk pl 59 (ch0 tk (prt tk tw pl 5) (hdS tk tw pl M (tk s.1 - 128) (pAd s))) := by
  have := hp s.1
  unfold lnP at h ⊢
  by_cases q : ¬ (128 ≤ tk s.1 ∧ tk s.1 ≤ 131)
  · rw [if_pos q] at h
    have h : 1 + 16 * pl s.1 = 0 := h
    omega
  · rw [if_neg q] at h ⊢
    by_cases q2 : N = 24
    · rw [if_pos q2] at h
      have h : 5 + 16 * pl s.1 = 0 := h
      omega
    · rw [if_neg q2]; exact ⟨by omega, q2, rfl⟩
theorem letc_u {kd : Int → Int} {N a : Int} (l : Int) (h : l ≤ N) : letc (fup kd N a) l = letc kd l := sumZ_congr (fun i i0 i1 => by rw [fup_o (by omega)])
theorem letc_n {kd : Int → Int} {N a : Int} (h : 0 ≤ N) : letc (fup kd N a) (N + 1) = letc kd N + b2i (a = 0) := by
  have e : letc (fup kd N a) (N + 1) = letc (fup kd N a) N + b2i (fup kd N a N = 0) := sumZ_s h
  rw [e, letc_u N (Int.le_refl _), fup_s]
theorem tx_ok {tk nw tw0 wv pl : Int → Int} {m : Int} {x : TXs} (hP : TP tk nw tw0 pl m) (h : OKx m x) (hz : (lnX tk nw tw0 wv pl x).2.1 = 0) : OKx m (txS tk nw tw0 wv pl x) ∧ x.1 < (txS tk nw tw0 wv pl x).1 ∧ (txS tk nw tw0 wv pl x).2.1 = 0 := by
  obtain ⟨i, f, N, M, nm, kd, nu, ln, K, W⟩ := x
  obtain ⟨hi, hW, hM, hnu, hd⟩ := h
  dsimp only at hi hW hM hnu hd
  obtain ⟨hN, hl8, hl⟩ := hW
  unfold txS
  rw [if_pos hz]
  have hpl : ∀ j, 0 ≤ pl j := fun j => (hP.2 j).1
  unfold lnX at hz ⊢
  have et : twX nw tw0 wv (i, f, N, M, nm, kd, nu, ln, K, W) = twN nw tw0 wv nm M := rfl
  rw [et] at hz ⊢
  dsimp only at hz ⊢
  obtain ⟨hk, hN24, he⟩ := lnP_r hpl hz
  have hk : 128 ≤ tk i ∧ tk i ≤ 131 := hk
  rw [he] at hz ⊢
  have hM0 : 0 ≤ M := by rw [hM]; exact (sumZ_bd (c := 1) hN.1 (fun _ _ _ => b2i_bd)).1
  have hmt := hP.1
  have him : i < m := by
    by_cases z : i = m
    · rw [z, hmt] at hk; omega
    · omega
  have hpk := ch0_k (prt_k (tw := twN nw tw0 wv nm M) hmt (fun j _ _ => hpl j) 5) hmt
  have hs5 : (hdS tk (twN nw tw0 wv nm M) pl M (tk (S0x i).1 - 128) (pAd (S0x i))).2.1 = 0 := U_S hmt (fun j _ _ => hpl j) hz
  obtain ⟨hr, hr0, hr2, hr3⟩ := hdS_r (m := m) hpl hmt (show i + 1 ≤ m by omega) hs5
  have hlq : (hdS tk (twN nw tw0 wv nm M) pl M (tk (S0x i).1 - 128) (pAd (S0x i))).2.2 = (pAd (S0x i)).2.2 := hdS_l
  have hr : i + 1 ≤ (hdS tk (twN nw tw0 wv nm M) pl M (tk (S0x i).1 - 128) (pAd (S0x i))).1 ∧ (hdS tk (twN nw tw0 wv nm M) pl M (tk (S0x i).1 - 128) (pAd (S0x i))).1 ≤ m := hr
  have hr0 : tk i - 128 = 0 → tk (i + 1) = 3 ∧ twN nw tw0 wv nm M (i + 1) = -1 ∧ M ≠ 8 := hr0
  have hr2 : tk i - 128 = 2 → 1 ≤ twN nw tw0 wv nm M (i + 1) ∧ twN nw tw0 wv nm M (i + 1) ≤ 99 := hr2
  have hr3 : tk i - 128 = 3 → 0 ≤ twN nw tw0 wv nm M (i + 1) ∧ twN nw tw0 wv nm M (i + 1) ≤ 7 := hr3
  generalize hS5 : hdS tk (twN nw tw0 wv nm M) pl M (tk (S0x i).1 - 128) (pAd (S0x i)) = S5 at *
  obtain ⟨hc0, hc1, hc2⟩ := tsg_r hpl hz
  have hpc := (hpk.2.2.2 S5).2 hs5 (by omega) hr.2
  have hPO : PO M S5 0 := by
    have e1 : S5.2.2.1 = 0 := by rw [hlq]; rfl
    refine ⟨by omega, fun j j0 j1 => by omega, ?_⟩
    rw [e1]; rfl
  have hwN : ∀ j, (tk j = 3 → twN nw tw0 wv nm M j = -1 ∨ 0 ≤ twN nw tw0 wv nm M j ∧ twN nw tw0 wv nm M j < M) ∧ (tk j = 4 → 0 ≤ twN nw tw0 wv nm M j ∧ twN nw tw0 wv nm M j < 12) := fun j => by
    have hj := hP.2 j
    unfold twN
    refine ⟨fun z => ?_, fun z => ?_⟩
    · rw [if_pos (hj.2.1.mp z)]
      rcases idx_c (R := nm) (T := M) (y := wv j) hM0 with y | y
      · exact Or.inl y.1
      · exact Or.inr ⟨y.1, y.2.1⟩
    · rw [if_neg (fun y => by have := hj.2.1.mpr y; omega)]
      exact hj.2.2 z
  have hH := ch0_h (tk := tk) (prt_h (tk := tk) (tw := twN nw tw0 wv nm M) (pl := pl) (by omega) hpl hwN 5) (by omega) S5 0 hs5 hPO (by omega) (by omega) hc0
  rw [hc2]
  generalize ch0 tk (prt tk (twN nw tw0 wv nm M) pl 5) S5 = S6 at *
  have hWF := WF_of hH
  have hn6 := hH.1
  have hS6m : S6.1 ≠ m := fun z => by rw [z, hmt] at hc1; omega
  have e1 : (pAd S6).1 = S6.1 + 1 := rfl
  have e2 : (pAd S6).2 = S6.2 := rfl
  rw [e1, e2]
  have hbi : b2i (tk i - 128 = 0) = (if tk i = 128 then 1 else 0) := by unfold b2i; split <;> split <;> omega
  have hlet := letc_n (kd := kd) (a := tk i - 128) hN.1
  rw [hbi, ← hM] at hlet
  refine ⟨⟨by show 0 ≤ S6.1 + 1 ∧ S6.1 + 1 ≤ m; omega, ⟨by show 0 ≤ N + 1 ∧ N + 1 ≤ 24; omega, ?_, fun l l0 l1 => ?_⟩, ?_, fun l l0 l1 => ?_, fun a b a0 ab b1 => ?_⟩, by show i < S6.1 + 1; omega, rfl⟩
  · show letc (fup kd N (tk i - 128)) (N + 1) ≤ 8
    rw [hlet]
    by_cases z : tk i = 128
    · rw [if_pos z]; have := (hr0 (by omega)).2.2; omega
    · rw [if_neg z]; omega
  · have l1 : l < N + 1 := l1
    show (0 ≤ fup kd N (tk i - 128) l ∧ fup kd N (tk i - 128) l ≤ 3) ∧ 0 ≤ fup ln N S6.2.2.1 l ∧ WF (fuk K N S6.2.2.2.1 l) (fuk W N S6.2.2.2.2 l) (fup ln N S6.2.2.1 l) ∧ (fup kd N (tk i - 128) l = 0 → fup nu N (lnN tk (twN nw tw0 wv nm M) M i) l = letc (fup kd N (tk i - 128)) l) ∧ (∀ q, 0 ≤ q → q < fup ln N S6.2.2.1 l → fuk K N S6.2.2.2.1 l q = 3 → 0 ≤ fuk W N S6.2.2.2.2 l q ∧ fuk W N S6.2.2.2.2 l q < letc (fup kd N (tk i - 128)) l)
    rw [letc_u l (by omega)]
    by_cases z : l = N
    · rw [z, fup_s, fup_s, fup_s, show fuk K N S6.2.2.2.1 N = S6.2.2.2.1 by unfold fuk; rw [if_pos rfl], show fuk W N S6.2.2.2.2 N = S6.2.2.2.2 by unfold fuk; rw [if_pos rfl], ← hM]
      refine ⟨by omega, hn6, hWF, fun y => ?_, fun q q0 q1 q3 => (hH.2.1 q q0 q1).2 q3⟩
      unfold lnN
      rw [if_pos (by omega)]
    · rw [fup_o z, fup_o z, fup_o z, show fuk K N S6.2.2.2.1 l = K l by unfold fuk; rw [if_neg z], show fuk W N S6.2.2.2.2 l = W l by unfold fuk; rw [if_neg z]]
      exact hl l l0 (by omega)
  · show (if tk i = 128 then M + 1 else M) = letc (fup kd N (tk i - 128)) (N + 1)
    rw [hlet]
    by_cases z : tk i = 128
    · rw [if_pos z, if_pos z]
    · rw [if_neg z, if_neg z]; omega
  · have l1 : l < N + 1 := l1
    show 0 ≤ fup nu N (lnN tk (twN nw tw0 wv nm M) M i) l ∧ fup nu N (lnN tk (twN nw tw0 wv nm M) M i) l ≤ 99
    by_cases z : l = N
    · rw [z, fup_s]
      unfold lnN
      by_cases y : tk i = 128
      · rw [if_pos y]; omega
      · rw [if_neg y]
        by_cases v : tk i = 130 ∨ tk i = 131
        · rw [if_pos v]
          rcases v with v | v
          · have := hr2 (by omega); omega
          · have := hr3 (by omega); omega
        · rw [if_neg v]; omega
    · rw [fup_o z]; exact hnu l l0 (by omega)
  · have b1 : b < (if tk i = 128 then M + 1 else M) := b1
    show (if tk i = 128 then fup nm M (wv (i + 1)) else nm) a ≠ (if tk i = 128 then fup nm M (wv (i + 1)) else nm) b
    by_cases z : tk i = 128
    · rw [if_pos z] at b1 ⊢
      rw [fup_o (show a ≠ M by omega)]
      by_cases y : b = M
      · rw [y, fup_s]
        obtain ⟨t3, t1, -⟩ := hr0 (by omega)
        unfold twN at t1
        rw [if_pos ((hP.2 (i + 1)).2.1.mp t3)] at t1
        rcases idx_c (R := nm) (T := M) (y := wv (i + 1)) hM0 with v | v
        · exact v.2 a a0 (by omega)
        · omega
      · rw [fup_o y]; exact hd a b a0 ab (by omega)
    · rw [if_neg z] at b1 ⊢
      exact hd a b a0 ab b1
theorem x0_ok {m : Int} (hm : 0 ≤ m) : OKx m x0 := ⟨⟨Int.le_refl _, hm⟩, ⟨⟨Int.le_refl _, by show (0 : Int) ≤ 24; omega⟩, by show (0 : Int) ≤ 8; omega, fun l l0 l1 => absurd l1 (by show ¬ l < 0; omega)⟩, rfl, fun l l0 l1 => absurd l1 (by show ¬ l < 0; omega), fun a b a0 ab b1 => absurd b1 (by show ¬ b < 0; omega)⟩

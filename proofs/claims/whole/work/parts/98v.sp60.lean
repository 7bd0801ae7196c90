theorem seat_d {K : Int → Int → Int} {n : Int} : ∀ m : Nat, (m : Int) ≤ 100 → (seatOut K n m (-1, 0, 0)).1 < 0 ∨ (n = 1 ∧ (seatOut K n m (-1, 0, 0)).2.1 = (seatOut K n m (-1, 0, 0)).2.2 ∨ n ≠ 1 ∧ (seatOut K n m (-1, 0, 0)).2.1 < (seatOut K n m (-1, 0, 0)).2.2) := by
  have key : ∀ (a lo : Int) (s : SS), (s.1 < 0 ∨ s.2.1 < s.2.2) → a < lo → ∀ m : Nat, (seatIn K a lo m s).1 < 0 ∨ (seatIn K a lo m s).2.1 < (seatIn K a lo m s).2.2 := by
    intro a lo s hs hl m
    induction m with
    | zero => exact hs
    | succ m ih =>
      have e : seatIn K a lo ((m + 1 : Nat) : Int) s = _ := seatIn_s (m := m) (by omega)
      rw [e]
      unfold sst
      split
      · exact Or.inr (by show a < lo + m; omega)
      · exact ih
  intro m
  induction m with
  | zero => intro _; exact Or.inl (by show (-1 : Int) < 0; omega)
  | succ m ih =>
    intro hm
    have ih := ih (by omega)
    have e : seatOut K n ((m + 1 : Nat) : Int) (-1, 0, 0) = _ := seatOut_s (m := m) (by omega)
    rw [e]
    by_cases q : n = 1
    · rw [if_pos q]
      have e1 : seatIn K (m : Int) m 1 (seatOut K n m (-1, 0, 0)) = sst K m (m + 0) (seatOut K n m (-1, 0, 0)) := rfl
      rw [e1, Int.add_zero]
      unfold sst
      split
      · exact Or.inr (Or.inl ⟨q, rfl⟩)
      · exact ih
    · rw [if_neg q]
      have hk := key m (m + 1) (seatOut K n m (-1, 0, 0)) (by rcases ih with w | w | w; exact Or.inl w; exact absurd w.1 q; exact Or.inr w.2) (by omega) (99 - (m : Int)).toNat
      rw [Int.toNat_of_nonneg (by omega)] at hk
      rcases hk with w | w
      · exact Or.inl w
      · exact Or.inr (Or.inr ⟨q, w⟩)
/-- seats by the class's rows, and where a piece went -/
def stS (σ : Sg) (P c n : Int) : SS := seatOut (costZ (σ 29) (σ 4) (σ 5) (σ 3) c P) n 100 (-1, 0, 0)
def wnS (σ : Sg) (P f p : Int) : Int × Int := went (σ 65) (σ 66) (σ 67) (σ 3 p) f (100 * ((stS σ P (σ 29 p) 1).2.1 % 10) + 50, 100 * ((stS σ P (σ 29 p) 1).2.1 / 10) + 50)
theorem st_ok {L X Y S : Int → Int} {P c n : Int} (h0 : 0 ≤ P ∧ P ≤ 40) (hX : XB X Y S P) (hn : n = 1 ∨ n = 2) : 0 ≤ (seatOut (costZ L X Y S c P) n 100 (-1, 0, 0)).1 ∧ (n = 1 ∧ (seatOut (costZ L X Y S c P) n 100 (-1, 0, 0)).2.1 = (seatOut (costZ L X Y S c P) n 100 (-1, 0, 0)).2.2 ∨ n ≠ 1 ∧ (seatOut (costZ L X Y S c P) n 100 (-1, 0, 0)).2.1 < (seatOut (costZ L X Y S c P) n 100 (-1, 0, 0)).2.2) := by
  have h1 := (SB_out (K := costZ L X Y S c P) (n := n) (s := (-1, 0, 0)) (fun a b a0 a1 b0 b1 => by
    have := costZ_bd (L := L) (c := c) hX ⟨h0.1, Int.le_refl P⟩ ⟨a0, a1⟩ ⟨b0, b1⟩
    omega) ⟨by show (-1 : Int) ≤ -1 ∧ (-1 : Int) ≤ 40000; omega, by show (0 : Int) ≤ 0 ∧ (0 : Int) < 100; omega, by show (0 : Int) ≤ 0 ∧ (0 : Int) < 100; omega⟩ 100 (by decide)).2 (by decide)
  have h2 := seat_d (K := costZ L X Y S c P) (n := n) 100 (by decide)
  have e : ((100 : Nat) : Int) = 100 := rfl
  rw [e] at h1 h2
  exact ⟨h1, by omega⟩
/-- what the ground holds is true -/
def HG (σ : Sg) (P : Int) : Prop := σ 64 10 = -1 ∨ (0 ≤ σ 64 10 ∧ σ 64 10 < P) ∧ (σ 64 11 = 1 ∨ σ 64 11 = 2) ∧ SC σ (stS σ P (σ 64 10) (σ 64 11))
def Fg (σ s : Sg) : Prop := Fr [68, 69, 70] [(64, 9), (64, 10), (64, 11), (64, 12), (64, 13), (64, 14), (64, 15), (64, 16)] σ s
theorem HG_h {σ : Sg} {P c n : Int} (h : HG σ P) (hc : 0 ≤ c) : σ 64 10 = c → σ 64 11 = n → SC σ (stS σ P c n) := fun e1 e2 => by
  rcases h with w | w
  · omega
  · rw [← e1, ← e2]; exact w.2.2
theorem HG_a {σ s : Sg} {P c n : Int} (hF : Fg σ s) (h : s 64 10 = c ∧ s 64 11 = n) (hS : SC s (stS σ P c n)) (hc : 0 ≤ c ∧ c < P) (hn : n = 1 ∨ n = 2) : HG s P := by
  refine Or.inr ⟨by omega, by omega, ?_⟩
  rw [h.1, h.2]
  have e : stS s P c n = stS σ P c n := by unfold stS; rw [hF.fn 29 rfl, hF.fn 4 rfl, hF.fn 5 rfl, hF.fn 3 rfl]
  rw [e]; exact hS
def seV (s : SS) (n w : Int) : Int := if w = 0 then s.1 else if w = 1 then s.2.1 else if n = 1 then -1 else s.2.2
def lkV (st co wh tn fc al wx wy lo w : Int) : Int := if w = 0 then st else if w = 1 then co else if w = 2 then wh else if w = 3 then tn else if w = 4 then fc else if w = 5 then al else if w = 6 then wx else if w = 7 then wy else lo
set_option maxRecDepth 20000 in
set_option maxHeartbeats 2000000 in
theorem sp_X9_seat (d : Nat) (hd : 5 ≤ d) (xs : List (Nat × Nat)) (t dd rr : Nat) (σ : Sg) (p n w : Int) (P : Int) (hP : σ 1 0 = P) (h0 : 0 ≤ P ∧ P ≤ 40) (hX : XB (σ 4) (σ 5) (σ 3) P) (hG : HG σ P) (hco : ∀ p, 0 ≤ p → p < P → 0 ≤ σ 29 p ∧ σ 29 p < P)  : ∃ σ', Ev d 19 [(16, 0), (0, p), (0, n), (0, w)] (Wd xs t dd rr σ) (if (0 ≤ p ∧ p < P) ∧ (1 ≤ n ∧ n ≤ 2) ∧ 0 ≤ w ∧ w ≤ 2 then (0, seV (stS σ P (σ 29 p) n) n w) else (7, 0)) (Wd xs t dd rr σ') ∧ Fg σ σ' ∧ HG σ' P := by
  obtain ⟨d, rfl⟩ : ∃ e, d = e + 1 := ⟨d - 1, by omega⟩
  refine evS (nL := 4) (code := k_X9_seat) rfl dc_X9_seat rfl (fun E hE => ?_)
  show pCm (Ev d) k_X9_seat E 0 [(16, 0), (0, p), (0, n), (0, w)] [] _
  refine R_aload rfl rfl rfl ?_
  refine T_getr (v := 17) rfl rfl rfl rfl ?_
  refine R_iload rfl rfl ?_
  refine R_invv rfl rfl rfl rfl rfl rfl (sp_X6_has d (by omega) xs t dd rr σ p P hP) rfl ?_
  show pCm _ _ _ 8 _ [(0, _)] _
  refine R_if rfl (fun h8 => ?_) (fun h8 => ?_)
  · try simp only [ne_eq, b2i_e, b2i_1, Classical.not_not] at h8
    refine R_thr rfl ?_
    exact hE _ _ (by rw [if_neg (by omega)]) ⟨Fr.rf, hG⟩
  · try simp only [ne_eq, b2i_e, b2i_1, Classical.not_not] at h8
    refine R_iload rfl rfl ?_
    refine R_push rfl ?_
    refine R_push rfl ?_
    refine R_inv rfl rfl rfl rfl rfl (sp_X9_within d (by omega) _ _ _ _) rfl ?_
    show pCm _ _ _ 17 _ [(0, _)] _
    refine R_if rfl (fun h17 => ?_) (fun h17 => ?_)
    · try simp only [ne_eq, b2i_e, b2i_1, Classical.not_not] at h17
      refine R_thr rfl ?_
      exact hE _ _ (by rw [if_neg (by omega)]) ⟨Fr.rf, hG⟩
    · try simp only [ne_eq, b2i_e, b2i_1, Classical.not_not] at h17
      refine R_iload rfl rfl ?_
      refine R_push rfl ?_
      refine R_push rfl ?_
      refine R_inv rfl rfl rfl rfl rfl (sp_X9_within d (by omega) _ _ _ _) rfl ?_
      show pCm _ _ _ 26 _ [(0, _)] _
      refine R_if rfl (fun h26 => ?_) (fun h26 => ?_)
      · try simp only [ne_eq, b2i_e, b2i_1, Classical.not_not] at h26
        refine R_aload rfl rfl rfl ?_
        refine T_getr (v := 80) rfl rfl rfl rfl ?_
        refine R_aload rfl rfl rfl ?_
        refine T_getr (v := 44) rfl rfl rfl rfl ?_
        refine T_getr (v := 45) rfl rfl rfl rfl ?_
        refine R_iload rfl rfl ?_
        refine T_ald rfl rfl (by omega) (by omega) ?_
        refine R_iload rfl rfl ?_
        have hcp := hco p (by omega) (by omega)
        obtain ⟨s1, hev, hFx, hc, hS⟩ := sp_X2_findSeats d (by omega) xs t dd rr σ (σ 29 p) n P hP h0 hX (by omega) (HG_h hG hcp.1)
        have hF : Fg σ s1 := hFx.tr (r2 := []) (s2 := []) Fr.rf rfl rfl
        have hG1 : HG s1 P := HG_a hF hc hS hcp (by omega)
        have hst := st_ok (L := σ 29) (c := σ 29 p) (n := n) h0 hX (by omega)
        have hS' : SC s1 (stS σ P (σ 29 p) n) := hS
        have hst' : 0 ≤ (stS σ P (σ 29 p) n).1 ∧ (n = 1 ∧ (stS σ P (σ 29 p) n).2.1 = (stS σ P (σ 29 p) n).2.2 ∨ n ≠ 1 ∧ (stS σ P (σ 29 p) n).2.1 < (stS σ P (σ 29 p) n).2.2) := hst
        generalize stS σ P (σ 29 p) n = S at *
        have hS2 : s1 64 12 = S.1 ∧ s1 64 13 = S.2.1 ∧ s1 64 14 = (if S.2.1 = S.2.2 then -1 else S.2.2) := by
          unfold SC at hS'
          omega
        refine R_invv rfl rfl rfl rfl rfl rfl (hev) rfl ?_
        show pCm _ _ _ 57 _ [] _
        refine R_iload rfl rfl ?_
        refine R_if rfl (fun h58 => ?_) (fun h58 => ?_)
        · try simp only [ne_eq, b2i_e, b2i_1, Classical.not_not] at h58
          refine R_iload rfl rfl ?_
          refine R_push rfl ?_
          refine R_ic rfl (fun h71 => ?_) (fun h71 => ?_)
          · try simp only [ne_eq, b2i_e, b2i_1, Classical.not_not] at h71
            refine R_aload rfl rfl rfl ?_
            refine T_getr (v := 80) rfl rfl rfl rfl ?_
            refine T_geti rfl rfl rfl ?_
            refine R_iret rfl ?_
            refine hE _ _ (Eq.symm ((if_pos (by omega)).trans ?_)) ⟨hF, hG1⟩
            unfold seV
            first
            | rw [if_neg (by omega), if_pos (by omega), hS2.2.1]
            | (rw [if_neg (by omega), if_neg (by omega), hS2.2.2]
               by_cases z : n = 1
               · rw [if_pos z, if_pos (by omega)]
               · rw [if_neg z, if_neg (by omega)])
          · try simp only [ne_eq, b2i_e, b2i_1, Classical.not_not] at h71
            refine R_aload rfl rfl rfl ?_
            refine T_getr (v := 80) rfl rfl rfl rfl ?_
            refine T_geti rfl rfl rfl ?_
            refine R_goto rfl ?_
            refine R_iret rfl ?_
            refine hE _ _ (Eq.symm ((if_pos (by omega)).trans ?_)) ⟨hF, hG1⟩
            unfold seV
            first
            | rw [if_neg (by omega), if_pos (by omega), hS2.2.1]
            | (rw [if_neg (by omega), if_neg (by omega), hS2.2.2]
               by_cases z : n = 1
               · rw [if_pos z, if_pos (by omega)]
               · rw [if_neg z, if_neg (by omega)])
        · try simp only [ne_eq, b2i_e, b2i_1, Classical.not_not] at h58
          refine R_aload rfl rfl rfl ?_
          refine T_getr (v := 80) rfl rfl rfl rfl ?_
          refine T_geti rfl rfl rfl ?_
          refine R_iret rfl ?_
          exact hE _ _ (by rw [if_pos (by omega)]; unfold seV; rw [if_pos (by omega), hS2.1]) ⟨hF, hG1⟩
      · try simp only [ne_eq, b2i_e, b2i_1, Classical.not_not] at h26
        refine R_thr rfl ?_
        exact hE _ _ (by rw [if_neg (by omega)]) ⟨Fr.rf, hG⟩

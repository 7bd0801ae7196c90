theorem sp_way (d : Nat) (hd : 2 ≤ d) (xs : List (Nat × Nat)) (t dd rr : Nat) (σ : Sg) (p c : Int) (hp : 0 ≤ p ∧ p < 40) (hc : 0 ≤ c ∧ c < 100) (hx : 0 ≤ σ 90 p ∧ σ 90 p ≤ 999) (hy : 0 ≤ σ 91 p ∧ σ 91 p ≤ 999) : Ev d 113 [(87, 0), (0, p), (0, c)] (Wd xs t dd rr σ) (0, wayZ (σ 90) (σ 91) p c) (Wd xs t dd rr σ) := sp_X10_wayTo d hd xs t dd rr σ p c hp hc hx hy
set_option maxRecDepth 20000 in
set_option maxHeartbeats 2000000 in
theorem sp_X10_costs (d : Nat) (hd : 3 ≤ d) (xs : List (Nat × Nat)) (t dd rr : Nat) (σ : Sg) (c a b P : Int) (hP : σ 71 26 = P) (h0 : 0 ≤ P ∧ P ≤ 40) (hX : XB (σ 90) (σ 91) (σ 89) P) (ha : 0 ≤ a ∧ a < 100) (hb : 0 ≤ b ∧ b < 100) : Ev d 114 [(87, 0), (0, c), (0, a), (0, b)] (Wd xs t dd rr σ) (0, costZ (σ 111) (σ 90) (σ 91) (σ 89) c P a b) (Wd xs t dd rr σ) := by
  obtain ⟨d, rfl⟩ : ∃ e, d = e + 1 := ⟨d - 1, by omega⟩
  refine evP (nL := 7) (code := k_X10_costs) rfl pb0 rfl (fun E hE => ?_)
  show pCm (Ev d) k_X10_costs E 0 [(87, 0), (0, c), (0, a), (0, b), (9, 0), (9, 0), (9, 0)] [] _
  refine R_push rfl ?_
  refine R_istore rfl rfl ?_
  refine R_push rfl ?_
  refine R_istore rfl rfl ?_
  refine fgt wc_X10_costs [1, 1, 1, 1, 1, 1, 0] ?_
  refine loop (pc := 6) (α := Int × Int) (fun x => (P - x.2).toNat) (fun x => ([(87, 0), (0, c), (0, a), (0, b), (0, x.1), (0, x.2), (9, 0)], Wd xs t dd rr σ)) (fun x => (0 ≤ x.2 ∧ x.2 ≤ P) ∧ x.1 = costZ (σ 111) (σ 90) (σ 91) (σ 89) c x.2 a b) ?_ (0, 0) ?_
  · intro ⟨n, k⟩ ⟨hk, hn⟩ ih
    dsimp only at hk hn ⊢
    have hcb := costZ_bd (L := σ 111) (c := c) hX hk ha hb
    rw [← hn] at hcb
    have hs : costZ (σ 111) (σ 90) (σ 91) (σ 89) c (k + 1) a b = costZ (σ 111) (σ 90) (σ 91) (σ 89) c k a b + _ := sumZ_s hk.1
    rw [← hn] at hs
    have hXk := hX k hk.1
    refine R_iload rfl rfl ?_
    refine R_aload rfl rfl rfl ?_
    refine T_geti rfl rfl rfl ?_
    refine R_ic rfl (fun h12 => ?_) (fun h12 => ?_)
    · try simp only [ne_eq, b2i_e, b2i_1, Classical.not_not] at h12
      refine R_iload rfl rfl ?_
      refine R_iret rfl ?_
      exact hE _ (by congr 1; rw [hn]; congr 1; omega)
    · try simp only [ne_eq, b2i_e, b2i_1, Classical.not_not] at h12
      refine R_aload rfl rfl rfl ?_
      refine T_getr (v := 127) rfl rfl rfl rfl ?_
      refine R_iload rfl rfl ?_
      refine T_ald rfl rfl (by omega) (by omega) ?_
      refine R_iload rfl rfl ?_
      refine R_ic rfl (fun h23 => ?_) (fun h23 => ?_)
      · try simp only [ne_eq, b2i_e, b2i_1, Classical.not_not] at h23
        refine R_inc rfl rfl (by omega) (by omega) ?_
        refine R_goto rfl ?_
        refine fgt wc_X10_costs [1, 1, 1, 1, 1, 1, 0] ?_
        exact ih (_, k + 1) ⟨by dsimp only; omega, by dsimp only; rw [hs, if_neg h23]; omega⟩ (by dsimp only; omega)
      · try simp only [ne_eq, b2i_e, b2i_1, Classical.not_not] at h23
        have hXk := hXk (by omega)
        have wa := wayZ_bd hXk.1 hXk.2.1 ha
        have wb := wayZ_bd hXk.1 hXk.2.1 hb
        have lo := lo_bd hXk.2.2
        have J60 : ∀ v : Int, v = min (wayZ (σ 90) (σ 91) k a) (wayZ (σ 90) (σ 91) k b) → pCm (Ev d) k_X10_costs E 60 [(87, 0), (0, c), (0, a), (0, b), (0, n), (0, k), (9, 0)] [(0, v)] (Wd xs t dd rr σ) := by
          intro v hv
          refine R_istore rfl rfl ?_
          have J88 : ∀ u : Int, u = min (abo (σ 90) (σ 91) (σ 89) k a) (abo (σ 90) (σ 91) (σ 89) k b) → pCm (Ev d) k_X10_costs E 88 [(87, 0), (0, c), (0, a), (0, b), (0, n), (0, k), (0, v)] [(0, u), (0, n)] (Wd xs t dd rr σ) := by
            intro u hu
            have hab := abo_bd hXk.1 hXk.2.1 hXk.2.2 ha
            have hbb := abo_bd hXk.1 hXk.2.1 hXk.2.2 hb
            refine R_add rfl (by omega) (by omega) ?_
            refine R_istore rfl rfl ?_
            refine R_inc rfl rfl (by omega) (by omega) ?_
            refine R_goto rfl ?_
            refine fgt wc_X10_costs [1, 1, 1, 1, 1, 1, 0] ?_
            exact ih (_, k + 1) ⟨by dsimp only; omega, by dsimp only; rw [hs, if_pos h23, hu]⟩ (by dsimp only; omega)
          refine R_iload rfl rfl ?_
          refine R_iload rfl rfl ?_
          refine R_aload rfl rfl rfl ?_
          refine R_iload rfl rfl ?_
          refine R_invv rfl rfl rfl rfl rfl rfl (sp_X10_loose d (by omega) xs t dd rr σ k ⟨by omega, by omega⟩ hXk.2.2) rfl ?_
          show pCm _ _ _ 72 _ [(0, _), (0, _), (0, _)] _
          refine R_ic rfl (fun h72 => ?_) (fun h72 => ?_)
          · try simp only [ne_eq, b2i_e, b2i_1, Classical.not_not] at h72
            refine R_push rfl ?_
            exact J88 _ (by unfold abo; omega)
          · try simp only [ne_eq, b2i_e, b2i_1, Classical.not_not] at h72
            refine R_iload rfl rfl ?_
            refine R_aload rfl rfl rfl ?_
            refine R_iload rfl rfl ?_
            refine R_invv rfl rfl rfl rfl rfl rfl (sp_X10_loose d (by omega) xs t dd rr σ k ⟨by omega, by omega⟩ hXk.2.2) rfl ?_
            show pCm _ _ _ 83 _ [(0, _), (0, _), (0, _)] _
            refine R_sub rfl (by omega) (by omega) ?_
            refine R_goto rfl ?_
            exact J88 _ (by unfold abo; omega)
        refine R_aload rfl rfl rfl ?_
        refine R_iload rfl rfl ?_
        refine R_iload rfl rfl ?_
        refine R_invv rfl rfl rfl rfl rfl rfl (sp_way d (by omega) xs t dd rr σ k a ⟨by omega, by omega⟩ ⟨by omega, by omega⟩ hXk.1 hXk.2.1) rfl ?_
        show pCm _ _ _ 33 _ [(0, _)] _
        refine R_aload rfl rfl rfl ?_
        refine R_iload rfl rfl ?_
        refine R_iload rfl rfl ?_
        refine R_invv rfl rfl rfl rfl rfl rfl (sp_way d (by omega) xs t dd rr σ k b ⟨by omega, by omega⟩ ⟨by omega, by omega⟩ hXk.1 hXk.2.1) rfl ?_
        show pCm _ _ _ 40 _ [(0, _), (0, _)] _
        refine R_ic rfl (fun h40 => ?_) (fun h40 => ?_)
        · try simp only [ne_eq, b2i_e, b2i_1, Classical.not_not] at h40
          refine R_aload rfl rfl rfl ?_
          refine R_iload rfl rfl ?_
          refine R_iload rfl rfl ?_
          refine R_invv rfl rfl rfl rfl rfl rfl (sp_way d (by omega) xs t dd rr σ k b ⟨by omega, by omega⟩ ⟨by omega, by omega⟩ hXk.1 hXk.2.1) rfl ?_
          show pCm _ _ _ 60 _ [(0, _)] _
          exact J60 _ (by omega)
        · try simp only [ne_eq, b2i_e, b2i_1, Classical.not_not] at h40
          refine R_aload rfl rfl rfl ?_
          refine R_iload rfl rfl ?_
          refine R_iload rfl rfl ?_
          refine R_invv rfl rfl rfl rfl rfl rfl (sp_way d (by omega) xs t dd rr σ k a ⟨by omega, by omega⟩ ⟨by omega, by omega⟩ hXk.1 hXk.2.1) rfl ?_
          show pCm _ _ _ 50 _ [(0, _)] _
          refine R_goto rfl ?_
          exact J60 _ (by omega)
  · exact ⟨by dsimp only; omega, rfl⟩
def SQ (s : Sg) (S : SS) : Prop := s 71 62 = S.1 ∧ (0 ≤ S.1 → s 71 63 = S.2.1 ∧ s 71 64 = S.2.2)
theorem SQ_up {s : Sg} {K : Int → Int → Int} {a b : Int} {S : SS} (hq : S.1 < 0 ∨ K a b < S.1) : SQ (up2 (up2 (up2 s 71 62 (K a b)) 71 63 a) 71 64 b) (sst K a b S) := by
  unfold sst
  rw [if_pos hq]
  exact ⟨by simp [up2], fun _ => ⟨by simp [up2], by simp [up2]⟩⟩
theorem SQ_no {s : Sg} {K : Int → Int → Int} {a b : Int} {S : SS} (h : SQ s S) (hq : ¬ (S.1 < 0 ∨ K a b < S.1)) : SQ s (sst K a b S) := by
  unfold sst
  rw [if_neg hq]
  exact h
set_option maxRecDepth 20000 in
set_option maxHeartbeats 2000000 in
theorem sp_X10_findSeats (d : Nat) (hd : 4 ≤ d) (xs : List (Nat × Nat)) (t dd rr : Nat) (σ : Sg) (c n P : Int) (hP : σ 71 26 = P) (h0 : 0 ≤ P ∧ P ≤ 40) (hX : XB (σ 90) (σ 91) (σ 89) P) (hn : n = 1 ∨ n = 2) : ∃ σ', Ev d 115 [(87, 0), (0, c), (0, n)] (Wd xs t dd rr σ) (8, 0) (Wd xs t dd rr σ') ∧ Fr [] [(71, 62), (71, 63), (71, 64)] σ σ' ∧ SQ σ' (seatOut (costZ (σ 111) (σ 90) (σ 91) (σ 89) c P) n 100 (-1, 0, 0)) := by
  obtain ⟨d, rfl⟩ : ∃ e, d = e + 1 := ⟨d - 1, by omega⟩
  refine evS (nL := 6) (code := k_X10_findSeats) rfl dc_X10_findSeats rfl (fun E hE => ?_)
  show pCm (Ev d) k_X10_findSeats E 0 [(87, 0), (0, c), (0, n), (9, 0), (9, 0), (9, 0)] [] _
  refine R_aload rfl rfl rfl ?_
  refine R_push rfl ?_
  refine T_puti rfl rfl rfl ?_
  refine R_push rfl ?_
  refine R_istore rfl rfl ?_
  generalize hs0 : up2 σ 71 62 (-1) = s0
  have hF0 : Fr [] [(71, 62), (71, 63), (71, 64)] σ s0 := by rw [← hs0]; exact Fr.rf.up rfl
  have hq0 : SQ s0 (-1, 0, 0) := ⟨by rw [← hs0]; simp [up2], fun z => by dsimp only at z; omega⟩
  have hK : ∀ a b, 0 ≤ a → a < 100 → 0 ≤ b → b < 100 → 0 ≤ (costZ (σ 111) (σ 90) (σ 91) (σ 89) c P) a b ∧ (costZ (σ 111) (σ 90) (σ 91) (σ 89) c P) a b ≤ 40000 := fun a b a0 a1 b0 b1 => by
    have := costZ_bd (L := σ 111) (c := c) hX (k := P) ⟨h0.1, Int.le_refl _⟩ ⟨a0, a1⟩ ⟨b0, b1⟩
    omega
  have hSB : SB (-1, 0, 0) := ⟨by dsimp only; omega, by dsimp only; omega, by dsimp only; omega⟩
  refine fgt wc_X10_findSeats [1, 1, 1, 1, 0, 0] ?_
  refine loop (pc := 7) (α := Int × Sg) (fun x => (100 - x.1).toNat) (fun x => ([(87, 0), (0, c), (0, n), (0, x.1), (9, 0), (9, 0)], Wd xs t dd rr x.2)) (fun x => (0 ≤ x.1 ∧ x.1 ≤ 100) ∧ Fr [] [(71, 62), (71, 63), (71, 64)] σ x.2 ∧ SQ x.2 (seatOut (costZ (σ 111) (σ 90) (σ 91) (σ 89) c P) n x.1 (-1, 0, 0))) ?_ (0, s0) ?_
  · intro ⟨a, s1⟩ ⟨ha, hF, hS⟩ ih
    dsimp only at ha hF hS ⊢
    have hB := (SB_out (n := n) hK hSB a.toNat (by omega)).1
    rw [Int.toNat_of_nonneg ha.1] at hB
    have hso := seatOut_s (K := (costZ (σ 111) (σ 90) (σ 91) (σ 89) c P)) (n := n) (s := (-1, 0, 0)) ha.1
    generalize hS1 : seatOut (costZ (σ 111) (σ 90) (σ 91) (σ 89) c P) n a (-1, 0, 0) = S1 at *
    refine R_iload rfl rfl ?_
    refine R_push rfl ?_
    refine R_ic rfl (fun h10 => ?_) (fun h10 => ?_)
    · try simp only [ne_eq, b2i_e, b2i_1, Classical.not_not] at h10
      refine R_vret rfl ?_
      exact hE _ _ rfl ⟨hF, by rw [← show a = 100 by omega, hS1]; exact hS⟩
    · try simp only [ne_eq, b2i_e, b2i_1, Classical.not_not] at h10
      have J25 : ∀ lo M : Int, (n = 1 ∧ lo = a ∧ M = 1 ∨ n ≠ 1 ∧ lo = a + 1 ∧ M = 99 - a) → pCm (Ev d) k_X10_findSeats E 25 [(87, 0), (0, c), (0, n), (0, a), (9, 0), (9, 0)] [(0, lo)] (Wd xs t dd rr s1) := by
        intro lo M hlo
        refine R_istore rfl rfl ?_
        refine fgt wc_X10_findSeats [1, 1, 1, 1, 1, 0] ?_
        show pCm (Ev d) k_X10_findSeats E 27 [(87, 0), (0, c), (0, n), (0, a), (0, lo), (9, 0)] [] _
        rw [show lo = lo + 0 by omega]
        refine loop (pc := 27) (α := Int × Sg) (fun x => (M - x.1).toNat) (fun x => ([(87, 0), (0, c), (0, n), (0, a), (0, lo + x.1), (9, 0)], Wd xs t dd rr x.2)) (fun x => (0 ≤ x.1 ∧ x.1 ≤ M) ∧ Fr [] [(71, 62), (71, 63), (71, 64)] σ x.2 ∧ SQ x.2 (seatIn (costZ (σ 111) (σ 90) (σ 91) (σ 89) c P) a lo x.1 S1)) ?_ (0, s1) ?_
        · intro ⟨m, s2⟩ ⟨hm, hF2, hS2⟩ ih2
          dsimp only at hm hF2 hS2 ⊢
          have hB2 := (SB_in (lo := lo) (m0 := M) hK (a := a) ⟨by omega, by omega⟩ ⟨by omega, by omega⟩ hB m.toNat (by omega)).1
          rw [Int.toNat_of_nonneg hm.1] at hB2
          have hsi := seatIn_s (K := (costZ (σ 111) (σ 90) (σ 91) (σ 89) c P)) (a := a) (lo := lo) (s := S1) hm.1
          generalize hS2e : seatIn (costZ (σ 111) (σ 90) (σ 91) (σ 89) c P) a lo m S1 = S2 at *
          have e26 := hF2.at 71 26 rfl
          have c111 := hF2.fn 111 rfl
          have c90 := hF2.fn 90 rfl
          have c91 := hF2.fn 91 rfl
          have c89 := hF2.fn 89 rfl
          refine R_iload rfl rfl ?_
          have J42 : ∀ v : Int, v = lo + M → pCm (Ev d) k_X10_findSeats E 42 [(87, 0), (0, c), (0, n), (0, a), (0, lo + m), (9, 0)] [(0, v), (0, lo + m)] (Wd xs t dd rr s2) := by
            intro v hv
            refine R_ic rfl (fun h42 => ?_) (fun h42 => ?_)
            · try simp only [ne_eq, b2i_e, b2i_1, Classical.not_not] at h42
              refine R_inc rfl rfl (by omega) (by omega) ?_
              refine R_goto rfl ?_
              refine fgt wc_X10_findSeats [1, 1, 1, 1, 0, 0] ?_
              have em : m = M := by omega
              exact ih (a + 1, s2) ⟨by dsimp only; omega, hF2, by
                dsimp only
                rw [hso]
                rcases hlo with hl | hl
                · rw [if_pos hl.1, ← hl.2.2, ← em]
                  rw [hl.2.1] at hS2e
                  rw [hS2e]; exact hS2
                · rw [if_neg hl.1, ← hl.2.2, ← em]
                  rw [hl.2.1] at hS2e
                  rw [hS2e]; exact hS2⟩ (by dsimp only; omega)
            · try simp only [ne_eq, b2i_e, b2i_1, Classical.not_not] at h42
              refine R_aload rfl rfl rfl ?_
              refine R_iload rfl rfl ?_
              refine R_iload rfl rfl ?_
              refine R_iload rfl rfl ?_
              have hev := sp_X10_costs d (by omega) xs t dd rr s2 c a (lo + m) P (by omega) h0 (by rw [c90, c91, c89]; exact hX) ⟨by omega, by omega⟩ ⟨by omega, by omega⟩
              rw [c111, c90, c91, c89] at hev
              refine R_invv rfl rfl rfl rfl rfl rfl (hev) rfl ?_
              show pCm _ _ _ 53 _ [(0, _)] _
              have hkk := hK a (lo + m) (by omega) (by omega) (by omega) (by omega)
              refine R_istore rfl rfl ?_
              refine R_aload rfl rfl rfl ?_
              refine T_geti rfl rfl rfl ?_
              refine R_if rfl (fun h59 => ?_) (fun h59 => ?_)
              · try simp only [ne_eq, b2i_e, b2i_1, Classical.not_not] at h59
                refine R_aload rfl rfl rfl ?_
                refine R_iload rfl rfl ?_
                refine T_puti rfl rfl rfl ?_
                refine R_aload rfl rfl rfl ?_
                refine R_iload rfl rfl ?_
                refine T_puti rfl rfl rfl ?_
                refine R_aload rfl rfl rfl ?_
                refine R_iload rfl rfl ?_
                refine T_puti rfl rfl rfl ?_
                generalize hs4 : up2 (up2 (up2 s2 71 62 _) 71 63 _) 71 64 _ = s4
                refine R_inc rfl rfl (by omega) (by omega) ?_
                refine R_goto rfl ?_
                refine fgt wc_X10_findSeats [1, 1, 1, 1, 1, 0] ?_
                rw [Int.add_assoc]
                exact ih2 (m + 1, s4) ⟨by dsimp only; omega, by rw [← hs4]; exact ((hF2.up rfl).up rfl).up rfl, by
                  dsimp only
                  rw [hsi, ← hs4]
                  exact SQ_up (by have := hS2.1; omega)⟩ (by dsimp only; omega)
              · try simp only [ne_eq, b2i_e, b2i_1, Classical.not_not] at h59
                refine R_iload rfl rfl ?_
                refine R_aload rfl rfl rfl ?_
                refine T_geti rfl rfl rfl ?_
                refine R_ic rfl (fun h68 => ?_) (fun h68 => ?_)
                · try simp only [ne_eq, b2i_e, b2i_1, Classical.not_not] at h68
                  refine R_inc rfl rfl (by omega) (by omega) ?_
                  refine R_goto rfl ?_
                  refine fgt wc_X10_findSeats [1, 1, 1, 1, 1, 0] ?_
                  rw [Int.add_assoc]
                  exact ih2 (m + 1, s2) ⟨by dsimp only; omega, hF2, by dsimp only; rw [hsi]; exact SQ_no hS2 (by have := hS2.1; omega)⟩ (by dsimp only; omega)
                · try simp only [ne_eq, b2i_e, b2i_1, Classical.not_not] at h68
                  refine R_aload rfl rfl rfl ?_
                  refine R_iload rfl rfl ?_
                  refine T_puti rfl rfl rfl ?_
                  refine R_aload rfl rfl rfl ?_
                  refine R_iload rfl rfl ?_
                  refine T_puti rfl rfl rfl ?_
                  refine R_aload rfl rfl rfl ?_
                  refine R_iload rfl rfl ?_
                  refine T_puti rfl rfl rfl ?_
                  generalize hs4 : up2 (up2 (up2 s2 71 62 _) 71 63 _) 71 64 _ = s4
                  refine R_inc rfl rfl (by omega) (by omega) ?_
                  refine R_goto rfl ?_
                  refine fgt wc_X10_findSeats [1, 1, 1, 1, 1, 0] ?_
                  rw [Int.add_assoc]
                  exact ih2 (m + 1, s4) ⟨by dsimp only; omega, by rw [← hs4]; exact ((hF2.up rfl).up rfl).up rfl, by
                    dsimp only
                    rw [hsi, ← hs4]
                    exact SQ_up (by have := hS2.1; omega)⟩ (by dsimp only; omega)
          refine R_iload rfl rfl ?_
          refine R_push rfl ?_
          refine R_ic rfl (fun h31 => ?_) (fun h31 => ?_)
          · try simp only [ne_eq, b2i_e, b2i_1, Classical.not_not] at h31
            refine R_push rfl ?_
            exact J42 _ (by omega)
          · try simp only [ne_eq, b2i_e, b2i_1, Classical.not_not] at h31
            refine R_iload rfl rfl ?_
            refine R_push rfl ?_
            refine R_add rfl (by omega) (by omega) ?_
            refine R_goto rfl ?_
            exact J42 _ (by omega)
        · exact ⟨by dsimp only; omega, hF, hS⟩
      refine R_iload rfl rfl ?_
      refine R_push rfl ?_
      refine R_ic rfl (fun h15 => ?_) (fun h15 => ?_)
      · try simp only [ne_eq, b2i_e, b2i_1, Classical.not_not] at h15
        refine R_iload rfl rfl ?_
        refine R_push rfl ?_
        refine R_add rfl (by omega) (by omega) ?_
        first | exact J25 _ 1 (by omega) | exact J25 _ (99 - a) (by omega)
      · try simp only [ne_eq, b2i_e, b2i_1, Classical.not_not] at h15
        refine R_iload rfl rfl ?_
        refine R_goto rfl ?_
        first | exact J25 _ 1 (by omega) | exact J25 _ (99 - a) (by omega)
  · exact ⟨by dsimp only; omega, hF0, hq0⟩

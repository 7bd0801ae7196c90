theorem evK {d μ nL n n2 : Nat} {code : Nat → Option pT} {as : List pV} {T T2 : List (Nat × Nat × Nat)} {σ : Sg} {res : pV} {Post : Sg → Prop} (hP : pP μ = (nL, code)) (hdt : DetC code) (hb : ∀ σ' : Sg, (Wc n T σ).1.length ≤ (Wc n2 T2 σ').1.length ∧ nS (Wc n T σ) ≤ nS (Wc n2 T2 σ')) (hf : Nat.ble (as.flatMap (fun v => if v.1 = 1 then [v, ((9, 0) : pV)] else [v])).length nL = true)
    (h : ∀ E : pE, (∀ r1 σ', r1 = res → Post σ' → E r1 (Wc n2 T2 σ')) → pCm (Ev d) code E 0 (pEnt nL as) [] (Wc n T σ)) : ∃ σ', Ev (d + 1) μ as (Wc n T σ) res (Wc n2 T2 σ') ∧ Post σ' := by
  obtain ⟨r, w', ⟨σ', e1, e2, hp⟩, k⟩ := cm_ex hdt (h (fun r1 w1 => ∃ σ', r1 = res ∧ w1 = Wc n2 T2 σ' ∧ Post σ') (fun r1 σ' e hp => ⟨σ', e, rfl, hp⟩))
  subst e1; subst e2
  exact ⟨σ', ev_in (hb σ') (by rw [hP]; exact hf) (by rw [hP]; exact k), hp⟩
theorem Fr.zr {rows : List Nat} {sl : List (Nat × Int)} {σ s : Sg} {n : Nat} (h : Fr rows sl σ s) (h1 : rows.all (fun k => Nat.blt k n) = true) (h2 : sl.all (fun q => Nat.blt q.1 n) = true) (hz : ∀ (k : Nat) (i : Int), n ≤ k → σ k i = 0) : ∀ (k : Nat) (i : Int), n ≤ k → s k i = 0 := fun k i hk => by
  rw [h k i (fun z => by have := Nat.le_of_ble_eq_true (List.all_eq_true.mp h1 k z); omega) (fun z => by have := Nat.le_of_ble_eq_true (List.all_eq_true.mp h2 (k, i) z); dsimp only at this; omega)]
  exact hz k i hk
set_option maxRecDepth 20000 in
set_option maxHeartbeats 2000000 in
theorem ct_X7_init_53 (d : Nat) (hd : 7 ≤ d) (σ : Sg) (hz : ∀ (k : Nat) (i : Int), 53 ≤ k → σ k i = 0) : ∃ σ', Ev d 213 [(68, 0)] (Wc 53 [(0, 4, 52), (36, 1, 28), (36, 0, 17), (36, 5, 67), (36, 4, 60), (44, 8, 66), (44, 7, 65), (44, 6, 64), (44, 5, 63), (44, 4, 62), (44, 3, 61), (36, 3, 53), (37, 8, 59), (37, 7, 58), (37, 6, 57), (37, 5, 56), (37, 4, 55), (37, 3, 54), (0, 3, 44), (28, 1, 37), (28, 0, 17), (28, 8, 51), (28, 7, 50), (28, 6, 49), (28, 5, 48), (28, 4, 47), (28, 3, 46), (28, 2, 45), (0, 2, 37), (21, 6, 43), (21, 5, 42), (21, 4, 41), (21, 3, 40), (21, 2, 39), (21, 1, 38), (0, 1, 28), (12, 7, 36), (12, 6, 35), (12, 5, 34), (12, 4, 33), (12, 3, 32), (12, 2, 31), (12, 1, 30), (12, 0, 29), (0, 0, 17), (1, 10, 27), (1, 9, 26), (1, 8, 25), (1, 7, 24), (1, 6, 23), (1, 5, 22), (1, 4, 21), (1, 3, 20), (1, 2, 19), (1, 1, 18)] σ) (8, 0) (Wc 57 [(52, 11, 72), (52, 10, 71), (52, 9, 70), (52, 1, 69), (0, 4, 52), (36, 1, 28), (36, 0, 17), (36, 5, 67), (36, 4, 60), (44, 8, 66), (44, 7, 65), (44, 6, 64), (44, 5, 63), (44, 4, 62), (44, 3, 61), (36, 3, 53), (37, 8, 59), (37, 7, 58), (37, 6, 57), (37, 5, 56), (37, 4, 55), (37, 3, 54), (0, 3, 44), (28, 1, 37), (28, 0, 17), (28, 8, 51), (28, 7, 50), (28, 6, 49), (28, 5, 48), (28, 4, 47), (28, 3, 46), (28, 2, 45), (0, 2, 37), (21, 6, 43), (21, 5, 42), (21, 4, 41), (21, 3, 40), (21, 2, 39), (21, 1, 38), (0, 1, 28), (12, 7, 36), (12, 6, 35), (12, 5, 34), (12, 4, 33), (12, 3, 32), (12, 2, 31), (12, 1, 30), (12, 0, 29), (0, 0, 17), (1, 10, 27), (1, 9, 26), (1, 8, 25), (1, 7, 24), (1, 6, 23), (1, 5, 22), (1, 4, 21), (1, 3, 20), (1, 2, 19), (1, 1, 18)] σ') ∧ Fr [54, 55] [] σ σ' ∧ (∀ w, 0 ≤ w → w < 8 → σ' 54 w = wvl 32 (wdg w) (wln w)) ∧ ∀ w, 0 ≤ w → w < 12 → σ' 55 w = wvl 32 (wdg (8 + w)) (wln (8 + w)) := by
  obtain ⟨d, rfl⟩ : ∃ e, d = e + 1 := ⟨d - 1, by omega⟩
  refine evK (nL := 1) (code := k_X7_init) rfl dc_X7_init (fun _ => Wc_b rfl rfl) rfl (fun E hE => ?_)
  show pCm (Ev d) k_X7_init E 0 [(68, 0)] [] _
  refine R_aload rfl rfl rfl ?_
  refine R_oinit rfl rfl ?_
  refine R_aload rfl rfl rfl ?_
  refine R_push rfl ?_
  refine N_newa (N := 1000) rfl rfl rfl rfl rfl rfl (fun i => hz _ _ (by decide)) ?_
  refine N_putr (v := 53) (o := 52) rfl rfl rfl ?_
  refine R_aload rfl rfl rfl ?_
  refine R_push rfl ?_
  refine N_newa (N := 8) rfl rfl rfl rfl rfl rfl (fun i => hz _ _ (by decide)) ?_
  refine N_putr (v := 54) (o := 52) rfl rfl rfl ?_
  refine R_aload rfl rfl rfl ?_
  refine R_push rfl ?_
  refine N_newa (N := 12) rfl rfl rfl rfl rfl rfl (fun i => hz _ _ (by decide)) ?_
  refine N_putr (v := 55) (o := 52) rfl rfl rfl ?_
  refine R_aload rfl rfl rfl ?_
  refine R_push rfl ?_
  refine N_newa (N := 8) rfl rfl rfl rfl rfl rfl (fun i => hz _ _ (by decide)) ?_
  refine N_putr (v := 56) (o := 52) rfl rfl rfl ?_
  refine R_push rfl ?_
  refine R_aload rfl rfl rfl ?_
  refine N_getr (v := 70) rfl rfl rfl rfl ?_
  obtain ⟨s1, hev1, hF1, hW1⟩ := sp_X7_spell_54 d (by omega) σ [(52, 11, 72), (52, 10, 71), (52, 9, 70), (52, 1, 69), (0, 4, 52), (36, 1, 28), (36, 0, 17), (36, 5, 67), (36, 4, 60), (44, 8, 66), (44, 7, 65), (44, 6, 64), (44, 5, 63), (44, 4, 62), (44, 3, 61), (36, 3, 53), (37, 8, 59), (37, 7, 58), (37, 6, 57), (37, 5, 56), (37, 4, 55), (37, 3, 54), (0, 3, 44), (28, 1, 37), (28, 0, 17), (28, 8, 51), (28, 7, 50), (28, 6, 49), (28, 5, 48), (28, 4, 47), (28, 3, 46), (28, 2, 45), (0, 2, 37), (21, 6, 43), (21, 5, 42), (21, 4, 41), (21, 3, 40), (21, 2, 39), (21, 1, 38), (0, 1, 28), (12, 7, 36), (12, 6, 35), (12, 5, 34), (12, 4, 33), (12, 3, 32), (12, 2, 31), (12, 1, 30), (12, 0, 29), (0, 0, 17), (1, 10, 27), (1, 9, 26), (1, 8, 25), (1, 7, 24), (1, 6, 23), (1, 5, 22), (1, 4, 21), (1, 3, 20), (1, 2, 19), (1, 1, 18)] (fun i => hz _ _ (by decide))
  refine R_inv rfl rfl rfl rfl rfl hev1 rfl ?_
  show pCm _ _ _ 46 _ [] _
  refine R_push rfl ?_
  refine R_aload rfl rfl rfl ?_
  refine N_getr (v := 71) rfl rfl rfl rfl ?_
  obtain ⟨s2, hev2, hF2, hW2⟩ := sp_X7_spell_55 d (by omega) s1 [(52, 11, 72), (52, 10, 71), (52, 9, 70), (52, 1, 69), (0, 4, 52), (36, 1, 28), (36, 0, 17), (36, 5, 67), (36, 4, 60), (44, 8, 66), (44, 7, 65), (44, 6, 64), (44, 5, 63), (44, 4, 62), (44, 3, 61), (36, 3, 53), (37, 8, 59), (37, 7, 58), (37, 6, 57), (37, 5, 56), (37, 4, 55), (37, 3, 54), (0, 3, 44), (28, 1, 37), (28, 0, 17), (28, 8, 51), (28, 7, 50), (28, 6, 49), (28, 5, 48), (28, 4, 47), (28, 3, 46), (28, 2, 45), (0, 2, 37), (21, 6, 43), (21, 5, 42), (21, 4, 41), (21, 3, 40), (21, 2, 39), (21, 1, 38), (0, 1, 28), (12, 7, 36), (12, 6, 35), (12, 5, 34), (12, 4, 33), (12, 3, 32), (12, 2, 31), (12, 1, 30), (12, 0, 29), (0, 0, 17), (1, 10, 27), (1, 9, 26), (1, 8, 25), (1, 7, 24), (1, 6, 23), (1, 5, 22), (1, 4, 21), (1, 3, 20), (1, 2, 19), (1, 1, 18)] (fun i => by rw [hF1.row 55 rfl]; exact hz _ _ (by decide))
  refine R_inv rfl rfl rfl rfl rfl hev2 rfl ?_
  show pCm _ _ _ 55 _ [] _
  refine R_vret rfl ?_
  exact hE _ _ rfl ⟨Fr.tr hF1 hF2 rfl rfl, by rw [hF2.fn 54 rfl]; exact hW1, hW2⟩
set_option maxRecDepth 20000 in
set_option maxHeartbeats 2000000 in
theorem ct_X0_init_58 (d : Nat) (hd : 1 ≤ d) (σ : Sg) (hz : ∀ (k : Nat) (i : Int), 58 ≤ k → σ k i = 0) : Ev d 128 [(73, 0), (17, 0), (28, 0), (37, 0), (44, 0)] (Wc 58 [(0, 5, 68), (52, 11, 72), (52, 10, 71), (52, 9, 70), (52, 1, 69), (0, 4, 52), (36, 1, 28), (36, 0, 17), (36, 5, 67), (36, 4, 60), (44, 8, 66), (44, 7, 65), (44, 6, 64), (44, 5, 63), (44, 4, 62), (44, 3, 61), (36, 3, 53), (37, 8, 59), (37, 7, 58), (37, 6, 57), (37, 5, 56), (37, 4, 55), (37, 3, 54), (0, 3, 44), (28, 1, 37), (28, 0, 17), (28, 8, 51), (28, 7, 50), (28, 6, 49), (28, 5, 48), (28, 4, 47), (28, 3, 46), (28, 2, 45), (0, 2, 37), (21, 6, 43), (21, 5, 42), (21, 4, 41), (21, 3, 40), (21, 2, 39), (21, 1, 38), (0, 1, 28), (12, 7, 36), (12, 6, 35), (12, 5, 34), (12, 4, 33), (12, 3, 32), (12, 2, 31), (12, 1, 30), (12, 0, 29), (0, 0, 17), (1, 10, 27), (1, 9, 26), (1, 8, 25), (1, 7, 24), (1, 6, 23), (1, 5, 22), (1, 4, 21), (1, 3, 20), (1, 2, 19), (1, 1, 18)] σ) (8, 0) (Wc 64 [(57, 3, 44), (57, 2, 37), (57, 1, 28), (57, 0, 17), (57, 11, 79), (57, 10, 78), (57, 9, 77), (57, 8, 76), (57, 7, 75), (57, 6, 74), (0, 5, 68), (52, 11, 72), (52, 10, 71), (52, 9, 70), (52, 1, 69), (0, 4, 52), (36, 1, 28), (36, 0, 17), (36, 5, 67), (36, 4, 60), (44, 8, 66), (44, 7, 65), (44, 6, 64), (44, 5, 63), (44, 4, 62), (44, 3, 61), (36, 3, 53), (37, 8, 59), (37, 7, 58), (37, 6, 57), (37, 5, 56), (37, 4, 55), (37, 3, 54), (0, 3, 44), (28, 1, 37), (28, 0, 17), (28, 8, 51), (28, 7, 50), (28, 6, 49), (28, 5, 48), (28, 4, 47), (28, 3, 46), (28, 2, 45), (0, 2, 37), (21, 6, 43), (21, 5, 42), (21, 4, 41), (21, 3, 40), (21, 2, 39), (21, 1, 38), (0, 1, 28), (12, 7, 36), (12, 6, 35), (12, 5, 34), (12, 4, 33), (12, 3, 32), (12, 2, 31), (12, 1, 30), (12, 0, 29), (0, 0, 17), (1, 10, 27), (1, 9, 26), (1, 8, 25), (1, 7, 24), (1, 6, 23), (1, 5, 22), (1, 4, 21), (1, 3, 20), (1, 2, 19), (1, 1, 18)] (up2 (σ) 57 4 (-1))) := by
  obtain ⟨d, rfl⟩ : ∃ e, d = e + 1 := ⟨d - 1, by omega⟩
  refine evP (nL := 5) (code := k_X0_init) rfl (Wc_b rfl rfl) rfl (fun E hE => ?_)
  show pCm (Ev d) k_X0_init E 0 [(73, 0), (17, 0), (28, 0), (37, 0), (44, 0)] [] _
  refine R_aload rfl rfl rfl ?_
  refine R_oinit rfl rfl ?_
  refine R_aload rfl rfl rfl ?_
  refine R_push rfl ?_
  refine N_puti rfl rfl rfl ?_
  refine R_aload rfl rfl rfl ?_
  refine R_push rfl ?_
  refine N_newa (N := 12) rfl rfl rfl rfl rfl rfl (fun i => by first | exact hz _ _ (by decide) | (rw [up_k (by decide)]; exact hz _ _ (by decide))) ?_
  refine N_putr (v := 58) (o := 57) rfl rfl rfl ?_
  refine R_aload rfl rfl rfl ?_
  refine R_push rfl ?_
  refine N_newa (N := 12) rfl rfl rfl rfl rfl rfl (fun i => by first | exact hz _ _ (by decide) | (rw [up_k (by decide)]; exact hz _ _ (by decide))) ?_
  refine N_putr (v := 59) (o := 57) rfl rfl rfl ?_
  refine R_aload rfl rfl rfl ?_
  refine R_push rfl ?_
  refine N_newa (N := 144) rfl rfl rfl rfl rfl rfl (fun i => by first | exact hz _ _ (by decide) | (rw [up_k (by decide)]; exact hz _ _ (by decide))) ?_
  refine N_putr (v := 60) (o := 57) rfl rfl rfl ?_
  refine R_aload rfl rfl rfl ?_
  refine R_push rfl ?_
  refine N_newa (N := 12) rfl rfl rfl rfl rfl rfl (fun i => by first | exact hz _ _ (by decide) | (rw [up_k (by decide)]; exact hz _ _ (by decide))) ?_
  refine N_putr (v := 61) (o := 57) rfl rfl rfl ?_
  refine R_aload rfl rfl rfl ?_
  refine R_push rfl ?_
  refine N_newa (N := 4096) rfl rfl rfl rfl rfl rfl (fun i => by first | exact hz _ _ (by decide) | (rw [up_k (by decide)]; exact hz _ _ (by decide))) ?_
  refine N_putr (v := 62) (o := 57) rfl rfl rfl ?_
  refine R_aload rfl rfl rfl ?_
  refine R_push rfl ?_
  refine N_newa (N := 12) rfl rfl rfl rfl rfl rfl (fun i => by first | exact hz _ _ (by decide) | (rw [up_k (by decide)]; exact hz _ _ (by decide))) ?_
  refine N_putr (v := 63) (o := 57) rfl rfl rfl ?_
  refine R_aload rfl rfl rfl ?_
  refine R_aload rfl rfl rfl ?_
  refine N_putr (v := 1) (o := 57) rfl rfl rfl ?_
  refine R_aload rfl rfl rfl ?_
  refine R_aload rfl rfl rfl ?_
  refine N_putr (v := 12) (o := 57) rfl rfl rfl ?_
  refine R_aload rfl rfl rfl ?_
  refine R_aload rfl rfl rfl ?_
  refine N_putr (v := 21) (o := 57) rfl rfl rfl ?_
  refine R_aload rfl rfl rfl ?_
  refine R_aload rfl rfl rfl ?_
  refine N_putr (v := 28) (o := 57) rfl rfl rfl ?_
  refine R_vret rfl ?_
  exact hE _ rfl
set_option maxRecDepth 20000 in
set_option maxHeartbeats 2000000 in
theorem ct_X2_init_65 (d : Nat) (hd : 1 ≤ d) (σ : Sg) (hz : ∀ (k : Nat) (i : Int), 65 ≤ k → σ k i = 0) : Ev d 162 [(80, 0), (17, 0), (44, 0)] (Wc 65 [(0, 6, 73), (57, 3, 44), (57, 2, 37), (57, 1, 28), (57, 0, 17), (57, 11, 79), (57, 10, 78), (57, 9, 77), (57, 8, 76), (57, 7, 75), (57, 6, 74), (0, 5, 68), (52, 11, 72), (52, 10, 71), (52, 9, 70), (52, 1, 69), (0, 4, 52), (36, 1, 28), (36, 0, 17), (36, 5, 67), (36, 4, 60), (44, 8, 66), (44, 7, 65), (44, 6, 64), (44, 5, 63), (44, 4, 62), (44, 3, 61), (36, 3, 53), (37, 8, 59), (37, 7, 58), (37, 6, 57), (37, 5, 56), (37, 4, 55), (37, 3, 54), (0, 3, 44), (28, 1, 37), (28, 0, 17), (28, 8, 51), (28, 7, 50), (28, 6, 49), (28, 5, 48), (28, 4, 47), (28, 3, 46), (28, 2, 45), (0, 2, 37), (21, 6, 43), (21, 5, 42), (21, 4, 41), (21, 3, 40), (21, 2, 39), (21, 1, 38), (0, 1, 28), (12, 7, 36), (12, 6, 35), (12, 5, 34), (12, 4, 33), (12, 3, 32), (12, 2, 31), (12, 1, 30), (12, 0, 29), (0, 0, 17), (1, 10, 27), (1, 9, 26), (1, 8, 25), (1, 7, 24), (1, 6, 23), (1, 5, 22), (1, 4, 21), (1, 3, 20), (1, 2, 19), (1, 1, 18)] σ) (8, 0) (Wc 71 [(64, 1, 44), (64, 0, 17), (64, 8, 86), (64, 7, 85), (64, 6, 84), (64, 5, 83), (64, 4, 82), (64, 3, 81), (0, 6, 73), (57, 3, 44), (57, 2, 37), (57, 1, 28), (57, 0, 17), (57, 11, 79), (57, 10, 78), (57, 9, 77), (57, 8, 76), (57, 7, 75), (57, 6, 74), (0, 5, 68), (52, 11, 72), (52, 10, 71), (52, 9, 70), (52, 1, 69), (0, 4, 52), (36, 1, 28), (36, 0, 17), (36, 5, 67), (36, 4, 60), (44, 8, 66), (44, 7, 65), (44, 6, 64), (44, 5, 63), (44, 4, 62), (44, 3, 61), (36, 3, 53), (37, 8, 59), (37, 7, 58), (37, 6, 57), (37, 5, 56), (37, 4, 55), (37, 3, 54), (0, 3, 44), (28, 1, 37), (28, 0, 17), (28, 8, 51), (28, 7, 50), (28, 6, 49), (28, 5, 48), (28, 4, 47), (28, 3, 46), (28, 2, 45), (0, 2, 37), (21, 6, 43), (21, 5, 42), (21, 4, 41), (21, 3, 40), (21, 2, 39), (21, 1, 38), (0, 1, 28), (12, 7, 36), (12, 6, 35), (12, 5, 34), (12, 4, 33), (12, 3, 32), (12, 2, 31), (12, 1, 30), (12, 0, 29), (0, 0, 17), (1, 10, 27), (1, 9, 26), (1, 8, 25), (1, 7, 24), (1, 6, 23), (1, 5, 22), (1, 4, 21), (1, 3, 20), (1, 2, 19), (1, 1, 18)] (up2 (σ) 64 10 (-1))) := by
  obtain ⟨d, rfl⟩ : ∃ e, d = e + 1 := ⟨d - 1, by omega⟩
  refine evP (nL := 3) (code := k_X2_init) rfl (Wc_b rfl rfl) rfl (fun E hE => ?_)
  show pCm (Ev d) k_X2_init E 0 [(80, 0), (17, 0), (44, 0)] [] _
  refine R_aload rfl rfl rfl ?_
  refine R_oinit rfl rfl ?_
  refine R_aload rfl rfl rfl ?_
  refine R_push rfl ?_
  refine N_newa (N := 20) rfl rfl rfl rfl rfl rfl (fun i => by first | exact hz _ _ (by decide) | (skip; exact hz _ _ (by decide))) ?_
  refine N_putr (v := 65) (o := 64) rfl rfl rfl ?_
  refine R_aload rfl rfl rfl ?_
  refine R_push rfl ?_
  refine N_newa (N := 20) rfl rfl rfl rfl rfl rfl (fun i => by first | exact hz _ _ (by decide) | (skip; exact hz _ _ (by decide))) ?_
  refine N_putr (v := 66) (o := 64) rfl rfl rfl ?_
  refine R_aload rfl rfl rfl ?_
  refine R_push rfl ?_
  refine N_newa (N := 20) rfl rfl rfl rfl rfl rfl (fun i => by first | exact hz _ _ (by decide) | (skip; exact hz _ _ (by decide))) ?_
  refine N_putr (v := 67) (o := 64) rfl rfl rfl ?_
  refine R_aload rfl rfl rfl ?_
  refine R_push rfl ?_
  refine N_newa (N := 400) rfl rfl rfl rfl rfl rfl (fun i => by first | exact hz _ _ (by decide) | (skip; exact hz _ _ (by decide))) ?_
  refine N_putr (v := 68) (o := 64) rfl rfl rfl ?_
  refine R_aload rfl rfl rfl ?_
  refine R_push rfl ?_
  refine N_newa (N := 400) rfl rfl rfl rfl rfl rfl (fun i => by first | exact hz _ _ (by decide) | (skip; exact hz _ _ (by decide))) ?_
  refine N_putr (v := 69) (o := 64) rfl rfl rfl ?_
  refine R_aload rfl rfl rfl ?_
  refine R_push rfl ?_
  refine N_newa (N := 40) rfl rfl rfl rfl rfl rfl (fun i => by first | exact hz _ _ (by decide) | (skip; exact hz _ _ (by decide))) ?_
  refine N_putr (v := 70) (o := 64) rfl rfl rfl ?_
  refine R_aload rfl rfl rfl ?_
  refine R_push rfl ?_
  refine N_puti rfl rfl rfl ?_
  refine R_aload rfl rfl rfl ?_
  refine R_aload rfl rfl rfl ?_
  refine N_putr (v := 1) (o := 64) rfl rfl rfl ?_
  refine R_aload rfl rfl rfl ?_
  refine R_aload rfl rfl rfl ?_
  refine N_putr (v := 28) (o := 64) rfl rfl rfl ?_
  refine R_vret rfl ?_
  exact hE _ rfl
set_option maxRecDepth 20000 in
set_option maxHeartbeats 4000000 in
theorem ct_X9_init (d : Nat) (hd : 8 ≤ d) (σ : Sg) (hz : ∀ (k : Nat) (i : Int), 1 ≤ k → σ k i = 0) : ∃ σ', Ev d 0 [(16, 0)] (Wc 1 [] σ) (8, 0) (Wc 71 [(0, 7, 80), (64, 1, 44), (64, 0, 17), (64, 8, 86), (64, 7, 85), (64, 6, 84), (64, 5, 83), (64, 4, 82), (64, 3, 81), (0, 6, 73), (57, 3, 44), (57, 2, 37), (57, 1, 28), (57, 0, 17), (57, 11, 79), (57, 10, 78), (57, 9, 77), (57, 8, 76), (57, 7, 75), (57, 6, 74), (0, 5, 68), (52, 11, 72), (52, 10, 71), (52, 9, 70), (52, 1, 69), (0, 4, 52), (36, 1, 28), (36, 0, 17), (36, 5, 67), (36, 4, 60), (44, 8, 66), (44, 7, 65), (44, 6, 64), (44, 5, 63), (44, 4, 62), (44, 3, 61), (36, 3, 53), (37, 8, 59), (37, 7, 58), (37, 6, 57), (37, 5, 56), (37, 4, 55), (37, 3, 54), (0, 3, 44), (28, 1, 37), (28, 0, 17), (28, 8, 51), (28, 7, 50), (28, 6, 49), (28, 5, 48), (28, 4, 47), (28, 3, 46), (28, 2, 45), (0, 2, 37), (21, 6, 43), (21, 5, 42), (21, 4, 41), (21, 3, 40), (21, 2, 39), (21, 1, 38), (0, 1, 28), (12, 7, 36), (12, 6, 35), (12, 5, 34), (12, 4, 33), (12, 3, 32), (12, 2, 31), (12, 1, 30), (12, 0, 29), (0, 0, 17), (1, 10, 27), (1, 9, 26), (1, 8, 25), (1, 7, 24), (1, 6, 23), (1, 5, 22), (1, 4, 21), (1, 3, 20), (1, 2, 19), (1, 1, 18)] σ') ∧ Fr [54, 55] [(36, 2), (57, 4), (64, 10)] σ σ' ∧ ((∀ w, 0 ≤ w → w < 8 → σ' 54 w = wvl 32 (wdg w) (wln w)) ∧ ∀ w, 0 ≤ w → w < 12 → σ' 55 w = wvl 32 (wdg (8 + w)) (wln (8 + w))) ∧ σ' 36 2 = 20 ∧ σ' 57 4 = -1 ∧ σ' 64 10 = -1 := by
  obtain ⟨d, rfl⟩ : ∃ e, d = e + 1 := ⟨d - 1, by omega⟩
  refine evK (nL := 1) (code := k_X9_init) rfl dc_X9_init (fun _ => Wc_b rfl rfl) rfl (fun E hE => ?_)
  show pCm (Ev d) k_X9_init E 0 [(16, 0)] [] _
  refine R_aload rfl rfl rfl ?_
  refine R_oinit rfl rfl ?_
  refine R_aload rfl rfl rfl ?_
  refine N_new rfl rfl rfl rfl (fun i => by first | exact hz _ _ (by decide) | (skip; exact hz _ _ (by decide))) ?_
  refine R_dup rfl rfl ?_
  refine R_invi rfl rfl rfl rfl rfl (ct_X6_init_2 d (by omega) (σ) (fun k i hk => by first | exact hz k i (by omega) | (skip; exact hz k i (by omega)))) rfl ?_
  show pCm _ _ _ 12 _ [(17, 0), (16, 0)] _
  refine N_putr (v := 1) (o := 0) rfl rfl rfl ?_
  refine R_aload rfl rfl rfl ?_
  refine N_new rfl rfl rfl rfl (fun i => by first | exact hz _ _ (by decide) | (skip; exact hz _ _ (by decide))) ?_
  refine R_dup rfl rfl ?_
  refine R_invi rfl rfl rfl rfl rfl (ct_X1_init_13 d (by omega) (σ) (fun k i hk => by first | exact hz k i (by omega) | (skip; exact hz k i (by omega)))) rfl ?_
  show pCm _ _ _ 23 _ [(28, 0), (16, 0)] _
  refine N_putr (v := 12) (o := 0) rfl rfl rfl ?_
  refine R_aload rfl rfl rfl ?_
  refine N_new rfl rfl rfl rfl (fun i => by first | exact hz _ _ (by decide) | (skip; exact hz _ _ (by decide))) ?_
  refine R_dup rfl rfl ?_
  refine R_invi rfl rfl rfl rfl rfl (ct_X4_init_22 d (by omega) (σ) (fun k i hk => by first | exact hz k i (by omega) | (skip; exact hz k i (by omega)))) rfl ?_
  show pCm _ _ _ 34 _ [(37, 0), (16, 0)] _
  refine N_putr (v := 21) (o := 0) rfl rfl rfl ?_
  refine R_aload rfl rfl rfl ?_
  refine N_new rfl rfl rfl rfl (fun i => by first | exact hz _ _ (by decide) | (skip; exact hz _ _ (by decide))) ?_
  refine R_dup rfl rfl ?_
  refine R_aload rfl rfl rfl ?_
  refine N_getr (v := 17) rfl rfl rfl rfl ?_
  refine R_aload rfl rfl rfl ?_
  refine N_getr (v := 37) rfl rfl rfl rfl ?_
  refine R_invi rfl rfl rfl rfl rfl (ct_X3_init_29 d (by omega) (σ) (fun k i hk => by first | exact hz k i (by omega) | (skip; exact hz k i (by omega)))) rfl ?_
  show pCm _ _ _ 53 _ [(44, 0), (16, 0)] _
  refine N_putr (v := 28) (o := 0) rfl rfl rfl ?_
  refine R_aload rfl rfl rfl ?_
  refine N_new rfl rfl rfl rfl (fun i => by first | exact hz _ _ (by decide) | (skip; exact hz _ _ (by decide))) ?_
  refine R_dup rfl rfl ?_
  refine R_aload rfl rfl rfl ?_
  refine N_getr (v := 17) rfl rfl rfl rfl ?_
  refine R_aload rfl rfl rfl ?_
  refine N_getr (v := 28) rfl rfl rfl rfl ?_
  refine R_invi rfl rfl rfl rfl rfl (ct_X5_init_37 d (by omega) (σ) (fun k i hk => by first | exact hz k i (by omega) | (skip; exact hz k i (by omega)))) rfl ?_
  show pCm _ _ _ 72 _ [(52, 0), (16, 0)] _
  refine N_putr (v := 36) (o := 0) rfl rfl rfl ?_
  refine R_aload rfl rfl rfl ?_
  refine N_new rfl rfl rfl rfl (fun i => by first | exact hz _ _ (by decide) | (rw [up_k (by decide)]; exact hz _ _ (by decide))) ?_
  refine R_dup rfl rfl ?_
  obtain ⟨s1, hev1, hF1, hW1, hW2⟩ := ct_X7_init_53 d (by omega) (up2 (σ) 36 2 (20)) (fun k i hk => by first | exact hz k i (by omega) | (rw [up_k (by omega)]; exact hz k i (by omega)))
  refine R_invi rfl rfl rfl rfl rfl hev1 rfl ?_
  have hzb : ∀ (k : Nat) (i : Int), 57 ≤ k → s1 k i = 0 := Fr.zr hF1 rfl rfl (fun k i hk => by first | exact hz k i (by omega) | (rw [up_k (by omega)]; exact hz k i (by omega)))
  show pCm _ _ _ 83 _ [(68, 0), (16, 0)] _
  refine N_putr (v := 52) (o := 0) rfl rfl rfl ?_
  refine R_aload rfl rfl rfl ?_
  refine N_new rfl rfl rfl rfl (fun i => by first | exact hzb _ _ (by decide) | (skip; exact hzb _ _ (by decide))) ?_
  refine R_dup rfl rfl ?_
  refine R_aload rfl rfl rfl ?_
  refine N_getr (v := 17) rfl rfl rfl rfl ?_
  refine R_aload rfl rfl rfl ?_
  refine N_getr (v := 28) rfl rfl rfl rfl ?_
  refine R_aload rfl rfl rfl ?_
  refine N_getr (v := 37) rfl rfl rfl rfl ?_
  refine R_aload rfl rfl rfl ?_
  refine N_getr (v := 44) rfl rfl rfl rfl ?_
  refine R_invi rfl rfl rfl rfl rfl (ct_X0_init_58 d (by omega) (s1) (fun k i hk => by first | exact hzb k i (by omega) | (skip; exact hzb k i (by omega)))) rfl ?_
  show pCm _ _ _ 110 _ [(73, 0), (16, 0)] _
  refine N_putr (v := 57) (o := 0) rfl rfl rfl ?_
  refine R_aload rfl rfl rfl ?_
  refine N_new rfl rfl rfl rfl (fun i => by first | exact hzb _ _ (by decide) | (rw [up_k (by decide)]; exact hzb _ _ (by decide))) ?_
  refine R_dup rfl rfl ?_
  refine R_aload rfl rfl rfl ?_
  refine N_getr (v := 17) rfl rfl rfl rfl ?_
  refine R_aload rfl rfl rfl ?_
  refine N_getr (v := 44) rfl rfl rfl rfl ?_
  refine R_invi rfl rfl rfl rfl rfl (ct_X2_init_65 d (by omega) (up2 (s1) 57 4 (-1)) (fun k i hk => by first | exact hzb k i (by omega) | (rw [up_k (by omega)]; exact hzb k i (by omega)))) rfl ?_
  show pCm _ _ _ 129 _ [(80, 0), (16, 0)] _
  refine N_putr (v := 64) (o := 0) rfl rfl rfl ?_
  refine R_vret rfl ?_
  have hB : Fr [] [(36, 2)] σ (up2 (σ) 36 2 (20)) := (Fr.rf).up rfl
  have hA : Fr [] [(57, 4), (64, 10)] s1 (up2 (up2 (s1) 57 4 (-1)) 64 10 (-1)) := ((Fr.rf).up rfl).up rfl
  exact hE _ _ rfl ⟨Fr.tr (r3 := [54, 55]) (s3 := [(36, 2), (57, 4), (64, 10)]) (Fr.tr (r3 := [54, 55]) (s3 := [(36, 2), (57, 4), (64, 10)]) hB hF1 rfl rfl) hA rfl rfl, ⟨by rw [hA.fn 54 rfl]; exact hW1, by rw [hA.fn 55 rfl]; exact hW2⟩, by rw [hA.at 36 2 rfl, hF1.at 36 2 rfl]; simp [up2], by simp [up2], by simp [up2]⟩
set_option maxRecDepth 20000 in
set_option maxHeartbeats 2000000 in
theorem ct_X10_init_72 (d : Nat) (hd : 1 ≤ d) (σ : Sg) (hz : ∀ (k : Nat) (i : Int), 72 ≤ k → σ k i = 0) : Ev d 34 [(87, 0)] (Wc 72 [(0, 7, 80), (64, 1, 44), (64, 0, 17), (64, 8, 86), (64, 7, 85), (64, 6, 84), (64, 5, 83), (64, 4, 82), (64, 3, 81), (0, 6, 73), (57, 3, 44), (57, 2, 37), (57, 1, 28), (57, 0, 17), (57, 11, 79), (57, 10, 78), (57, 9, 77), (57, 8, 76), (57, 7, 75), (57, 6, 74), (0, 5, 68), (52, 11, 72), (52, 10, 71), (52, 9, 70), (52, 1, 69), (0, 4, 52), (36, 1, 28), (36, 0, 17), (36, 5, 67), (36, 4, 60), (44, 8, 66), (44, 7, 65), (44, 6, 64), (44, 5, 63), (44, 4, 62), (44, 3, 61), (36, 3, 53), (37, 8, 59), (37, 7, 58), (37, 6, 57), (37, 5, 56), (37, 4, 55), (37, 3, 54), (0, 3, 44), (28, 1, 37), (28, 0, 17), (28, 8, 51), (28, 7, 50), (28, 6, 49), (28, 5, 48), (28, 4, 47), (28, 3, 46), (28, 2, 45), (0, 2, 37), (21, 6, 43), (21, 5, 42), (21, 4, 41), (21, 3, 40), (21, 2, 39), (21, 1, 38), (0, 1, 28), (12, 7, 36), (12, 6, 35), (12, 5, 34), (12, 4, 33), (12, 3, 32), (12, 2, 31), (12, 1, 30), (12, 0, 29), (0, 0, 17), (1, 10, 27), (1, 9, 26), (1, 8, 25), (1, 7, 24), (1, 6, 23), (1, 5, 22), (1, 4, 21), (1, 3, 20), (1, 2, 19), (1, 1, 18)] σ) (8, 0) (Wc 122 [(71, 68, 137), (71, 67, 136), (71, 66, 135), (71, 61, 134), (71, 60, 133), (71, 59, 132), (71, 58, 131), (71, 57, 130), (71, 56, 129), (71, 54, 128), (71, 53, 127), (71, 52, 126), (71, 51, 125), (71, 50, 124), (71, 49, 123), (71, 48, 122), (71, 47, 121), (71, 46, 120), (71, 45, 119), (71, 44, 118), (71, 40, 117), (71, 39, 116), (71, 38, 115), (71, 37, 114), (71, 36, 113), (71, 35, 112), (71, 34, 111), (71, 33, 110), (71, 32, 109), (71, 31, 108), (71, 30, 107), (71, 29, 106), (71, 28, 105), (71, 27, 104), (71, 23, 103), (71, 22, 102), (71, 21, 101), (71, 20, 100), (71, 19, 99), (71, 17, 98), (71, 16, 97), (71, 15, 96), (71, 14, 95), (71, 13, 94), (71, 12, 93), (71, 9, 92), (71, 6, 91), (71, 5, 90), (71, 4, 89), (71, 1, 88), (0, 7, 80), (64, 1, 44), (64, 0, 17), (64, 8, 86), (64, 7, 85), (64, 6, 84), (64, 5, 83), (64, 4, 82), (64, 3, 81), (0, 6, 73), (57, 3, 44), (57, 2, 37), (57, 1, 28), (57, 0, 17), (57, 11, 79), (57, 10, 78), (57, 9, 77), (57, 8, 76), (57, 7, 75), (57, 6, 74), (0, 5, 68), (52, 11, 72), (52, 10, 71), (52, 9, 70), (52, 1, 69), (0, 4, 52), (36, 1, 28), (36, 0, 17), (36, 5, 67), (36, 4, 60), (44, 8, 66), (44, 7, 65), (44, 6, 64), (44, 5, 63), (44, 4, 62), (44, 3, 61), (36, 3, 53), (37, 8, 59), (37, 7, 58), (37, 6, 57), (37, 5, 56), (37, 4, 55), (37, 3, 54), (0, 3, 44), (28, 1, 37), (28, 0, 17), (28, 8, 51), (28, 7, 50), (28, 6, 49), (28, 5, 48), (28, 4, 47), (28, 3, 46), (28, 2, 45), (0, 2, 37), (21, 6, 43), (21, 5, 42), (21, 4, 41), (21, 3, 40), (21, 2, 39), (21, 1, 38), (0, 1, 28), (12, 7, 36), (12, 6, 35), (12, 5, 34), (12, 4, 33), (12, 3, 32), (12, 2, 31), (12, 1, 30), (12, 0, 29), (0, 0, 17), (1, 10, 27), (1, 9, 26), (1, 8, 25), (1, 7, 24), (1, 6, 23), (1, 5, 22), (1, 4, 21), (1, 3, 20), (1, 2, 19), (1, 1, 18)] (up2 (up2 (up2 (up2 (up2 (up2 (up2 (up2 (up2 (up2 (up2 (up2 (up2 (up2 (up2 (up2 (up2 (up2 (up2 (up2 (up2 (σ) 76 0 (16633)) 76 1 (2793)) 76 2 (8285282)) 76 3 (36643177)) 76 4 (1176170)) 76 5 (1891)) 76 6 (573)) 76 7 (19741)) 76 8 (9636)) 76 9 (36269373)) 76 10 (14037783)) 76 11 (8269)) 76 12 (835275500)) 76 13 (4837215)) 76 14 (172677872)) 76 15 (236773452)) 76 16 (14032597)) 76 17 (36440801)) 76 18 (316910)) 76 19 (975695)) 71 25 (20))) := by
  obtain ⟨d, rfl⟩ : ∃ e, d = e + 1 := ⟨d - 1, by omega⟩
  refine evP (nL := 1) (code := k_X10_init) rfl (Wc_b rfl rfl) rfl (fun E hE => ?_)
  show pCm (Ev d) k_X10_init E 0 [(87, 0)] [] _
  refine R_aload rfl rfl rfl ?_
  refine R_oinit rfl rfl ?_
  refine R_aload rfl rfl rfl ?_
  refine R_push rfl ?_
  refine N_newa (N := 1000) rfl rfl rfl rfl rfl rfl (fun i => by first | exact hz _ _ (by decide) | (skip; exact hz _ _ (by decide))) ?_
  refine N_putr (v := 72) (o := 71) rfl rfl rfl ?_
  refine R_aload rfl rfl rfl ?_
  refine R_push rfl ?_
  refine N_newa (N := 1002) rfl rfl rfl rfl rfl rfl (fun i => by first | exact hz _ _ (by decide) | (skip; exact hz _ _ (by decide))) ?_
  refine N_putr (v := 73) (o := 71) rfl rfl rfl ?_
  refine R_aload rfl rfl rfl ?_
  refine R_push rfl ?_
  refine N_newa (N := 1002) rfl rfl rfl rfl rfl rfl (fun i => by first | exact hz _ _ (by decide) | (skip; exact hz _ _ (by decide))) ?_
  refine N_putr (v := 74) (o := 71) rfl rfl rfl ?_
  refine R_aload rfl rfl rfl ?_
  refine R_push rfl ?_
  refine N_newa (N := 1002) rfl rfl rfl rfl rfl rfl (fun i => by first | exact hz _ _ (by decide) | (skip; exact hz _ _ (by decide))) ?_
  refine N_putr (v := 75) (o := 71) rfl rfl rfl ?_
  refine R_aload rfl rfl rfl ?_
  refine R_push rfl ?_
  refine N_newa (N := 20) rfl rfl rfl rfl rfl rfl (fun i => by first | exact hz _ _ (by decide) | (skip; exact hz _ _ (by decide))) ?_
  refine R_dup rfl rfl ?_
  refine R_push rfl ?_
  refine R_push rfl ?_
  refine N_last (m := 20) rfl rfl (by decide) (by decide) ?_
  refine R_dup rfl rfl ?_
  refine R_push rfl ?_
  refine R_push rfl ?_
  refine N_last (m := 20) rfl rfl (by decide) (by decide) ?_
  refine R_dup rfl rfl ?_
  refine R_push rfl ?_
  refine R_push rfl ?_
  refine N_last (m := 20) rfl rfl (by decide) (by decide) ?_
  refine R_dup rfl rfl ?_
  refine R_push rfl ?_
  refine R_push rfl ?_
  refine N_last (m := 20) rfl rfl (by decide) (by decide) ?_
  refine R_dup rfl rfl ?_
  refine R_push rfl ?_
  refine R_push rfl ?_
  refine N_last (m := 20) rfl rfl (by decide) (by decide) ?_
  refine R_dup rfl rfl ?_
  refine R_push rfl ?_
  refine R_push rfl ?_
  refine N_last (m := 20) rfl rfl (by decide) (by decide) ?_
  refine R_dup rfl rfl ?_
  refine R_push rfl ?_
  refine R_push rfl ?_
  refine N_last (m := 20) rfl rfl (by decide) (by decide) ?_
  refine R_dup rfl rfl ?_
  refine R_push rfl ?_
  refine R_push rfl ?_
  refine N_last (m := 20) rfl rfl (by decide) (by decide) ?_
  refine R_dup rfl rfl ?_
  refine R_push rfl ?_
  refine R_push rfl ?_
  refine N_last (m := 20) rfl rfl (by decide) (by decide) ?_
  refine R_dup rfl rfl ?_
  refine R_push rfl ?_
  refine R_push rfl ?_
  refine N_last (m := 20) rfl rfl (by decide) (by decide) ?_
  refine R_dup rfl rfl ?_
  refine R_push rfl ?_
  refine R_push rfl ?_
  refine N_last (m := 20) rfl rfl (by decide) (by decide) ?_
  refine R_dup rfl rfl ?_
  refine R_push rfl ?_
  refine R_push rfl ?_
  refine N_last (m := 20) rfl rfl (by decide) (by decide) ?_
  refine R_dup rfl rfl ?_
  refine R_push rfl ?_
  refine R_push rfl ?_
  refine N_last (m := 20) rfl rfl (by decide) (by decide) ?_
  refine R_dup rfl rfl ?_
  refine R_push rfl ?_
  refine R_push rfl ?_
  refine N_last (m := 20) rfl rfl (by decide) (by decide) ?_
  refine R_dup rfl rfl ?_
  refine R_push rfl ?_
  refine R_push rfl ?_
  refine N_last (m := 20) rfl rfl (by decide) (by decide) ?_
  refine R_dup rfl rfl ?_
  refine R_push rfl ?_
  refine R_push rfl ?_
  refine N_last (m := 20) rfl rfl (by decide) (by decide) ?_
  refine R_dup rfl rfl ?_
  refine R_push rfl ?_
  refine R_push rfl ?_
  refine N_last (m := 20) rfl rfl (by decide) (by decide) ?_
  refine R_dup rfl rfl ?_
  refine R_push rfl ?_
  refine R_push rfl ?_
  refine N_last (m := 20) rfl rfl (by decide) (by decide) ?_
  refine R_dup rfl rfl ?_
  refine R_push rfl ?_
  refine R_push rfl ?_
  refine N_last (m := 20) rfl rfl (by decide) (by decide) ?_
  refine R_dup rfl rfl ?_
  refine R_push rfl ?_
  refine R_push rfl ?_
  refine N_last (m := 20) rfl rfl (by decide) (by decide) ?_
  refine N_putr (v := 76) (o := 71) rfl rfl rfl ?_
  refine R_aload rfl rfl rfl ?_
  refine R_push rfl ?_
  refine N_newa (N := 2) rfl rfl rfl rfl rfl rfl (fun i => by first | exact hz _ _ (by decide) | (rw [up_k (by decide), up_k (by decide), up_k (by decide), up_k (by decide), up_k (by decide), up_k (by decide), up_k (by decide), up_k (by decide), up_k (by decide), up_k (by decide), up_k (by decide), up_k (by decide), up_k (by decide), up_k (by decide), up_k (by decide), up_k (by decide), up_k (by decide), up_k (by decide), up_k (by decide), up_k (by decide)]; exact hz _ _ (by decide))) ?_
  refine N_putr (v := 77) (o := 71) rfl rfl rfl ?_
  refine R_aload rfl rfl rfl ?_
  refine R_push rfl ?_
  refine N_newa (N := 48) rfl rfl rfl rfl rfl rfl (fun i => by first | exact hz _ _ (by decide) | (rw [up_k (by decide), up_k (by decide), up_k (by decide), up_k (by decide), up_k (by decide), up_k (by decide), up_k (by decide), up_k (by decide), up_k (by decide), up_k (by decide), up_k (by decide), up_k (by decide), up_k (by decide), up_k (by decide), up_k (by decide), up_k (by decide), up_k (by decide), up_k (by decide), up_k (by decide), up_k (by decide)]; exact hz _ _ (by decide))) ?_
  refine N_putr (v := 78) (o := 71) rfl rfl rfl ?_
  refine R_aload rfl rfl rfl ?_
  refine R_push rfl ?_
  refine N_newa (N := 48) rfl rfl rfl rfl rfl rfl (fun i => by first | exact hz _ _ (by decide) | (rw [up_k (by decide), up_k (by decide), up_k (by decide), up_k (by decide), up_k (by decide), up_k (by decide), up_k (by decide), up_k (by decide), up_k (by decide), up_k (by decide), up_k (by decide), up_k (by decide), up_k (by decide), up_k (by decide), up_k (by decide), up_k (by decide), up_k (by decide), up_k (by decide), up_k (by decide), up_k (by decide)]; exact hz _ _ (by decide))) ?_
  refine N_putr (v := 79) (o := 71) rfl rfl rfl ?_
  refine R_aload rfl rfl rfl ?_
  refine R_push rfl ?_
  refine N_newa (N := 48) rfl rfl rfl rfl rfl rfl (fun i => by first | exact hz _ _ (by decide) | (rw [up_k (by decide), up_k (by decide), up_k (by decide), up_k (by decide), up_k (by decide), up_k (by decide), up_k (by decide), up_k (by decide), up_k (by decide), up_k (by decide), up_k (by decide), up_k (by decide), up_k (by decide), up_k (by decide), up_k (by decide), up_k (by decide), up_k (by decide), up_k (by decide), up_k (by decide), up_k (by decide)]; exact hz _ _ (by decide))) ?_
  refine N_putr (v := 80) (o := 71) rfl rfl rfl ?_
  refine R_aload rfl rfl rfl ?_
  refine R_push rfl ?_
  refine N_newa (N := 2) rfl rfl rfl rfl rfl rfl (fun i => by first | exact hz _ _ (by decide) | (rw [up_k (by decide), up_k (by decide), up_k (by decide), up_k (by decide), up_k (by decide), up_k (by decide), up_k (by decide), up_k (by decide), up_k (by decide), up_k (by decide), up_k (by decide), up_k (by decide), up_k (by decide), up_k (by decide), up_k (by decide), up_k (by decide), up_k (by decide), up_k (by decide), up_k (by decide), up_k (by decide)]; exact hz _ _ (by decide))) ?_
  refine N_putr (v := 81) (o := 71) rfl rfl rfl ?_
  refine R_aload rfl rfl rfl ?_
  refine R_push rfl ?_
  refine N_newa (N := 16) rfl rfl rfl rfl rfl rfl (fun i => by first | exact hz _ _ (by decide) | (rw [up_k (by decide), up_k (by decide), up_k (by decide), up_k (by decide), up_k (by decide), up_k (by decide), up_k (by decide), up_k (by decide), up_k (by decide), up_k (by decide), up_k (by decide), up_k (by decide), up_k (by decide), up_k (by decide), up_k (by decide), up_k (by decide), up_k (by decide), up_k (by decide), up_k (by decide), up_k (by decide)]; exact hz _ _ (by decide))) ?_
  refine N_putr (v := 82) (o := 71) rfl rfl rfl ?_
  refine R_aload rfl rfl rfl ?_
  refine R_push rfl ?_
  refine N_newa (N := 2200) rfl rfl rfl rfl rfl rfl (fun i => by first | exact hz _ _ (by decide) | (rw [up_k (by decide), up_k (by decide), up_k (by decide), up_k (by decide), up_k (by decide), up_k (by decide), up_k (by decide), up_k (by decide), up_k (by decide), up_k (by decide), up_k (by decide), up_k (by decide), up_k (by decide), up_k (by decide), up_k (by decide), up_k (by decide), up_k (by decide), up_k (by decide), up_k (by decide), up_k (by decide)]; exact hz _ _ (by decide))) ?_
  refine N_putr (v := 83) (o := 71) rfl rfl rfl ?_
  refine R_aload rfl rfl rfl ?_
  refine R_push rfl ?_
  refine N_newa (N := 2200) rfl rfl rfl rfl rfl rfl (fun i => by first | exact hz _ _ (by decide) | (rw [up_k (by decide), up_k (by decide), up_k (by decide), up_k (by decide), up_k (by decide), up_k (by decide), up_k (by decide), up_k (by decide), up_k (by decide), up_k (by decide), up_k (by decide), up_k (by decide), up_k (by decide), up_k (by decide), up_k (by decide), up_k (by decide), up_k (by decide), up_k (by decide), up_k (by decide), up_k (by decide)]; exact hz _ _ (by decide))) ?_
  refine N_putr (v := 84) (o := 71) rfl rfl rfl ?_
  refine R_aload rfl rfl rfl ?_
  refine R_push rfl ?_
  refine N_newa (N := 12) rfl rfl rfl rfl rfl rfl (fun i => by first | exact hz _ _ (by decide) | (rw [up_k (by decide), up_k (by decide), up_k (by decide), up_k (by decide), up_k (by decide), up_k (by decide), up_k (by decide), up_k (by decide), up_k (by decide), up_k (by decide), up_k (by decide), up_k (by decide), up_k (by decide), up_k (by decide), up_k (by decide), up_k (by decide), up_k (by decide), up_k (by decide), up_k (by decide), up_k (by decide)]; exact hz _ _ (by decide))) ?_
  refine N_putr (v := 85) (o := 71) rfl rfl rfl ?_
  refine R_aload rfl rfl rfl ?_
  refine R_push rfl ?_
  refine N_newa (N := 8) rfl rfl rfl rfl rfl rfl (fun i => by first | exact hz _ _ (by decide) | (rw [up_k (by decide), up_k (by decide), up_k (by decide), up_k (by decide), up_k (by decide), up_k (by decide), up_k (by decide), up_k (by decide), up_k (by decide), up_k (by decide), up_k (by decide), up_k (by decide), up_k (by decide), up_k (by decide), up_k (by decide), up_k (by decide), up_k (by decide), up_k (by decide), up_k (by decide), up_k (by decide)]; exact hz _ _ (by decide))) ?_
  refine N_putr (v := 86) (o := 71) rfl rfl rfl ?_
  refine R_aload rfl rfl rfl ?_
  refine R_push rfl ?_
  refine N_newa (N := 1100) rfl rfl rfl rfl rfl rfl (fun i => by first | exact hz _ _ (by decide) | (rw [up_k (by decide), up_k (by decide), up_k (by decide), up_k (by decide), up_k (by decide), up_k (by decide), up_k (by decide), up_k (by decide), up_k (by decide), up_k (by decide), up_k (by decide), up_k (by decide), up_k (by decide), up_k (by decide), up_k (by decide), up_k (by decide), up_k (by decide), up_k (by decide), up_k (by decide), up_k (by decide)]; exact hz _ _ (by decide))) ?_
  refine N_putr (v := 87) (o := 71) rfl rfl rfl ?_
  refine R_aload rfl rfl rfl ?_
  refine R_push rfl ?_
  refine N_newa (N := 40) rfl rfl rfl rfl rfl rfl (fun i => by first | exact hz _ _ (by decide) | (rw [up_k (by decide), up_k (by decide), up_k (by decide), up_k (by decide), up_k (by decide), up_k (by decide), up_k (by decide), up_k (by decide), up_k (by decide), up_k (by decide), up_k (by decide), up_k (by decide), up_k (by decide), up_k (by decide), up_k (by decide), up_k (by decide), up_k (by decide), up_k (by decide), up_k (by decide), up_k (by decide)]; exact hz _ _ (by decide))) ?_
  refine N_putr (v := 88) (o := 71) rfl rfl rfl ?_
  refine R_aload rfl rfl rfl ?_
  refine R_push rfl ?_
  refine N_newa (N := 40) rfl rfl rfl rfl rfl rfl (fun i => by first | exact hz _ _ (by decide) | (rw [up_k (by decide), up_k (by decide), up_k (by decide), up_k (by decide), up_k (by decide), up_k (by decide), up_k (by decide), up_k (by decide), up_k (by decide), up_k (by decide), up_k (by decide), up_k (by decide), up_k (by decide), up_k (by decide), up_k (by decide), up_k (by decide), up_k (by decide), up_k (by decide), up_k (by decide), up_k (by decide)]; exact hz _ _ (by decide))) ?_
  refine N_putr (v := 89) (o := 71) rfl rfl rfl ?_
  refine R_aload rfl rfl rfl ?_
  refine R_push rfl ?_
  refine N_newa (N := 40) rfl rfl rfl rfl rfl rfl (fun i => by first | exact hz _ _ (by decide) | (rw [up_k (by decide), up_k (by decide), up_k (by decide), up_k (by decide), up_k (by decide), up_k (by decide), up_k (by decide), up_k (by decide), up_k (by decide), up_k (by decide), up_k (by decide), up_k (by decide), up_k (by decide), up_k (by decide), up_k (by decide), up_k (by decide), up_k (by decide), up_k (by decide), up_k (by decide), up_k (by decide)]; exact hz _ _ (by decide))) ?_
  refine N_putr (v := 90) (o := 71) rfl rfl rfl ?_
  refine R_aload rfl rfl rfl ?_
  refine R_push rfl ?_
  refine N_newa (N := 40) rfl rfl rfl rfl rfl rfl (fun i => by first | exact hz _ _ (by decide) | (rw [up_k (by decide), up_k (by decide), up_k (by decide), up_k (by decide), up_k (by decide), up_k (by decide), up_k (by decide), up_k (by decide), up_k (by decide), up_k (by decide), up_k (by decide), up_k (by decide), up_k (by decide), up_k (by decide), up_k (by decide), up_k (by decide), up_k (by decide), up_k (by decide), up_k (by decide), up_k (by decide)]; exact hz _ _ (by decide))) ?_
  refine N_putr (v := 91) (o := 71) rfl rfl rfl ?_
  refine R_aload rfl rfl rfl ?_
  refine R_push rfl ?_
  refine N_newa (N := 40) rfl rfl rfl rfl rfl rfl (fun i => by first | exact hz _ _ (by decide) | (rw [up_k (by decide), up_k (by decide), up_k (by decide), up_k (by decide), up_k (by decide), up_k (by decide), up_k (by decide), up_k (by decide), up_k (by decide), up_k (by decide), up_k (by decide), up_k (by decide), up_k (by decide), up_k (by decide), up_k (by decide), up_k (by decide), up_k (by decide), up_k (by decide), up_k (by decide), up_k (by decide)]; exact hz _ _ (by decide))) ?_
  refine N_putr (v := 92) (o := 71) rfl rfl rfl ?_
  refine R_aload rfl rfl rfl ?_
  refine R_push rfl ?_
  refine N_newa (N := 40) rfl rfl rfl rfl rfl rfl (fun i => by first | exact hz _ _ (by decide) | (rw [up_k (by decide), up_k (by decide), up_k (by decide), up_k (by decide), up_k (by decide), up_k (by decide), up_k (by decide), up_k (by decide), up_k (by decide), up_k (by decide), up_k (by decide), up_k (by decide), up_k (by decide), up_k (by decide), up_k (by decide), up_k (by decide), up_k (by decide), up_k (by decide), up_k (by decide), up_k (by decide)]; exact hz _ _ (by decide))) ?_
  refine N_putr (v := 93) (o := 71) rfl rfl rfl ?_
  refine R_aload rfl rfl rfl ?_
  refine R_push rfl ?_
  refine N_newa (N := 40) rfl rfl rfl rfl rfl rfl (fun i => by first | exact hz _ _ (by decide) | (rw [up_k (by decide), up_k (by decide), up_k (by decide), up_k (by decide), up_k (by decide), up_k (by decide), up_k (by decide), up_k (by decide), up_k (by decide), up_k (by decide), up_k (by decide), up_k (by decide), up_k (by decide), up_k (by decide), up_k (by decide), up_k (by decide), up_k (by decide), up_k (by decide), up_k (by decide), up_k (by decide)]; exact hz _ _ (by decide))) ?_
  refine N_putr (v := 94) (o := 71) rfl rfl rfl ?_
  refine R_aload rfl rfl rfl ?_
  refine R_push rfl ?_
  refine N_newa (N := 40) rfl rfl rfl rfl rfl rfl (fun i => by first | exact hz _ _ (by decide) | (rw [up_k (by decide), up_k (by decide), up_k (by decide), up_k (by decide), up_k (by decide), up_k (by decide), up_k (by decide), up_k (by decide), up_k (by decide), up_k (by decide), up_k (by decide), up_k (by decide), up_k (by decide), up_k (by decide), up_k (by decide), up_k (by decide), up_k (by decide), up_k (by decide), up_k (by decide), up_k (by decide)]; exact hz _ _ (by decide))) ?_
  refine N_putr (v := 95) (o := 71) rfl rfl rfl ?_
  refine R_aload rfl rfl rfl ?_
  refine R_push rfl ?_
  refine N_newa (N := 40) rfl rfl rfl rfl rfl rfl (fun i => by first | exact hz _ _ (by decide) | (rw [up_k (by decide), up_k (by decide), up_k (by decide), up_k (by decide), up_k (by decide), up_k (by decide), up_k (by decide), up_k (by decide), up_k (by decide), up_k (by decide), up_k (by decide), up_k (by decide), up_k (by decide), up_k (by decide), up_k (by decide), up_k (by decide), up_k (by decide), up_k (by decide), up_k (by decide), up_k (by decide)]; exact hz _ _ (by decide))) ?_
  refine N_putr (v := 96) (o := 71) rfl rfl rfl ?_
  refine R_aload rfl rfl rfl ?_
  refine R_push rfl ?_
  refine N_newa (N := 40) rfl rfl rfl rfl rfl rfl (fun i => by first | exact hz _ _ (by decide) | (rw [up_k (by decide), up_k (by decide), up_k (by decide), up_k (by decide), up_k (by decide), up_k (by decide), up_k (by decide), up_k (by decide), up_k (by decide), up_k (by decide), up_k (by decide), up_k (by decide), up_k (by decide), up_k (by decide), up_k (by decide), up_k (by decide), up_k (by decide), up_k (by decide), up_k (by decide), up_k (by decide)]; exact hz _ _ (by decide))) ?_
  refine N_putr (v := 97) (o := 71) rfl rfl rfl ?_
  refine R_aload rfl rfl rfl ?_
  refine R_push rfl ?_
  refine N_newa (N := 40) rfl rfl rfl rfl rfl rfl (fun i => by first | exact hz _ _ (by decide) | (rw [up_k (by decide), up_k (by decide), up_k (by decide), up_k (by decide), up_k (by decide), up_k (by decide), up_k (by decide), up_k (by decide), up_k (by decide), up_k (by decide), up_k (by decide), up_k (by decide), up_k (by decide), up_k (by decide), up_k (by decide), up_k (by decide), up_k (by decide), up_k (by decide), up_k (by decide), up_k (by decide)]; exact hz _ _ (by decide))) ?_
  refine N_putr (v := 98) (o := 71) rfl rfl rfl ?_
  refine R_aload rfl rfl rfl ?_
  refine R_push rfl ?_
  refine N_newa (N := 320) rfl rfl rfl rfl rfl rfl (fun i => by first | exact hz _ _ (by decide) | (rw [up_k (by decide), up_k (by decide), up_k (by decide), up_k (by decide), up_k (by decide), up_k (by decide), up_k (by decide), up_k (by decide), up_k (by decide), up_k (by decide), up_k (by decide), up_k (by decide), up_k (by decide), up_k (by decide), up_k (by decide), up_k (by decide), up_k (by decide), up_k (by decide), up_k (by decide), up_k (by decide)]; exact hz _ _ (by decide))) ?_
  refine N_putr (v := 99) (o := 71) rfl rfl rfl ?_
  refine R_aload rfl rfl rfl ?_
  refine R_push rfl ?_
  refine N_newa (N := 2560) rfl rfl rfl rfl rfl rfl (fun i => by first | exact hz _ _ (by decide) | (rw [up_k (by decide), up_k (by decide), up_k (by decide), up_k (by decide), up_k (by decide), up_k (by decide), up_k (by decide), up_k (by decide), up_k (by decide), up_k (by decide), up_k (by decide), up_k (by decide), up_k (by decide), up_k (by decide), up_k (by decide), up_k (by decide), up_k (by decide), up_k (by decide), up_k (by decide), up_k (by decide)]; exact hz _ _ (by decide))) ?_
  refine N_putr (v := 100) (o := 71) rfl rfl rfl ?_
  refine R_aload rfl rfl rfl ?_
  refine R_push rfl ?_
  refine N_newa (N := 320) rfl rfl rfl rfl rfl rfl (fun i => by first | exact hz _ _ (by decide) | (rw [up_k (by decide), up_k (by decide), up_k (by decide), up_k (by decide), up_k (by decide), up_k (by decide), up_k (by decide), up_k (by decide), up_k (by decide), up_k (by decide), up_k (by decide), up_k (by decide), up_k (by decide), up_k (by decide), up_k (by decide), up_k (by decide), up_k (by decide), up_k (by decide), up_k (by decide), up_k (by decide)]; exact hz _ _ (by decide))) ?_
  refine N_putr (v := 101) (o := 71) rfl rfl rfl ?_
  refine R_aload rfl rfl rfl ?_
  refine R_push rfl ?_
  refine N_newa (N := 80) rfl rfl rfl rfl rfl rfl (fun i => by first | exact hz _ _ (by decide) | (rw [up_k (by decide), up_k (by decide), up_k (by decide), up_k (by decide), up_k (by decide), up_k (by decide), up_k (by decide), up_k (by decide), up_k (by decide), up_k (by decide), up_k (by decide), up_k (by decide), up_k (by decide), up_k (by decide), up_k (by decide), up_k (by decide), up_k (by decide), up_k (by decide), up_k (by decide), up_k (by decide)]; exact hz _ _ (by decide))) ?_
  refine N_putr (v := 102) (o := 71) rfl rfl rfl ?_
  refine R_aload rfl rfl rfl ?_
  refine R_push rfl ?_
  refine N_newa (N := 80) rfl rfl rfl rfl rfl rfl (fun i => by first | exact hz _ _ (by decide) | (rw [up_k (by decide), up_k (by decide), up_k (by decide), up_k (by decide), up_k (by decide), up_k (by decide), up_k (by decide), up_k (by decide), up_k (by decide), up_k (by decide), up_k (by decide), up_k (by decide), up_k (by decide), up_k (by decide), up_k (by decide), up_k (by decide), up_k (by decide), up_k (by decide), up_k (by decide), up_k (by decide)]; exact hz _ _ (by decide))) ?_
  refine N_putr (v := 103) (o := 71) rfl rfl rfl ?_
  refine R_aload rfl rfl rfl ?_
  refine R_push rfl ?_
  refine N_newa (N := 80) rfl rfl rfl rfl rfl rfl (fun i => by first | exact hz _ _ (by decide) | (rw [up_k (by decide), up_k (by decide), up_k (by decide), up_k (by decide), up_k (by decide), up_k (by decide), up_k (by decide), up_k (by decide), up_k (by decide), up_k (by decide), up_k (by decide), up_k (by decide), up_k (by decide), up_k (by decide), up_k (by decide), up_k (by decide), up_k (by decide), up_k (by decide), up_k (by decide), up_k (by decide)]; exact hz _ _ (by decide))) ?_
  refine N_putr (v := 104) (o := 71) rfl rfl rfl ?_
  refine R_aload rfl rfl rfl ?_
  refine R_push rfl ?_
  refine N_newa (N := 80) rfl rfl rfl rfl rfl rfl (fun i => by first | exact hz _ _ (by decide) | (rw [up_k (by decide), up_k (by decide), up_k (by decide), up_k (by decide), up_k (by decide), up_k (by decide), up_k (by decide), up_k (by decide), up_k (by decide), up_k (by decide), up_k (by decide), up_k (by decide), up_k (by decide), up_k (by decide), up_k (by decide), up_k (by decide), up_k (by decide), up_k (by decide), up_k (by decide), up_k (by decide)]; exact hz _ _ (by decide))) ?_
  refine N_putr (v := 105) (o := 71) rfl rfl rfl ?_
  refine R_aload rfl rfl rfl ?_
  refine R_push rfl ?_
  refine N_newa (N := 80) rfl rfl rfl rfl rfl rfl (fun i => by first | exact hz _ _ (by decide) | (rw [up_k (by decide), up_k (by decide), up_k (by decide), up_k (by decide), up_k (by decide), up_k (by decide), up_k (by decide), up_k (by decide), up_k (by decide), up_k (by decide), up_k (by decide), up_k (by decide), up_k (by decide), up_k (by decide), up_k (by decide), up_k (by decide), up_k (by decide), up_k (by decide), up_k (by decide), up_k (by decide)]; exact hz _ _ (by decide))) ?_
  refine N_putr (v := 106) (o := 71) rfl rfl rfl ?_
  refine R_aload rfl rfl rfl ?_
  refine R_push rfl ?_
  refine N_newa (N := 40) rfl rfl rfl rfl rfl rfl (fun i => by first | exact hz _ _ (by decide) | (rw [up_k (by decide), up_k (by decide), up_k (by decide), up_k (by decide), up_k (by decide), up_k (by decide), up_k (by decide), up_k (by decide), up_k (by decide), up_k (by decide), up_k (by decide), up_k (by decide), up_k (by decide), up_k (by decide), up_k (by decide), up_k (by decide), up_k (by decide), up_k (by decide), up_k (by decide), up_k (by decide)]; exact hz _ _ (by decide))) ?_
  refine N_putr (v := 107) (o := 71) rfl rfl rfl ?_
  refine R_aload rfl rfl rfl ?_
  refine R_push rfl ?_
  refine N_newa (N := 40) rfl rfl rfl rfl rfl rfl (fun i => by first | exact hz _ _ (by decide) | (rw [up_k (by decide), up_k (by decide), up_k (by decide), up_k (by decide), up_k (by decide), up_k (by decide), up_k (by decide), up_k (by decide), up_k (by decide), up_k (by decide), up_k (by decide), up_k (by decide), up_k (by decide), up_k (by decide), up_k (by decide), up_k (by decide), up_k (by decide), up_k (by decide), up_k (by decide), up_k (by decide)]; exact hz _ _ (by decide))) ?_
  refine N_putr (v := 108) (o := 71) rfl rfl rfl ?_
  refine R_aload rfl rfl rfl ?_
  refine R_push rfl ?_
  refine N_newa (N := 40) rfl rfl rfl rfl rfl rfl (fun i => by first | exact hz _ _ (by decide) | (rw [up_k (by decide), up_k (by decide), up_k (by decide), up_k (by decide), up_k (by decide), up_k (by decide), up_k (by decide), up_k (by decide), up_k (by decide), up_k (by decide), up_k (by decide), up_k (by decide), up_k (by decide), up_k (by decide), up_k (by decide), up_k (by decide), up_k (by decide), up_k (by decide), up_k (by decide), up_k (by decide)]; exact hz _ _ (by decide))) ?_
  refine N_putr (v := 109) (o := 71) rfl rfl rfl ?_
  refine R_aload rfl rfl rfl ?_
  refine R_push rfl ?_
  refine N_newa (N := 40) rfl rfl rfl rfl rfl rfl (fun i => by first | exact hz _ _ (by decide) | (rw [up_k (by decide), up_k (by decide), up_k (by decide), up_k (by decide), up_k (by decide), up_k (by decide), up_k (by decide), up_k (by decide), up_k (by decide), up_k (by decide), up_k (by decide), up_k (by decide), up_k (by decide), up_k (by decide), up_k (by decide), up_k (by decide), up_k (by decide), up_k (by decide), up_k (by decide), up_k (by decide)]; exact hz _ _ (by decide))) ?_
  refine N_putr (v := 110) (o := 71) rfl rfl rfl ?_
  refine R_aload rfl rfl rfl ?_
  refine R_push rfl ?_
  refine N_newa (N := 40) rfl rfl rfl rfl rfl rfl (fun i => by first | exact hz _ _ (by decide) | (rw [up_k (by decide), up_k (by decide), up_k (by decide), up_k (by decide), up_k (by decide), up_k (by decide), up_k (by decide), up_k (by decide), up_k (by decide), up_k (by decide), up_k (by decide), up_k (by decide), up_k (by decide), up_k (by decide), up_k (by decide), up_k (by decide), up_k (by decide), up_k (by decide), up_k (by decide), up_k (by decide)]; exact hz _ _ (by decide))) ?_
  refine N_putr (v := 111) (o := 71) rfl rfl rfl ?_
  refine R_aload rfl rfl rfl ?_
  refine R_push rfl ?_
  refine N_newa (N := 40) rfl rfl rfl rfl rfl rfl (fun i => by first | exact hz _ _ (by decide) | (rw [up_k (by decide), up_k (by decide), up_k (by decide), up_k (by decide), up_k (by decide), up_k (by decide), up_k (by decide), up_k (by decide), up_k (by decide), up_k (by decide), up_k (by decide), up_k (by decide), up_k (by decide), up_k (by decide), up_k (by decide), up_k (by decide), up_k (by decide), up_k (by decide), up_k (by decide), up_k (by decide)]; exact hz _ _ (by decide))) ?_
  refine N_putr (v := 112) (o := 71) rfl rfl rfl ?_
  refine R_aload rfl rfl rfl ?_
  refine R_push rfl ?_
  refine N_newa (N := 320) rfl rfl rfl rfl rfl rfl (fun i => by first | exact hz _ _ (by decide) | (rw [up_k (by decide), up_k (by decide), up_k (by decide), up_k (by decide), up_k (by decide), up_k (by decide), up_k (by decide), up_k (by decide), up_k (by decide), up_k (by decide), up_k (by decide), up_k (by decide), up_k (by decide), up_k (by decide), up_k (by decide), up_k (by decide), up_k (by decide), up_k (by decide), up_k (by decide), up_k (by decide)]; exact hz _ _ (by decide))) ?_
  refine N_putr (v := 113) (o := 71) rfl rfl rfl ?_
  refine R_aload rfl rfl rfl ?_
  refine R_push rfl ?_
  refine N_newa (N := 12) rfl rfl rfl rfl rfl rfl (fun i => by first | exact hz _ _ (by decide) | (rw [up_k (by decide), up_k (by decide), up_k (by decide), up_k (by decide), up_k (by decide), up_k (by decide), up_k (by decide), up_k (by decide), up_k (by decide), up_k (by decide), up_k (by decide), up_k (by decide), up_k (by decide), up_k (by decide), up_k (by decide), up_k (by decide), up_k (by decide), up_k (by decide), up_k (by decide), up_k (by decide)]; exact hz _ _ (by decide))) ?_
  refine N_putr (v := 114) (o := 71) rfl rfl rfl ?_
  refine R_aload rfl rfl rfl ?_
  refine R_push rfl ?_
  refine N_newa (N := 144) rfl rfl rfl rfl rfl rfl (fun i => by first | exact hz _ _ (by decide) | (rw [up_k (by decide), up_k (by decide), up_k (by decide), up_k (by decide), up_k (by decide), up_k (by decide), up_k (by decide), up_k (by decide), up_k (by decide), up_k (by decide), up_k (by decide), up_k (by decide), up_k (by decide), up_k (by decide), up_k (by decide), up_k (by decide), up_k (by decide), up_k (by decide), up_k (by decide), up_k (by decide)]; exact hz _ _ (by decide))) ?_
  refine N_putr (v := 115) (o := 71) rfl rfl rfl ?_
  refine R_aload rfl rfl rfl ?_
  refine R_push rfl ?_
  refine N_newa (N := 2560) rfl rfl rfl rfl rfl rfl (fun i => by first | exact hz _ _ (by decide) | (rw [up_k (by decide), up_k (by decide), up_k (by decide), up_k (by decide), up_k (by decide), up_k (by decide), up_k (by decide), up_k (by decide), up_k (by decide), up_k (by decide), up_k (by decide), up_k (by decide), up_k (by decide), up_k (by decide), up_k (by decide), up_k (by decide), up_k (by decide), up_k (by decide), up_k (by decide), up_k (by decide)]; exact hz _ _ (by decide))) ?_
  refine N_putr (v := 116) (o := 71) rfl rfl rfl ?_
  refine R_aload rfl rfl rfl ?_
  refine R_push rfl ?_
  refine N_newa (N := 4096) rfl rfl rfl rfl rfl rfl (fun i => by first | exact hz _ _ (by decide) | (rw [up_k (by decide), up_k (by decide), up_k (by decide), up_k (by decide), up_k (by decide), up_k (by decide), up_k (by decide), up_k (by decide), up_k (by decide), up_k (by decide), up_k (by decide), up_k (by decide), up_k (by decide), up_k (by decide), up_k (by decide), up_k (by decide), up_k (by decide), up_k (by decide), up_k (by decide), up_k (by decide)]; exact hz _ _ (by decide))) ?_
  refine N_putr (v := 117) (o := 71) rfl rfl rfl ?_
  refine R_aload rfl rfl rfl ?_
  refine R_push rfl ?_
  refine N_newa (N := 12) rfl rfl rfl rfl rfl rfl (fun i => by first | exact hz _ _ (by decide) | (rw [up_k (by decide), up_k (by decide), up_k (by decide), up_k (by decide), up_k (by decide), up_k (by decide), up_k (by decide), up_k (by decide), up_k (by decide), up_k (by decide), up_k (by decide), up_k (by decide), up_k (by decide), up_k (by decide), up_k (by decide), up_k (by decide), up_k (by decide), up_k (by decide), up_k (by decide), up_k (by decide)]; exact hz _ _ (by decide))) ?_
  refine N_putr (v := 118) (o := 71) rfl rfl rfl ?_
  refine R_aload rfl rfl rfl ?_
  refine R_push rfl ?_
  refine N_newa (N := 20) rfl rfl rfl rfl rfl rfl (fun i => by first | exact hz _ _ (by decide) | (rw [up_k (by decide), up_k (by decide), up_k (by decide), up_k (by decide), up_k (by decide), up_k (by decide), up_k (by decide), up_k (by decide), up_k (by decide), up_k (by decide), up_k (by decide), up_k (by decide), up_k (by decide), up_k (by decide), up_k (by decide), up_k (by decide), up_k (by decide), up_k (by decide), up_k (by decide), up_k (by decide)]; exact hz _ _ (by decide))) ?_
  refine N_putr (v := 119) (o := 71) rfl rfl rfl ?_
  refine R_aload rfl rfl rfl ?_
  refine R_push rfl ?_
  refine N_newa (N := 20) rfl rfl rfl rfl rfl rfl (fun i => by first | exact hz _ _ (by decide) | (rw [up_k (by decide), up_k (by decide), up_k (by decide), up_k (by decide), up_k (by decide), up_k (by decide), up_k (by decide), up_k (by decide), up_k (by decide), up_k (by decide), up_k (by decide), up_k (by decide), up_k (by decide), up_k (by decide), up_k (by decide), up_k (by decide), up_k (by decide), up_k (by decide), up_k (by decide), up_k (by decide)]; exact hz _ _ (by decide))) ?_
  refine N_putr (v := 120) (o := 71) rfl rfl rfl ?_
  refine R_aload rfl rfl rfl ?_
  refine R_push rfl ?_
  refine N_newa (N := 20) rfl rfl rfl rfl rfl rfl (fun i => by first | exact hz _ _ (by decide) | (rw [up_k (by decide), up_k (by decide), up_k (by decide), up_k (by decide), up_k (by decide), up_k (by decide), up_k (by decide), up_k (by decide), up_k (by decide), up_k (by decide), up_k (by decide), up_k (by decide), up_k (by decide), up_k (by decide), up_k (by decide), up_k (by decide), up_k (by decide), up_k (by decide), up_k (by decide), up_k (by decide)]; exact hz _ _ (by decide))) ?_
  refine N_putr (v := 121) (o := 71) rfl rfl rfl ?_
  refine R_aload rfl rfl rfl ?_
  refine R_push rfl ?_
  refine N_puti rfl rfl rfl ?_
  refine R_vret rfl ?_
  exact hE _ rfl

theorem lshl5 {a : Int64} : (a <<< ((i32 5).toInt64 &&& 63)).toBitVec = a.toBitVec <<< 5 := rfl
theorem i64_tn {n : Int} (hn : 0 ≤ n ∧ n < 4611686018427387904) : (i64 n).toBitVec.toNat = n.toNat := by
  obtain ⟨k, rfl⟩ : ∃ m : Nat, n = m := ⟨n.toNat, by omega⟩
  show (BitVec.ofInt 64 (k : Int)).toNat = _
  rw [BitVec.ofInt_natCast, BitVec.toNat_ofNat, Int.toNat_natCast, Nat.mod_eq_of_lt (by omega)]
theorem lor5 {a x : Int} (ha : 0 ≤ a ∧ a ≤ 4000000000000) (hx : 0 ≤ x ∧ x < 32) : pLor (pLshl a 5) x = 32 * a + x := by
  have e1 : ((i64 a).toBitVec <<< 5).toNat = a.toNat <<< 5 := by
    rw [BitVec.toNat_shiftLeft, i64_tn ⟨ha.1, by omega⟩, Nat.shiftLeft_eq, Nat.mod_eq_of_lt (by omega)]
  have e2 : a.toNat <<< 5 ||| x.toNat = a.toNat <<< 5 + x.toNat := (Nat.shiftLeft_add_eq_or_of_lt (by omega) _).symm
  unfold pLor pLshl
  rw [i64_ti, ← Int64.toInt_toBitVec, Int64.toBitVec_or, lshl5, BitVec.toInt_eq_toNat_of_lt]
  · rw [BitVec.toNat_or, e1, i64_tn ⟨hx.1, by omega⟩, e2, Nat.shiftLeft_eq]
    omega
  · rw [BitVec.toNat_or, e1, i64_tn ⟨hx.1, by omega⟩, e2, Nat.shiftLeft_eq]
    omega
set_option maxRecDepth 20000 in
set_option maxHeartbeats 2000000 in
theorem sp_X7_withLetter (d : Nat) (hd : 1 ≤ d) (w : pW) (a x : Int) (ha : 0 ≤ a ∧ a ≤ 4000000000000) (hx : 97 ≤ x ∧ x ≤ 122) : Ev d 215 [(1, a), (0, x)] w (1, 32 * a + (x - 96)) w := by
  obtain ⟨d, rfl⟩ : ∃ e, d = e + 1 := ⟨d - 1, by omega⟩
  refine evP (nL := 3) (code := k_X7_withLetter) rfl ⟨Nat.le_refl _, Nat.le_refl _⟩ rfl (fun E hE => ?_)
  show pCm (Ev d) k_X7_withLetter E 0 [(1, a), (9, 0), (0, x)] [] _
  refine R_lload rfl rfl ?_
  refine R_push rfl ?_
  refine R_lsh rfl ?_
  refine R_iload rfl rfl ?_
  refine R_push rfl ?_
  refine R_sub rfl (by omega) (by omega) ?_
  refine R_push rfl ?_
  refine R_add rfl (by omega) (by omega) ?_
  refine R_i2l rfl ?_
  refine R_lbin rfl ?_
  refine R_lret rfl ?_
  exact hE _ (by rw [lor5 ha ⟨by omega, by omega⟩]; congr 1; omega)
set_option maxRecDepth 20000 in
set_option maxHeartbeats 2000000 in
theorem sp_X7_runEnd (d : Nat) (hd : 2 ≤ d) (xs : List (Nat × Nat)) (t dd rr : Nat) (σ : Sg) (p lo hi n : Int) (hn : σ 52 0 = n) (h0 : 0 ≤ n ∧ n ≤ 1000) (hp : 0 ≤ p ∧ p ≤ n) : Ev d 228 [(68, 0), (0, p), (0, lo), (0, hi)] (Wd xs t dd rr σ) (0, RN (fun k => b2i (lo ≤ σ 53 k ∧ σ 53 k ≤ hi)) n p) (Wd xs t dd rr σ) := by
  obtain ⟨d, rfl⟩ : ∃ e, d = e + 1 := ⟨d - 1, by omega⟩
  refine evP (nL := 5) (code := k_X7_runEnd) rfl pb0 rfl (fun E hE => ?_)
  show pCm (Ev d) k_X7_runEnd E 0 [(68, 0), (0, p), (0, lo), (0, hi), (9, 0)] [] _
  refine R_iload rfl rfl ?_
  refine R_istore rfl rfl ?_
  refine loop (pc := 3) (α := Int) (fun x => (n - x).toNat) (fun x => ([(68, 0), (0, p), (0, lo), (0, hi), (0, x)], Wd xs t dd rr σ)) (fun x => (p ≤ x ∧ x ≤ n) ∧ RN (fun k => b2i (lo ≤ σ 53 k ∧ σ 53 k ≤ hi)) n p = RN (fun k => b2i (lo ≤ σ 53 k ∧ σ 53 k ≤ hi)) n x) ?_ p ?_
  · intro k ⟨⟨hk0, hk1⟩, hr⟩ ih
    dsimp only at hk0 hk1 hr ⊢
    refine R_iload rfl rfl ?_
    refine R_aload rfl rfl rfl ?_
    refine T_geti rfl rfl rfl ?_
    refine R_ic rfl (fun h9 => ?_) (fun h9 => ?_)
    · try simp only [ne_eq, b2i_e, b2i_1, Classical.not_not] at h9
      refine R_iload rfl rfl ?_
      refine R_iret rfl ?_
      first
      | exact hE _ (by rw [hr, RN_e (by omega)])
      | exact hE _ (by rw [hr, RN_e (fun w => by have w2 : b2i (lo ≤ σ 53 k ∧ σ 53 k ≤ hi) = 1 := w.2; rw [b2i_f (by omega)] at w2; omega)])
    · try simp only [ne_eq, b2i_e, b2i_1, Classical.not_not] at h9
      refine R_aload rfl rfl rfl ?_
      refine T_getr (v := 69) rfl rfl rfl rfl ?_
      refine R_iload rfl rfl ?_
      refine T_ald rfl rfl (by omega) (by omega) ?_
      refine R_iload rfl rfl ?_
      refine R_iload rfl rfl ?_
      refine R_inv rfl rfl rfl rfl rfl (sp_X9_within d (by omega) _ _ _ _) rfl ?_
      show pCm _ _ _ 24 _ [(0, _)] _
      refine R_if rfl (fun h24 => ?_) (fun h24 => ?_)
      · try simp only [ne_eq, b2i_e, b2i_1, Classical.not_not] at h24
        refine R_iload rfl rfl ?_
        refine R_iret rfl ?_
        first
        | exact hE _ (by rw [hr, RN_e (by omega)])
        | exact hE _ (by rw [hr, RN_e (fun w => by have w2 : b2i (lo ≤ σ 53 k ∧ σ 53 k ≤ hi) = 1 := w.2; rw [b2i_f (by omega)] at w2; omega)])
      · try simp only [ne_eq, b2i_e, b2i_1, Classical.not_not] at h24
        refine R_inc rfl rfl (by omega) (by omega) ?_
        refine R_goto rfl ?_
        exact ih (k + 1) ⟨⟨by omega, by omega⟩, by rw [hr]; exact RN_s (by omega) (b2i_t (by omega))⟩ (by omega)
  · exact ⟨⟨Int.le_refl _, by omega⟩, rfl⟩
set_option maxRecDepth 20000 in
set_option maxHeartbeats 2000000 in
theorem sp_X7_find_54 (d : Nat) (hd : 1 ≤ d) (xs : List (Nat × Nat)) (t dd rr : Nat) (σ : Sg) (n : Int) (hn : 0 ≤ n ∧ n ≤ 8) : Ev d 231 [(68, 0), (70, 0), (0, n)] (Wd xs t dd rr σ) (0, frst (fun k => b2i (σ 54 k = σ 52 8)) (fun k => k) n) (Wd xs t dd rr σ) := by
  obtain ⟨d, rfl⟩ : ∃ e, d = e + 1 := ⟨d - 1, by omega⟩
  refine evP (nL := 4) (code := k_X7_find) rfl pb0 rfl (fun E hE => ?_)
  show pCm (Ev d) k_X7_find E 0 [(68, 0), (70, 0), (0, n), (9, 0)] [] _
  refine R_push rfl ?_
  refine R_istore rfl rfl ?_
  refine loop (pc := 2) (α := Int) (fun x => (n - x).toNat) (fun x => ([(68, 0), (70, 0), (0, n), (0, x)], Wd xs t dd rr σ)) (fun x => (0 ≤ x ∧ x ≤ n) ∧ frst (fun k => b2i (σ 54 k = σ 52 8)) (fun k => k) x = -1) ?_ 0 ?_
  · intro k ⟨⟨hk0, hk1⟩, hfr⟩ ih
    dsimp only at hk0 hk1 hfr ⊢
    have hfs := frst_s (g := (fun k => b2i (σ 54 k = σ 52 8))) (nu := fun k => k) hk0
    rw [if_pos hfr] at hfs
    have hlc : pLcmp (σ 54 k) (σ 52 8) = 0 ↔ σ 54 k = σ 52 8 := by unfold pLcmp; split <;> (try split) <;> omega
    refine R_iload rfl rfl ?_
    refine R_iload rfl rfl ?_
    refine R_ic rfl (fun h4 => ?_) (fun h4 => ?_)
    · try simp only [ne_eq, b2i_e, b2i_1, Classical.not_not] at h4
      refine R_push rfl ?_
      refine R_iret rfl ?_
      exact hE _ (by rw [← show k = n by omega, hfr])
    · try simp only [ne_eq, b2i_e, b2i_1, Classical.not_not] at h4
      refine R_iload rfl rfl ?_
      refine R_aload rfl rfl rfl ?_
      refine R_alen rfl rfl rfl rfl ?_
      refine R_ic rfl (fun h10 => ?_) (fun h10 => ?_)
      · try simp only [ne_eq, b2i_e, b2i_1, Classical.not_not] at h10
        refine R_push rfl ?_
        refine R_iret rfl ?_
        exact hE _ (by rw [← show k = n by omega, hfr])
      · try simp only [ne_eq, b2i_e, b2i_1, Classical.not_not] at h10
        refine R_aload rfl rfl rfl ?_
        refine R_iload rfl rfl ?_
        refine T_ald rfl rfl (by omega) (by omega) ?_
        refine R_aload rfl rfl rfl ?_
        refine T_getl rfl rfl rfl ?_
        refine R_lcmp rfl ?_
        refine R_if rfl (fun h21 => ?_) (fun h21 => ?_)
        · try simp only [ne_eq, b2i_e, b2i_1, Classical.not_not] at h21
          refine R_inc rfl rfl (by omega) (by omega) ?_
          refine R_goto rfl ?_
          exact ih (k + 1) ⟨⟨by omega, by omega⟩, by rw [hfs, b2i_f (fun w => by have := hlc.mpr w; omega), if_neg (by omega)]⟩ (by omega)
        · try simp only [ne_eq, b2i_e, b2i_1, Classical.not_not] at h21
          refine R_iload rfl rfl ?_
          refine R_iret rfl ?_
          exact hE _ (by
            have hg : (fun k => b2i (σ 54 k = σ 52 8)) k = 1 := b2i_t (hlc.mp (by omega))
            have := frst_f (nu := fun k => k) hk0 hfr hg (by omega) (n - (k + 1)).toNat
            rw [show k + 1 + ((n - (k + 1)).toNat : Int) = n by omega] at this
            rw [this])
  · exact ⟨⟨Int.le_refl _, hn.1⟩, rfl⟩
set_option maxRecDepth 20000 in
set_option maxHeartbeats 2000000 in
theorem sp_X7_find_55 (d : Nat) (hd : 1 ≤ d) (xs : List (Nat × Nat)) (t dd rr : Nat) (σ : Sg) (n : Int) (hn : 0 ≤ n ∧ n ≤ 12) : Ev d 231 [(68, 0), (71, 0), (0, n)] (Wd xs t dd rr σ) (0, frst (fun k => b2i (σ 55 k = σ 52 8)) (fun k => k) n) (Wd xs t dd rr σ) := by
  obtain ⟨d, rfl⟩ : ∃ e, d = e + 1 := ⟨d - 1, by omega⟩
  refine evP (nL := 4) (code := k_X7_find) rfl pb0 rfl (fun E hE => ?_)
  show pCm (Ev d) k_X7_find E 0 [(68, 0), (71, 0), (0, n), (9, 0)] [] _
  refine R_push rfl ?_
  refine R_istore rfl rfl ?_
  refine loop (pc := 2) (α := Int) (fun x => (n - x).toNat) (fun x => ([(68, 0), (71, 0), (0, n), (0, x)], Wd xs t dd rr σ)) (fun x => (0 ≤ x ∧ x ≤ n) ∧ frst (fun k => b2i (σ 55 k = σ 52 8)) (fun k => k) x = -1) ?_ 0 ?_
  · intro k ⟨⟨hk0, hk1⟩, hfr⟩ ih
    dsimp only at hk0 hk1 hfr ⊢
    have hfs := frst_s (g := (fun k => b2i (σ 55 k = σ 52 8))) (nu := fun k => k) hk0
    rw [if_pos hfr] at hfs
    have hlc : pLcmp (σ 55 k) (σ 52 8) = 0 ↔ σ 55 k = σ 52 8 := by unfold pLcmp; split <;> (try split) <;> omega
    refine R_iload rfl rfl ?_
    refine R_iload rfl rfl ?_
    refine R_ic rfl (fun h4 => ?_) (fun h4 => ?_)
    · try simp only [ne_eq, b2i_e, b2i_1, Classical.not_not] at h4
      refine R_push rfl ?_
      refine R_iret rfl ?_
      exact hE _ (by rw [← show k = n by omega, hfr])
    · try simp only [ne_eq, b2i_e, b2i_1, Classical.not_not] at h4
      refine R_iload rfl rfl ?_
      refine R_aload rfl rfl rfl ?_
      refine R_alen rfl rfl rfl rfl ?_
      refine R_ic rfl (fun h10 => ?_) (fun h10 => ?_)
      · try simp only [ne_eq, b2i_e, b2i_1, Classical.not_not] at h10
        refine R_push rfl ?_
        refine R_iret rfl ?_
        exact hE _ (by rw [← show k = n by omega, hfr])
      · try simp only [ne_eq, b2i_e, b2i_1, Classical.not_not] at h10
        refine R_aload rfl rfl rfl ?_
        refine R_iload rfl rfl ?_
        refine T_ald rfl rfl (by omega) (by omega) ?_
        refine R_aload rfl rfl rfl ?_
        refine T_getl rfl rfl rfl ?_
        refine R_lcmp rfl ?_
        refine R_if rfl (fun h21 => ?_) (fun h21 => ?_)
        · try simp only [ne_eq, b2i_e, b2i_1, Classical.not_not] at h21
          refine R_inc rfl rfl (by omega) (by omega) ?_
          refine R_goto rfl ?_
          exact ih (k + 1) ⟨⟨by omega, by omega⟩, by rw [hfs, b2i_f (fun w => by have := hlc.mpr w; omega), if_neg (by omega)]⟩ (by omega)
        · try simp only [ne_eq, b2i_e, b2i_1, Classical.not_not] at h21
          refine R_iload rfl rfl ?_
          refine R_iret rfl ?_
          exact hE _ (by
            have hg : (fun k => b2i (σ 55 k = σ 52 8)) k = 1 := b2i_t (hlc.mp (by omega))
            have := frst_f (nu := fun k => k) hk0 hfr hg (by omega) (n - (k + 1)).toNat
            rw [show k + 1 + ((n - (k + 1)).toNat : Int) = n by omega] at this
            rw [this])
  · exact ⟨⟨Int.le_refl _, hn.1⟩, rfl⟩
set_option maxRecDepth 20000 in
set_option maxHeartbeats 2000000 in
theorem sp_X7_find_56 (d : Nat) (hd : 1 ≤ d) (xs : List (Nat × Nat)) (t dd rr : Nat) (σ : Sg) (n : Int) (hn : 0 ≤ n ∧ n ≤ 8) : Ev d 231 [(68, 0), (72, 0), (0, n)] (Wd xs t dd rr σ) (0, frst (fun k => b2i (σ 56 k = σ 52 8)) (fun k => k) n) (Wd xs t dd rr σ) := by
  obtain ⟨d, rfl⟩ : ∃ e, d = e + 1 := ⟨d - 1, by omega⟩
  refine evP (nL := 4) (code := k_X7_find) rfl pb0 rfl (fun E hE => ?_)
  show pCm (Ev d) k_X7_find E 0 [(68, 0), (72, 0), (0, n), (9, 0)] [] _
  refine R_push rfl ?_
  refine R_istore rfl rfl ?_
  refine loop (pc := 2) (α := Int) (fun x => (n - x).toNat) (fun x => ([(68, 0), (72, 0), (0, n), (0, x)], Wd xs t dd rr σ)) (fun x => (0 ≤ x ∧ x ≤ n) ∧ frst (fun k => b2i (σ 56 k = σ 52 8)) (fun k => k) x = -1) ?_ 0 ?_
  · intro k ⟨⟨hk0, hk1⟩, hfr⟩ ih
    dsimp only at hk0 hk1 hfr ⊢
    have hfs := frst_s (g := (fun k => b2i (σ 56 k = σ 52 8))) (nu := fun k => k) hk0
    rw [if_pos hfr] at hfs
    have hlc : pLcmp (σ 56 k) (σ 52 8) = 0 ↔ σ 56 k = σ 52 8 := by unfold pLcmp; split <;> (try split) <;> omega
    refine R_iload rfl rfl ?_
    refine R_iload rfl rfl ?_
    refine R_ic rfl (fun h4 => ?_) (fun h4 => ?_)
    · try simp only [ne_eq, b2i_e, b2i_1, Classical.not_not] at h4
      refine R_push rfl ?_
      refine R_iret rfl ?_
      exact hE _ (by rw [← show k = n by omega, hfr])
    · try simp only [ne_eq, b2i_e, b2i_1, Classical.not_not] at h4
      refine R_iload rfl rfl ?_
      refine R_aload rfl rfl rfl ?_
      refine R_alen rfl rfl rfl rfl ?_
      refine R_ic rfl (fun h10 => ?_) (fun h10 => ?_)
      · try simp only [ne_eq, b2i_e, b2i_1, Classical.not_not] at h10
        refine R_push rfl ?_
        refine R_iret rfl ?_
        exact hE _ (by rw [← show k = n by omega, hfr])
      · try simp only [ne_eq, b2i_e, b2i_1, Classical.not_not] at h10
        refine R_aload rfl rfl rfl ?_
        refine R_iload rfl rfl ?_
        refine T_ald rfl rfl (by omega) (by omega) ?_
        refine R_aload rfl rfl rfl ?_
        refine T_getl rfl rfl rfl ?_
        refine R_lcmp rfl ?_
        refine R_if rfl (fun h21 => ?_) (fun h21 => ?_)
        · try simp only [ne_eq, b2i_e, b2i_1, Classical.not_not] at h21
          refine R_inc rfl rfl (by omega) (by omega) ?_
          refine R_goto rfl ?_
          exact ih (k + 1) ⟨⟨by omega, by omega⟩, by rw [hfs, b2i_f (fun w => by have := hlc.mpr w; omega), if_neg (by omega)]⟩ (by omega)
        · try simp only [ne_eq, b2i_e, b2i_1, Classical.not_not] at h21
          refine R_iload rfl rfl ?_
          refine R_iret rfl ?_
          exact hE _ (by
            have hg : (fun k => b2i (σ 56 k = σ 52 8)) k = 1 := b2i_t (hlc.mp (by omega))
            have := frst_f (nu := fun k => k) hk0 hfr hg (by omega) (n - (k + 1)).toNat
            rw [show k + 1 + ((n - (k + 1)).toNat : Int) = n by omega] at this
            rw [this])
  · exact ⟨⟨Int.le_refl _, hn.1⟩, rfl⟩
set_option maxRecDepth 20000 in
set_option maxHeartbeats 2000000 in
theorem sp_X7_takeNumber (d : Nat) (hd : 1 ≤ d) (xs : List (Nat × Nat)) (t dd rr : Nat) (σ : Sg) (p e : Int) (hp : σ 52 5 = p) (he : σ 52 6 = e) (hpe : 0 ≤ p ∧ p ≤ e ∧ e ≤ 1000) (h7z : σ 52 7 = 0) (hD : ∀ i, 0 ≤ i → i < e - p → 48 ≤ σ 53 (p + i) ∧ σ 53 (p + i) ≤ 57) : ∃ σ', Ev d 229 [(68, 0)] (Wd xs t dd rr σ) (8, 0) (Wd xs t dd rr σ') ∧ Fr [] [(52, 4), (52, 7)] σ σ' ∧ σ' 52 4 = (if 4 < e - p then 1 else 2) ∧ σ' 52 7 = (if 4 < e - p then 0 else dvl (fun i => σ 53 (p + i) - 48) (e - p)) := by
  obtain ⟨d, rfl⟩ : ∃ e, d = e + 1 := ⟨d - 1, by omega⟩
  refine evS (nL := 2) (code := k_X7_takeNumber) rfl dc_X7_takeNumber rfl (fun E hE => ?_)
  show pCm (Ev d) k_X7_takeNumber E 0 [(68, 0), (9, 0)] [] _
  refine R_aload rfl rfl rfl ?_
  refine T_geti rfl rfl rfl ?_
  refine R_aload rfl rfl rfl ?_
  refine T_geti rfl rfl rfl ?_
  refine R_sub rfl (by omega) (by omega) ?_
  refine R_push rfl ?_
  refine R_ic rfl (fun h10 => ?_) (fun h10 => ?_)
  · try simp only [ne_eq, b2i_e, b2i_1, Classical.not_not] at h10
    refine R_aload rfl rfl rfl ?_
    refine R_push rfl ?_
    refine T_puti rfl rfl rfl ?_
    generalize hs0 : up2 σ 52 4 2 = s0
    have e05 : s0 52 5 = p := by rw [← hs0]; simp [up2]; exact hp
    refine R_aload rfl rfl rfl ?_
    refine T_geti rfl rfl rfl ?_
    rw [e05]
    refine R_istore rfl rfl ?_
    suffices hh : pCm (Ev d) k_X7_takeNumber E 29 [(68, 0), (0, p + 0)] [] (Wd xs t dd rr s0) by rwa [Int.add_zero] at hh
    refine loop (pc := 29) (α := Int × Sg) (fun x => (e - p - x.1).toNat) (fun x => ([(68, 0), (0, p + x.1)], Wd xs t dd rr x.2)) (fun x => (0 ≤ x.1 ∧ x.1 ≤ e - p) ∧ Fr [] [(52, 4), (52, 7)] σ x.2 ∧ x.2 52 4 = 2 ∧ x.2 52 7 = dvl (fun i => σ 53 (p + i) - 48) x.1) ?_ (0, s0) ?_
    · intro ⟨k, s1⟩ ⟨⟨hk0, hk1⟩, hF, h4, h7⟩ ih
      dsimp only at hk0 hk1 hF h4 h7 ⊢
      have e6 := hF.at 52 6 rfl
      have hds := dvl_s (f := (fun i => σ 53 (p + i) - 48)) hk0
      have hdb := dvl_bd (f := (fun i => σ 53 (p + i) - 48)) hk0 (by omega) (fun i i0 i1 => by have := hD i i0 (by omega); omega)
      have hDk : k < e - p → _ := fun w => hD k hk0 w
      refine R_iload rfl rfl ?_
      refine R_aload rfl rfl rfl ?_
      refine T_geti rfl rfl rfl ?_
      rw [e6, he]
      refine R_ic rfl (fun h34 => ?_) (fun h34 => ?_)
      · try simp only [ne_eq, b2i_e, b2i_1, Classical.not_not] at h34
        refine R_vret rfl ?_
        exact hE _ _ rfl ⟨hF, by rw [if_neg (by omega), h4], by rw [if_neg (by omega), h7, show k = e - p by omega]⟩
      · try simp only [ne_eq, b2i_e, b2i_1, Classical.not_not] at h34
        have hDk := hDk (by omega)
        refine R_aload rfl rfl rfl ?_
        refine R_push rfl ?_
        refine R_aload rfl rfl rfl ?_
        refine T_geti rfl rfl rfl ?_
        rw [h7]
        refine R_mul rfl (by omega) (by omega) ?_
        refine R_aload rfl rfl rfl ?_
        refine T_getr (v := 69) rfl rfl rfl rfl ?_
        refine R_iload rfl rfl ?_
        refine T_ald rfl rfl (by omega) (by omega) ?_
        rw [hF.row 53 rfl]
        refine R_add rfl (by omega) (by omega) ?_
        refine R_push rfl ?_
        refine R_sub rfl (by omega) (by omega) ?_
        refine T_puti rfl rfl rfl ?_
        refine R_inc rfl rfl (by omega) (by omega) ?_
        refine R_goto rfl ?_
        generalize hs2 : up2 s1 52 7 _ = s2
        rw [Int.add_assoc]
        refine ih (k + 1, s2) ⟨by dsimp only; omega, by rw [← hs2]; exact hF.up rfl, by show s2 52 4 = 2; rw [← hs2]; simp [up2]; exact h4, ?_⟩ (by dsimp only; omega)
        show s2 52 7 = _
        rw [hds, ← hs2, up_s]
        omega
    · exact ⟨by dsimp only; omega, by rw [← hs0]; exact Fr.rf.up rfl, by show s0 52 4 = 2; rw [← hs0]; simp [up2], by show s0 52 7 = 0; rw [← hs0]; simp [up2]; exact h7z⟩
  · try simp only [ne_eq, b2i_e, b2i_1, Classical.not_not] at h10
    refine R_aload rfl rfl rfl ?_
    refine R_push rfl ?_
    refine T_puti rfl rfl rfl ?_
    refine R_vret rfl ?_
    exact hE _ _ rfl ⟨Fr.rf.up rfl, by rw [if_pos (by omega)]; simp [up2], by rw [if_pos (by omega)]; simp [up2]; exact h7z⟩
set_option maxRecDepth 20000 in
set_option maxHeartbeats 2000000 in
theorem sp_X10_isLetter (d : Nat) (hd : 1 ≤ d) (w : pW) (c : Int) : Ev d 35 [(0, c)] w (0, b2i (97 ≤ c ∧ c ≤ 122)) w := by
  obtain ⟨d, rfl⟩ : ∃ e, d = e + 1 := ⟨d - 1, by omega⟩
  refine evP (nL := 1) (code := k_X10_isLetter) rfl ⟨Nat.le_refl _, Nat.le_refl _⟩ rfl (fun E hE => ?_)
  show pCm (Ev d) k_X10_isLetter E 0 [(0, c)] [] _
  refine R_iload rfl rfl ?_
  refine R_push rfl ?_
  refine R_ic rfl (fun h3 => ?_) (fun h3 => ?_)
  · try simp only [ne_eq, b2i_e, b2i_1, Classical.not_not] at h3
    refine R_push rfl ?_
    refine R_zret rfl (by first | exact Or.inl rfl | exact Or.inr rfl | omega | grind) ?_
    exact hE _ (by first | (exfalso; omega) | rfl | (congr 1; first | rw [b2i_t (by omega)] | rw [b2i_f (by omega)]))
  · try simp only [ne_eq, b2i_e, b2i_1, Classical.not_not] at h3
    refine R_iload rfl rfl ?_
    refine R_push rfl ?_
    refine R_ic rfl (fun h9 => ?_) (fun h9 => ?_)
    · try simp only [ne_eq, b2i_e, b2i_1, Classical.not_not] at h9
      refine R_push rfl ?_
      refine R_zret rfl (by first | exact Or.inl rfl | exact Or.inr rfl | omega | grind) ?_
      exact hE _ (by first | (exfalso; omega) | rfl | (congr 1; first | rw [b2i_t (by omega)] | rw [b2i_f (by omega)]))
    · try simp only [ne_eq, b2i_e, b2i_1, Classical.not_not] at h9
      refine R_push rfl ?_
      refine R_goto rfl ?_
      refine R_zret rfl (by first | exact Or.inl rfl | exact Or.inr rfl | omega | grind) ?_
      exact hE _ (by first | (exfalso; omega) | rfl | (congr 1; first | rw [b2i_t (by omega)] | rw [b2i_f (by omega)]))
set_option maxRecDepth 20000 in
set_option maxHeartbeats 2000000 in
theorem sp_X10_isDigit (d : Nat) (hd : 1 ≤ d) (w : pW) (c : Int) : Ev d 36 [(0, c)] w (0, b2i (48 ≤ c ∧ c ≤ 57)) w := by
  obtain ⟨d, rfl⟩ : ∃ e, d = e + 1 := ⟨d - 1, by omega⟩
  refine evP (nL := 1) (code := k_X10_isDigit) rfl ⟨Nat.le_refl _, Nat.le_refl _⟩ rfl (fun E hE => ?_)
  show pCm (Ev d) k_X10_isDigit E 0 [(0, c)] [] _
  refine R_iload rfl rfl ?_
  refine R_push rfl ?_
  refine R_ic rfl (fun h3 => ?_) (fun h3 => ?_)
  · try simp only [ne_eq, b2i_e, b2i_1, Classical.not_not] at h3
    refine R_push rfl ?_
    refine R_zret rfl (by first | exact Or.inl rfl | exact Or.inr rfl | omega | grind) ?_
    exact hE _ (by first | (exfalso; omega) | rfl | (congr 1; first | rw [b2i_t (by omega)] | rw [b2i_f (by omega)]))
  · try simp only [ne_eq, b2i_e, b2i_1, Classical.not_not] at h3
    refine R_iload rfl rfl ?_
    refine R_push rfl ?_
    refine R_ic rfl (fun h9 => ?_) (fun h9 => ?_)
    · try simp only [ne_eq, b2i_e, b2i_1, Classical.not_not] at h9
      refine R_push rfl ?_
      refine R_zret rfl (by first | exact Or.inl rfl | exact Or.inr rfl | omega | grind) ?_
      exact hE _ (by first | (exfalso; omega) | rfl | (congr 1; first | rw [b2i_t (by omega)] | rw [b2i_f (by omega)]))
    · try simp only [ne_eq, b2i_e, b2i_1, Classical.not_not] at h9
      refine R_push rfl ?_
      refine R_goto rfl ?_
      refine R_zret rfl (by first | exact Or.inl rfl | exact Or.inr rfl | omega | grind) ?_
      exact hE _ (by first | (exfalso; omega) | rfl | (congr 1; first | rw [b2i_t (by omega)] | rw [b2i_f (by omega)]))
set_option maxRecDepth 20000 in
set_option maxHeartbeats 2000000 in
theorem sp_X10_isSignOf (d : Nat) (hd : 1 ≤ d) (w : pW) (c : Int) : Ev d 38 [(0, c)] w (0, b2i (c = 40 ∨ c = 41 ∨ c = 59 ∨ c = 61 ∨ c = 60 ∨ c = 43 ∨ c = 45 ∨ c = 42)) w := by
  obtain ⟨d, rfl⟩ : ∃ e, d = e + 1 := ⟨d - 1, by omega⟩
  refine evP (nL := 1) (code := k_X10_isSignOf) rfl ⟨Nat.le_refl _, Nat.le_refl _⟩ rfl (fun E hE => ?_)
  show pCm (Ev d) k_X10_isSignOf E 0 [(0, c)] [] _
  refine R_iload rfl rfl ?_
  refine R_push rfl ?_
  refine R_ic rfl (fun h3 => ?_) (fun h3 => ?_)
  · try simp only [ne_eq, b2i_e, b2i_1, Classical.not_not] at h3
    refine R_push rfl ?_
    refine R_goto rfl ?_
    refine R_zret rfl (by first | exact Or.inl rfl | exact Or.inr rfl | omega | grind) ?_
    exact hE _ (by first | (exfalso; omega) | rfl | (congr 1; first | rw [b2i_t (by omega)] | rw [b2i_f (by omega)]))
  · try simp only [ne_eq, b2i_e, b2i_1, Classical.not_not] at h3
    refine R_iload rfl rfl ?_
    refine R_push rfl ?_
    refine R_ic rfl (fun h9 => ?_) (fun h9 => ?_)
    · try simp only [ne_eq, b2i_e, b2i_1, Classical.not_not] at h9
      refine R_push rfl ?_
      refine R_goto rfl ?_
      refine R_zret rfl (by first | exact Or.inl rfl | exact Or.inr rfl | omega | grind) ?_
      exact hE _ (by first | (exfalso; omega) | rfl | (congr 1; first | rw [b2i_t (by omega)] | rw [b2i_f (by omega)]))
    · try simp only [ne_eq, b2i_e, b2i_1, Classical.not_not] at h9
      refine R_iload rfl rfl ?_
      refine R_push rfl ?_
      refine R_ic rfl (fun h15 => ?_) (fun h15 => ?_)
      · try simp only [ne_eq, b2i_e, b2i_1, Classical.not_not] at h15
        refine R_push rfl ?_
        refine R_goto rfl ?_
        refine R_zret rfl (by first | exact Or.inl rfl | exact Or.inr rfl | omega | grind) ?_
        exact hE _ (by first | (exfalso; omega) | rfl | (congr 1; first | rw [b2i_t (by omega)] | rw [b2i_f (by omega)]))
      · try simp only [ne_eq, b2i_e, b2i_1, Classical.not_not] at h15
        refine R_iload rfl rfl ?_
        refine R_push rfl ?_
        refine R_ic rfl (fun h21 => ?_) (fun h21 => ?_)
        · try simp only [ne_eq, b2i_e, b2i_1, Classical.not_not] at h21
          refine R_push rfl ?_
          refine R_goto rfl ?_
          refine R_zret rfl (by first | exact Or.inl rfl | exact Or.inr rfl | omega | grind) ?_
          exact hE _ (by first | (exfalso; omega) | rfl | (congr 1; first | rw [b2i_t (by omega)] | rw [b2i_f (by omega)]))
        · try simp only [ne_eq, b2i_e, b2i_1, Classical.not_not] at h21
          refine R_iload rfl rfl ?_
          refine R_push rfl ?_
          refine R_ic rfl (fun h27 => ?_) (fun h27 => ?_)
          · try simp only [ne_eq, b2i_e, b2i_1, Classical.not_not] at h27
            refine R_push rfl ?_
            refine R_goto rfl ?_
            refine R_zret rfl (by first | exact Or.inl rfl | exact Or.inr rfl | omega | grind) ?_
            exact hE _ (by first | (exfalso; omega) | rfl | (congr 1; first | rw [b2i_t (by omega)] | rw [b2i_f (by omega)]))
          · try simp only [ne_eq, b2i_e, b2i_1, Classical.not_not] at h27
            refine R_iload rfl rfl ?_
            refine R_push rfl ?_
            refine R_ic rfl (fun h33 => ?_) (fun h33 => ?_)
            · try simp only [ne_eq, b2i_e, b2i_1, Classical.not_not] at h33
              refine R_push rfl ?_
              refine R_goto rfl ?_
              refine R_zret rfl (by first | exact Or.inl rfl | exact Or.inr rfl | omega | grind) ?_
              exact hE _ (by first | (exfalso; omega) | rfl | (congr 1; first | rw [b2i_t (by omega)] | rw [b2i_f (by omega)]))
            · try simp only [ne_eq, b2i_e, b2i_1, Classical.not_not] at h33
              refine R_iload rfl rfl ?_
              refine R_push rfl ?_
              refine R_ic rfl (fun h39 => ?_) (fun h39 => ?_)
              · try simp only [ne_eq, b2i_e, b2i_1, Classical.not_not] at h39
                refine R_push rfl ?_
                refine R_goto rfl ?_
                refine R_zret rfl (by first | exact Or.inl rfl | exact Or.inr rfl | omega | grind) ?_
                exact hE _ (by first | (exfalso; omega) | rfl | (congr 1; first | rw [b2i_t (by omega)] | rw [b2i_f (by omega)]))
              · try simp only [ne_eq, b2i_e, b2i_1, Classical.not_not] at h39
                refine R_iload rfl rfl ?_
                refine R_push rfl ?_
                refine R_ic rfl (fun h45 => ?_) (fun h45 => ?_)
                · try simp only [ne_eq, b2i_e, b2i_1, Classical.not_not] at h45
                  refine R_push rfl ?_
                  refine R_zret rfl (by first | exact Or.inl rfl | exact Or.inr rfl | omega | grind) ?_
                  exact hE _ (by first | (exfalso; omega) | rfl | (congr 1; first | rw [b2i_t (by omega)] | rw [b2i_f (by omega)]))
                · try simp only [ne_eq, b2i_e, b2i_1, Classical.not_not] at h45
                  refine R_push rfl ?_
                  refine R_goto rfl ?_
                  refine R_zret rfl (by first | exact Or.inl rfl | exact Or.inr rfl | omega | grind) ?_
                  exact hE _ (by first | (exfalso; omega) | rfl | (congr 1; first | rw [b2i_t (by omega)] | rw [b2i_f (by omega)]))
set_option maxRecDepth 20000 in
set_option maxHeartbeats 2000000 in
theorem sp_X10_rank (d : Nat) (hd : 2 ≤ d) (w : pW) (c : Int) (hc : 97 ≤ c ∧ c ≤ 122) : Ev d 37 [(0, c)] w (0, c - 96) w := by
  obtain ⟨d, rfl⟩ : ∃ e, d = e + 1 := ⟨d - 1, by omega⟩
  refine evP (nL := 1) (code := k_X10_rank) rfl ⟨Nat.le_refl _, Nat.le_refl _⟩ rfl (fun E hE => ?_)
  show pCm (Ev d) k_X10_rank E 0 [(0, c)] [] _
  refine R_iload rfl rfl ?_
  refine R_inv rfl rfl rfl rfl rfl (sp_X10_isLetter d (by omega) _ c) rfl ?_
  show pCm _ _ _ 4 _ [(0, _)] _
  refine R_if rfl (fun h4 => ?_) (fun h4 => ?_)
  · try simp only [ne_eq, b2i_e, b2i_1, Classical.not_not] at h4
    refine R_iload rfl rfl ?_
    refine R_push rfl ?_
    refine R_sub rfl (by omega) (by omega) ?_
    refine R_iret rfl ?_
    first | (exfalso; omega) | exact hE _ rfl
  · try simp only [ne_eq, b2i_e, b2i_1, Classical.not_not] at h4
    refine R_iload rfl rfl ?_
    refine R_push rfl ?_
    refine R_sub rfl (by omega) (by omega) ?_
    refine R_goto rfl ?_
    refine R_iret rfl ?_
    first | (exfalso; omega) | exact hE _ rfl
set_option maxRecDepth 20000 in
set_option maxHeartbeats 2000000 in
theorem sp_X10_thrown (d : Nat) (hd : 1 ≤ d) (xs : List (Nat × Nat)) (t dd rr : Nat) (σ : Sg)  : Ev d 31 [(87, 0)] (Wd xs t dd rr σ) (0, σ 71 0) (Wd xs t dd rr σ) := by
  obtain ⟨d, rfl⟩ : ∃ e, d = e + 1 := ⟨d - 1, by omega⟩
  refine evP (nL := 1) (code := k_X10_thrown) rfl pb0 rfl (fun E hE => ?_)
  show pCm (Ev d) k_X10_thrown E 0 [(87, 0)] [] _
  refine R_aload rfl rfl rfl ?_
  refine T_geti rfl rfl rfl ?_
  refine R_iret rfl ?_
  exact hE _ rfl

set_option maxRecDepth 20000 in
set_option maxHeartbeats 2000000 in
theorem sp_X8_clear_37 (d : Nat) (hd : 1 ≤ d) (xs : List (Nat × Nat)) (t dd rr : Nat) (σ : Sg)  : Ev d 233 [(53, 0)] (Wd xs t dd rr σ) (8, 0) (Wd xs t dd rr (up2 (up2 (up2 (σ) 37 (0) (0)) 37 (1) (0)) 37 (2) (0))) := by
  obtain ⟨d, rfl⟩ : ∃ e, d = e + 1 := ⟨d - 1, by omega⟩
  refine evP (nL := 1) (code := k_X8_clear) rfl pb0 rfl (fun E hE => ?_)
  show pCm (Ev d) k_X8_clear E 0 [(53, 0)] [] _
  refine R_aload rfl rfl rfl ?_
  refine R_push rfl ?_
  refine T_puti rfl rfl rfl ?_
  refine R_aload rfl rfl rfl ?_
  refine R_push rfl ?_
  refine T_puti rfl rfl rfl ?_
  refine R_aload rfl rfl rfl ?_
  refine R_push rfl ?_
  refine T_puti rfl rfl rfl ?_
  refine R_vret rfl ?_
  exact hE _ rfl
set_option maxRecDepth 20000 in
set_option maxHeartbeats 2000000 in
theorem sp_X8_write_37 (d : Nat) (hd : 1 ≤ d) (xs : List (Nat × Nat)) (t dd rr : Nat) (σ : Sg) (k w : Int) (hk : 0 ≤ k ∧ k ≤ 255) (hw : -1 ≤ w ∧ w ≤ 9999) (hs : 0 ≤ σ 37 2 ∧ σ 37 2 < 1000) : Ev d 234 [(53, 0), (0, k), (0, w)] (Wd xs t dd rr σ) (8, 0) (Wd xs t dd rr (up2 (up2 (σ) 41 (σ 37 2) (k + 256 * w)) 37 (2) (σ 37 2 + 1))) := by
  obtain ⟨d, rfl⟩ : ∃ e, d = e + 1 := ⟨d - 1, by omega⟩
  refine evP (nL := 3) (code := k_X8_write) rfl pb0 rfl (fun E hE => ?_)
  show pCm (Ev d) k_X8_write E 0 [(53, 0), (0, k), (0, w)] [] _
  refine R_aload rfl rfl rfl ?_
  refine T_geti rfl rfl rfl ?_
  refine R_push rfl ?_
  refine R_ic rfl (fun h7 => ?_) (fun h7 => ?_)
  · try simp only [ne_eq, b2i_e, b2i_1, Classical.not_not] at h7
    exfalso; omega
  · try simp only [ne_eq, b2i_e, b2i_1, Classical.not_not] at h7
    refine R_aload rfl rfl rfl ?_
    refine T_getr (v := 57) rfl rfl rfl rfl ?_
    refine R_aload rfl rfl rfl ?_
    refine T_geti rfl rfl rfl ?_
    refine R_iload rfl rfl ?_
    refine R_push rfl ?_
    refine R_iload rfl rfl ?_
    refine R_mul rfl (by omega) (by omega) ?_
    refine R_add rfl (by omega) (by omega) ?_
    refine T_iast rfl rfl (by omega) (by omega) ?_
    generalize hs1 : up2 σ 41 (σ 37 2) (k + 256 * w) = s1
    have e2 : s1 37 2 = σ 37 2 := by rw [← hs1]; simp [up2]
    refine R_aload rfl rfl rfl ?_
    refine R_dup rfl rfl ?_
    refine T_geti rfl rfl rfl ?_
    rw [e2]
    refine R_push rfl ?_
    refine R_add rfl (by omega) (by omega) ?_
    refine T_puti rfl rfl rfl ?_
    refine R_vret rfl ?_
    rw [← hs1]
    exact hE _ rfl
set_option maxRecDepth 20000 in
set_option maxHeartbeats 2000000 in
theorem sp_X8_endLine_37 (d : Nat) (hd : 1 ≤ d) (xs : List (Nat × Nat)) (t dd rr : Nat) (σ : Sg) (k n : Int) (hl : 0 ≤ σ 37 0 ∧ σ 37 0 < 24) (hn : 0 ≤ σ 37 1 ∧ σ 37 1 ≤ 8) : ∃ σ', Ev d 235 [(53, 0), (0, k), (0, n)] (Wd xs t dd rr σ) (8, 0) (Wd xs t dd rr σ') ∧ Fr [38, 39, 40] [(37, 0), (37, 1)] σ σ' ∧ σ' 37 0 = σ 37 0 + 1 ∧ σ' 37 1 = (if k = 128 then σ 37 1 + 1 else σ 37 1) ∧ (∀ i, σ' 38 i = if i = σ 37 0 then k else σ 38 i) ∧ (∀ i, σ' 39 i = if i = σ 37 0 then (if k = 128 then σ 37 1 else n) else σ 39 i) ∧ ∀ i, σ' 40 i = if i = σ 37 0 + 1 then σ 37 2 else σ 40 i := by
  obtain ⟨d, rfl⟩ : ∃ e, d = e + 1 := ⟨d - 1, by omega⟩
  refine evS (nL := 3) (code := k_X8_endLine) rfl dc_X8_endLine rfl (fun E hE => ?_)
  show pCm (Ev d) k_X8_endLine E 0 [(53, 0), (0, k), (0, n)] [] _
  refine R_aload rfl rfl rfl ?_
  refine T_geti rfl rfl rfl ?_
  refine R_push rfl ?_
  refine R_ic rfl (fun h6 => ?_) (fun h6 => ?_)
  · try simp only [ne_eq, b2i_e, b2i_1, Classical.not_not] at h6
    refine R_aload rfl rfl rfl ?_
    refine T_getr (v := 54) rfl rfl rfl rfl ?_
    refine R_aload rfl rfl rfl ?_
    refine T_geti rfl rfl rfl ?_
    refine R_iload rfl rfl ?_
    refine T_iast rfl rfl (by omega) (by omega) ?_
    generalize hs1 : up2 σ 38 (σ 37 0) k = s1
    have e01 : s1 37 0 = σ 37 0 := by rw [← hs1]; simp [up2]
    refine R_aload rfl rfl rfl ?_
    refine T_getr (v := 55) rfl rfl rfl rfl ?_
    refine R_aload rfl rfl rfl ?_
    refine T_geti rfl rfl rfl ?_
    rw [e01]
    refine R_iload rfl rfl ?_
    refine T_iast rfl rfl (by omega) (by omega) ?_
    generalize hs2 : up2 s1 39 (σ 37 0) n = s2
    have e02 : s2 37 0 = σ 37 0 := by rw [← hs2]; simp [up2]; exact e01
    have e22 : s2 37 2 = σ 37 2 := by rw [← hs2, ← hs1]; simp [up2]
    have e12 : s2 37 1 = σ 37 1 := by rw [← hs2, ← hs1]; simp [up2]
    refine R_aload rfl rfl rfl ?_
    refine R_dup rfl rfl ?_
    refine T_geti rfl rfl rfl ?_
    rw [e02]
    refine R_push rfl ?_
    refine R_add rfl (by omega) (by omega) ?_
    refine T_puti rfl rfl rfl ?_
    generalize hs3 : up2 s2 37 0 (σ 37 0 + 1) = s3
    have e03 : s3 37 0 = σ 37 0 + 1 := by rw [← hs3]; simp [up2]
    have e23 : s3 37 2 = σ 37 2 := by rw [← hs3]; simp [up2]; exact e22
    have e13 : s3 37 1 = σ 37 1 := by rw [← hs3]; simp [up2]; exact e12
    refine R_aload rfl rfl rfl ?_
    refine T_getr (v := 56) rfl rfl rfl rfl ?_
    refine R_aload rfl rfl rfl ?_
    refine T_geti rfl rfl rfl ?_
    rw [e03]
    refine R_aload rfl rfl rfl ?_
    refine T_geti rfl rfl rfl ?_
    rw [e23]
    refine T_iast rfl rfl (by omega) (by omega) ?_
    generalize hs4 : up2 s3 40 (σ 37 0 + 1) (σ 37 2) = s4
    have e04 : s4 37 0 = σ 37 0 + 1 := by rw [← hs4]; simp [up2]; exact e03
    have e14 : s4 37 1 = σ 37 1 := by rw [← hs4]; simp [up2]; exact e13
    refine R_iload rfl rfl ?_
    refine R_push rfl ?_
    refine R_ic rfl (fun h57 => ?_) (fun h57 => ?_)
    · try simp only [ne_eq, b2i_e, b2i_1, Classical.not_not] at h57
      refine R_vret rfl ?_
      first
      | exact hE _ _ rfl ⟨by rw [← hs5, ← hs4, ← hs3, ← hs2, ← hs1]; exact (((((Fr.rf.upr rfl).upr rfl).up rfl).upr rfl).upr rfl).up rfl, by rw [← hs5]; simp [up2]; exact e04, by rw [if_pos (by omega)]; simp [up2], fun i => by rw [← hs5, ← hs4, ← hs3, ← hs2, ← hs1]; simp [up2], fun i => by rw [if_pos (c := k = 128) (by omega), ← hs5, ← hs4, ← hs3, ← hs2, ← hs1]; by_cases z : i = σ 37 0 <;> simp [up2, z], fun i => by rw [← hs5, ← hs4, ← hs3, ← hs2, ← hs1]; simp [up2]⟩
      | exact hE _ _ rfl ⟨by rw [← hs4, ← hs3, ← hs2, ← hs1]; exact (((Fr.rf.upr rfl).upr rfl).up rfl).upr rfl, e04, by rw [if_neg (by omega)]; exact e14, fun i => by rw [← hs4, ← hs3, ← hs2, ← hs1]; simp [up2], fun i => by rw [if_neg (c := k = 128) (by omega), ← hs4, ← hs3, ← hs2, ← hs1]; simp [up2], fun i => by rw [← hs4, ← hs3, ← hs2, ← hs1]; simp [up2]⟩
    · try simp only [ne_eq, b2i_e, b2i_1, Classical.not_not] at h57
      refine R_aload rfl rfl rfl ?_
      refine T_getr (v := 55) rfl rfl rfl rfl ?_
      refine R_aload rfl rfl rfl ?_
      refine T_geti rfl rfl rfl ?_
      rw [e04]
      refine R_push rfl ?_
      refine R_sub rfl (by omega) (by omega) ?_
      rw [show σ 37 0 + 1 - 1 = σ 37 0 by omega]
      refine R_aload rfl rfl rfl ?_
      refine T_geti rfl rfl rfl ?_
      rw [e14]
      refine T_iast rfl rfl (by omega) (by omega) ?_
      generalize hs5 : up2 s4 39 (σ 37 0) (σ 37 1) = s5
      have e15 : s5 37 1 = σ 37 1 := by rw [← hs5]; simp [up2]; exact e14
      refine R_aload rfl rfl rfl ?_
      refine R_dup rfl rfl ?_
      refine T_geti rfl rfl rfl ?_
      rw [e15]
      refine R_push rfl ?_
      refine R_add rfl (by omega) (by omega) ?_
      refine T_puti rfl rfl rfl ?_
      refine R_vret rfl ?_
      first
      | exact hE _ _ rfl ⟨by rw [← hs5, ← hs4, ← hs3, ← hs2, ← hs1]; exact (((((Fr.rf.upr rfl).upr rfl).up rfl).upr rfl).upr rfl).up rfl, by rw [← hs5]; simp [up2]; exact e04, by rw [if_pos (by omega)]; simp [up2], fun i => by rw [← hs5, ← hs4, ← hs3, ← hs2, ← hs1]; simp [up2], fun i => by rw [if_pos (c := k = 128) (by omega), ← hs5, ← hs4, ← hs3, ← hs2, ← hs1]; by_cases z : i = σ 37 0 <;> simp [up2, z], fun i => by rw [← hs5, ← hs4, ← hs3, ← hs2, ← hs1]; simp [up2]⟩
      | exact hE _ _ rfl ⟨by rw [← hs4, ← hs3, ← hs2, ← hs1]; exact (((Fr.rf.upr rfl).upr rfl).up rfl).upr rfl, e04, by rw [if_neg (by omega)]; exact e14, fun i => by rw [← hs4, ← hs3, ← hs2, ← hs1]; simp [up2], fun i => by rw [if_neg (c := k = 128) (by omega), ← hs4, ← hs3, ← hs2, ← hs1]; simp [up2], fun i => by rw [← hs4, ← hs3, ← hs2, ← hs1]; simp [up2]⟩
  · try simp only [ne_eq, b2i_e, b2i_1, Classical.not_not] at h6
    refine R_vret rfl ?_
    exfalso; omega
set_option maxRecDepth 20000 in
set_option maxHeartbeats 2000000 in
theorem sp_X8_clear_44 (d : Nat) (hd : 1 ≤ d) (xs : List (Nat × Nat)) (t dd rr : Nat) (σ : Sg)  : Ev d 233 [(60, 0)] (Wd xs t dd rr σ) (8, 0) (Wd xs t dd rr (up2 (up2 (up2 (σ) 44 (0) (0)) 44 (1) (0)) 44 (2) (0))) := by
  obtain ⟨d, rfl⟩ : ∃ e, d = e + 1 := ⟨d - 1, by omega⟩
  refine evP (nL := 1) (code := k_X8_clear) rfl pb0 rfl (fun E hE => ?_)
  show pCm (Ev d) k_X8_clear E 0 [(60, 0)] [] _
  refine R_aload rfl rfl rfl ?_
  refine R_push rfl ?_
  refine T_puti rfl rfl rfl ?_
  refine R_aload rfl rfl rfl ?_
  refine R_push rfl ?_
  refine T_puti rfl rfl rfl ?_
  refine R_aload rfl rfl rfl ?_
  refine R_push rfl ?_
  refine T_puti rfl rfl rfl ?_
  refine R_vret rfl ?_
  exact hE _ rfl
set_option maxRecDepth 20000 in
set_option maxHeartbeats 2000000 in
theorem sp_X8_write_44 (d : Nat) (hd : 1 ≤ d) (xs : List (Nat × Nat)) (t dd rr : Nat) (σ : Sg) (k w : Int) (hk : 0 ≤ k ∧ k ≤ 255) (hw : -1 ≤ w ∧ w ≤ 9999) (hs : 0 ≤ σ 44 2 ∧ σ 44 2 < 1000) : Ev d 234 [(60, 0), (0, k), (0, w)] (Wd xs t dd rr σ) (8, 0) (Wd xs t dd rr (up2 (up2 (σ) 48 (σ 44 2) (k + 256 * w)) 44 (2) (σ 44 2 + 1))) := by
  obtain ⟨d, rfl⟩ : ∃ e, d = e + 1 := ⟨d - 1, by omega⟩
  refine evP (nL := 3) (code := k_X8_write) rfl pb0 rfl (fun E hE => ?_)
  show pCm (Ev d) k_X8_write E 0 [(60, 0), (0, k), (0, w)] [] _
  refine R_aload rfl rfl rfl ?_
  refine T_geti rfl rfl rfl ?_
  refine R_push rfl ?_
  refine R_ic rfl (fun h7 => ?_) (fun h7 => ?_)
  · try simp only [ne_eq, b2i_e, b2i_1, Classical.not_not] at h7
    exfalso; omega
  · try simp only [ne_eq, b2i_e, b2i_1, Classical.not_not] at h7
    refine R_aload rfl rfl rfl ?_
    refine T_getr (v := 64) rfl rfl rfl rfl ?_
    refine R_aload rfl rfl rfl ?_
    refine T_geti rfl rfl rfl ?_
    refine R_iload rfl rfl ?_
    refine R_push rfl ?_
    refine R_iload rfl rfl ?_
    refine R_mul rfl (by omega) (by omega) ?_
    refine R_add rfl (by omega) (by omega) ?_
    refine T_iast rfl rfl (by omega) (by omega) ?_
    generalize hs1 : up2 σ 48 (σ 44 2) (k + 256 * w) = s1
    have e2 : s1 44 2 = σ 44 2 := by rw [← hs1]; simp [up2]
    refine R_aload rfl rfl rfl ?_
    refine R_dup rfl rfl ?_
    refine T_geti rfl rfl rfl ?_
    rw [e2]
    refine R_push rfl ?_
    refine R_add rfl (by omega) (by omega) ?_
    refine T_puti rfl rfl rfl ?_
    refine R_vret rfl ?_
    rw [← hs1]
    exact hE _ rfl
set_option maxRecDepth 20000 in
set_option maxHeartbeats 2000000 in
theorem sp_X8_endLine_44 (d : Nat) (hd : 1 ≤ d) (xs : List (Nat × Nat)) (t dd rr : Nat) (σ : Sg) (k n : Int) (hl : 0 ≤ σ 44 0 ∧ σ 44 0 < 24) (hn : 0 ≤ σ 44 1 ∧ σ 44 1 ≤ 8) : ∃ σ', Ev d 235 [(60, 0), (0, k), (0, n)] (Wd xs t dd rr σ) (8, 0) (Wd xs t dd rr σ') ∧ Fr [45, 46, 47] [(44, 0), (44, 1)] σ σ' ∧ σ' 44 0 = σ 44 0 + 1 ∧ σ' 44 1 = (if k = 128 then σ 44 1 + 1 else σ 44 1) ∧ (∀ i, σ' 45 i = if i = σ 44 0 then k else σ 45 i) ∧ (∀ i, σ' 46 i = if i = σ 44 0 then (if k = 128 then σ 44 1 else n) else σ 46 i) ∧ ∀ i, σ' 47 i = if i = σ 44 0 + 1 then σ 44 2 else σ 47 i := by
  obtain ⟨d, rfl⟩ : ∃ e, d = e + 1 := ⟨d - 1, by omega⟩
  refine evS (nL := 3) (code := k_X8_endLine) rfl dc_X8_endLine rfl (fun E hE => ?_)
  show pCm (Ev d) k_X8_endLine E 0 [(60, 0), (0, k), (0, n)] [] _
  refine R_aload rfl rfl rfl ?_
  refine T_geti rfl rfl rfl ?_
  refine R_push rfl ?_
  refine R_ic rfl (fun h6 => ?_) (fun h6 => ?_)
  · try simp only [ne_eq, b2i_e, b2i_1, Classical.not_not] at h6
    refine R_aload rfl rfl rfl ?_
    refine T_getr (v := 61) rfl rfl rfl rfl ?_
    refine R_aload rfl rfl rfl ?_
    refine T_geti rfl rfl rfl ?_
    refine R_iload rfl rfl ?_
    refine T_iast rfl rfl (by omega) (by omega) ?_
    generalize hs1 : up2 σ 45 (σ 44 0) k = s1
    have e01 : s1 44 0 = σ 44 0 := by rw [← hs1]; simp [up2]
    refine R_aload rfl rfl rfl ?_
    refine T_getr (v := 62) rfl rfl rfl rfl ?_
    refine R_aload rfl rfl rfl ?_
    refine T_geti rfl rfl rfl ?_
    rw [e01]
    refine R_iload rfl rfl ?_
    refine T_iast rfl rfl (by omega) (by omega) ?_
    generalize hs2 : up2 s1 46 (σ 44 0) n = s2
    have e02 : s2 44 0 = σ 44 0 := by rw [← hs2]; simp [up2]; exact e01
    have e22 : s2 44 2 = σ 44 2 := by rw [← hs2, ← hs1]; simp [up2]
    have e12 : s2 44 1 = σ 44 1 := by rw [← hs2, ← hs1]; simp [up2]
    refine R_aload rfl rfl rfl ?_
    refine R_dup rfl rfl ?_
    refine T_geti rfl rfl rfl ?_
    rw [e02]
    refine R_push rfl ?_
    refine R_add rfl (by omega) (by omega) ?_
    refine T_puti rfl rfl rfl ?_
    generalize hs3 : up2 s2 44 0 (σ 44 0 + 1) = s3
    have e03 : s3 44 0 = σ 44 0 + 1 := by rw [← hs3]; simp [up2]
    have e23 : s3 44 2 = σ 44 2 := by rw [← hs3]; simp [up2]; exact e22
    have e13 : s3 44 1 = σ 44 1 := by rw [← hs3]; simp [up2]; exact e12
    refine R_aload rfl rfl rfl ?_
    refine T_getr (v := 63) rfl rfl rfl rfl ?_
    refine R_aload rfl rfl rfl ?_
    refine T_geti rfl rfl rfl ?_
    rw [e03]
    refine R_aload rfl rfl rfl ?_
    refine T_geti rfl rfl rfl ?_
    rw [e23]
    refine T_iast rfl rfl (by omega) (by omega) ?_
    generalize hs4 : up2 s3 47 (σ 44 0 + 1) (σ 44 2) = s4
    have e04 : s4 44 0 = σ 44 0 + 1 := by rw [← hs4]; simp [up2]; exact e03
    have e14 : s4 44 1 = σ 44 1 := by rw [← hs4]; simp [up2]; exact e13
    refine R_iload rfl rfl ?_
    refine R_push rfl ?_
    refine R_ic rfl (fun h57 => ?_) (fun h57 => ?_)
    · try simp only [ne_eq, b2i_e, b2i_1, Classical.not_not] at h57
      refine R_vret rfl ?_
      first
      | exact hE _ _ rfl ⟨by rw [← hs5, ← hs4, ← hs3, ← hs2, ← hs1]; exact (((((Fr.rf.upr rfl).upr rfl).up rfl).upr rfl).upr rfl).up rfl, by rw [← hs5]; simp [up2]; exact e04, by rw [if_pos (by omega)]; simp [up2], fun i => by rw [← hs5, ← hs4, ← hs3, ← hs2, ← hs1]; simp [up2], fun i => by rw [if_pos (c := k = 128) (by omega), ← hs5, ← hs4, ← hs3, ← hs2, ← hs1]; by_cases z : i = σ 44 0 <;> simp [up2, z], fun i => by rw [← hs5, ← hs4, ← hs3, ← hs2, ← hs1]; simp [up2]⟩
      | exact hE _ _ rfl ⟨by rw [← hs4, ← hs3, ← hs2, ← hs1]; exact (((Fr.rf.upr rfl).upr rfl).up rfl).upr rfl, e04, by rw [if_neg (by omega)]; exact e14, fun i => by rw [← hs4, ← hs3, ← hs2, ← hs1]; simp [up2], fun i => by rw [if_neg (c := k = 128) (by omega), ← hs4, ← hs3, ← hs2, ← hs1]; simp [up2], fun i => by rw [← hs4, ← hs3, ← hs2, ← hs1]; simp [up2]⟩
    · try simp only [ne_eq, b2i_e, b2i_1, Classical.not_not] at h57
      refine R_aload rfl rfl rfl ?_
      refine T_getr (v := 62) rfl rfl rfl rfl ?_
      refine R_aload rfl rfl rfl ?_
      refine T_geti rfl rfl rfl ?_
      rw [e04]
      refine R_push rfl ?_
      refine R_sub rfl (by omega) (by omega) ?_
      rw [show σ 44 0 + 1 - 1 = σ 44 0 by omega]
      refine R_aload rfl rfl rfl ?_
      refine T_geti rfl rfl rfl ?_
      rw [e14]
      refine T_iast rfl rfl (by omega) (by omega) ?_
      generalize hs5 : up2 s4 46 (σ 44 0) (σ 44 1) = s5
      have e15 : s5 44 1 = σ 44 1 := by rw [← hs5]; simp [up2]; exact e14
      refine R_aload rfl rfl rfl ?_
      refine R_dup rfl rfl ?_
      refine T_geti rfl rfl rfl ?_
      rw [e15]
      refine R_push rfl ?_
      refine R_add rfl (by omega) (by omega) ?_
      refine T_puti rfl rfl rfl ?_
      refine R_vret rfl ?_
      first
      | exact hE _ _ rfl ⟨by rw [← hs5, ← hs4, ← hs3, ← hs2, ← hs1]; exact (((((Fr.rf.upr rfl).upr rfl).up rfl).upr rfl).upr rfl).up rfl, by rw [← hs5]; simp [up2]; exact e04, by rw [if_pos (by omega)]; simp [up2], fun i => by rw [← hs5, ← hs4, ← hs3, ← hs2, ← hs1]; simp [up2], fun i => by rw [if_pos (c := k = 128) (by omega), ← hs5, ← hs4, ← hs3, ← hs2, ← hs1]; by_cases z : i = σ 44 0 <;> simp [up2, z], fun i => by rw [← hs5, ← hs4, ← hs3, ← hs2, ← hs1]; simp [up2]⟩
      | exact hE _ _ rfl ⟨by rw [← hs4, ← hs3, ← hs2, ← hs1]; exact (((Fr.rf.upr rfl).upr rfl).up rfl).upr rfl, e04, by rw [if_neg (by omega)]; exact e14, fun i => by rw [← hs4, ← hs3, ← hs2, ← hs1]; simp [up2], fun i => by rw [if_neg (c := k = 128) (by omega), ← hs4, ← hs3, ← hs2, ← hs1]; simp [up2], fun i => by rw [← hs4, ← hs3, ← hs2, ← hs1]; simp [up2]⟩
  · try simp only [ne_eq, b2i_e, b2i_1, Classical.not_not] at h6
    refine R_vret rfl ?_
    exfalso; omega
set_option maxRecDepth 20000 in
set_option maxHeartbeats 2000000 in
theorem sp_X7_refuse (d : Nat) (hd : 1 ≤ d) (xs : List (Nat × Nat)) (t dd rr : Nat) (σ : Sg) (c : Int) (hc : 0 ≤ c ∧ c ≤ 15) (hp : 0 ≤ σ 52 5 ∧ σ 52 5 ≤ 1000) : Ev d 218 [(68, 0), (0, c)] (Wd xs t dd rr σ) (0, 0) (Wd xs t dd rr (up2 σ 52 3 (c + 16 * σ 52 5))) := by
  obtain ⟨d, rfl⟩ : ∃ e, d = e + 1 := ⟨d - 1, by omega⟩
  refine evP (nL := 2) (code := k_X7_refuse) rfl pb0 rfl (fun E hE => ?_)
  show pCm (Ev d) k_X7_refuse E 0 [(68, 0), (0, c)] [] _
  refine R_aload rfl rfl rfl ?_
  refine R_iload rfl rfl ?_
  refine R_push rfl ?_
  refine R_aload rfl rfl rfl ?_
  refine T_geti rfl rfl rfl ?_
  refine R_mul rfl (by omega) (by omega) ?_
  refine R_add rfl (by omega) (by omega) ?_
  refine T_puti rfl rfl rfl ?_
  refine R_push rfl ?_
  refine R_zret rfl (by first | exact Or.inl rfl | exact Or.inr rfl | omega | grind) ?_
  exact hE _ rfl
set_option maxRecDepth 20000 in
set_option maxHeartbeats 2000000 in
theorem sp_X7_levelOf (d : Nat) (hd : 1 ≤ d) (w : pW) (k : Int) : Ev d 225 [(0, k)] w (0, lvo k) w := by
  obtain ⟨d, rfl⟩ : ∃ e, d = e + 1 := ⟨d - 1, by omega⟩
  refine evP (nL := 1) (code := k_X7_levelOf) rfl ⟨Nat.le_refl _, Nat.le_refl _⟩ rfl (fun E hE => ?_)
  show pCm (Ev d) k_X7_levelOf E 0 [(0, k)] [] _
  refine R_iload rfl rfl ?_
  refine R_lswL rfl ⟨fun h1 => ?_, fun h1 => ?_, fun h1 => ?_, fun h1 => ?_, fun h1 => ?_, fun h1 => ?_, fun h1 => ?_, trivial⟩ (fun h1 => ?_)
  · try dsimp only at h1
    refine R_push rfl ?_
    refine R_iret rfl ?_
    first
    | (subst h1; exact hE _ rfl)
    | exact hE _ (by
        obtain ⟨z1, z2, z3, z4, z5, z6, z7, -⟩ := h1
        unfold lvo
        dsimp only at z1 z2 z3 z4 z5 z6 z7
        rw [if_neg (by omega), if_neg (by omega), if_neg (by omega), if_neg (by omega)])
  · try dsimp only at h1
    refine R_push rfl ?_
    refine R_iret rfl ?_
    first
    | (subst h1; exact hE _ rfl)
    | exact hE _ (by
        obtain ⟨z1, z2, z3, z4, z5, z6, z7, -⟩ := h1
        unfold lvo
        dsimp only at z1 z2 z3 z4 z5 z6 z7
        rw [if_neg (by omega), if_neg (by omega), if_neg (by omega), if_neg (by omega)])
  · try dsimp only at h1
    refine R_push rfl ?_
    refine R_iret rfl ?_
    first
    | (subst h1; exact hE _ rfl)
    | exact hE _ (by
        obtain ⟨z1, z2, z3, z4, z5, z6, z7, -⟩ := h1
        unfold lvo
        dsimp only at z1 z2 z3 z4 z5 z6 z7
        rw [if_neg (by omega), if_neg (by omega), if_neg (by omega), if_neg (by omega)])
  · try dsimp only at h1
    refine R_push rfl ?_
    refine R_iret rfl ?_
    first
    | (subst h1; exact hE _ rfl)
    | exact hE _ (by
        obtain ⟨z1, z2, z3, z4, z5, z6, z7, -⟩ := h1
        unfold lvo
        dsimp only at z1 z2 z3 z4 z5 z6 z7
        rw [if_neg (by omega), if_neg (by omega), if_neg (by omega), if_neg (by omega)])
  · try dsimp only at h1
    refine R_push rfl ?_
    refine R_iret rfl ?_
    first
    | (subst h1; exact hE _ rfl)
    | exact hE _ (by
        obtain ⟨z1, z2, z3, z4, z5, z6, z7, -⟩ := h1
        unfold lvo
        dsimp only at z1 z2 z3 z4 z5 z6 z7
        rw [if_neg (by omega), if_neg (by omega), if_neg (by omega), if_neg (by omega)])
  · try dsimp only at h1
    refine R_push rfl ?_
    refine R_iret rfl ?_
    first
    | (subst h1; exact hE _ rfl)
    | exact hE _ (by
        obtain ⟨z1, z2, z3, z4, z5, z6, z7, -⟩ := h1
        unfold lvo
        dsimp only at z1 z2 z3 z4 z5 z6 z7
        rw [if_neg (by omega), if_neg (by omega), if_neg (by omega), if_neg (by omega)])
  · try dsimp only at h1
    refine R_push rfl ?_
    refine R_iret rfl ?_
    first
    | (subst h1; exact hE _ rfl)
    | exact hE _ (by
        obtain ⟨z1, z2, z3, z4, z5, z6, z7, -⟩ := h1
        unfold lvo
        dsimp only at z1 z2 z3 z4 z5 z6 z7
        rw [if_neg (by omega), if_neg (by omega), if_neg (by omega), if_neg (by omega)])
  · try dsimp only at h1
    refine R_push rfl ?_
    refine R_iret rfl ?_
    first
    | (subst h1; exact hE _ rfl)
    | exact hE _ (by
        obtain ⟨z1, z2, z3, z4, z5, z6, z7, -⟩ := h1
        unfold lvo
        dsimp only at z1 z2 z3 z4 z5 z6 z7
        rw [if_neg (by omega), if_neg (by omega), if_neg (by omega), if_neg (by omega)])
theorem bq {a b : Nat} (h : a ≠ b) : Nat.beq a b = false := by
  cases q : Nat.beq a b with
  | true => exact absurd (Nat.eq_of_beq_eq_true q) h
  | false => rfl
theorem rf0_sw {a b r : Nat} : up2 (up2 (rf0 a b r) 36 3 b) 36 4 a = rf0 b a r := by
  funext k f
  by_cases hk : k = 36
  · subst hk
    by_cases h3 : f = 3
    · subst h3; rfl
    · by_cases h4 : f = 4
      · subst h4; rfl
      · have e3 : Nat.beq f 3 = false := bq h3
        have e4 : Nat.beq f 4 = false := bq h4
        simp only [up2, h3, h4, and_false, if_false]
        show rf0 a b r 36 f = rf0 b a r 36 f
        simp only [rf0, e3, e4]
        rfl
  · have e : Nat.beq k 36 = false := bq hk
    simp only [up2, hk, false_and, if_false]
    simp only [rf0, e, cond_false]
set_option maxRecDepth 20000 in
set_option maxHeartbeats 2000000 in
theorem sp_X5_takeDraft_53 (d : Nat) (hd : 1 ≤ d) (xs : List (Nat × Nat)) (t dd rr : Nat) (σ : Sg)  : Ev d 200 [(52, 0)] (Wd xs 53 60 rr σ) (8, 0) (Wd xs 60 53 rr σ) := by
  obtain ⟨d, rfl⟩ : ∃ e, d = e + 1 := ⟨d - 1, by omega⟩
  refine evP (nL := 2) (code := k_X5_takeDraft) rfl pb0 rfl (fun E hE => ?_)
  show pCm (Ev d) k_X5_takeDraft E 0 [(52, 0), (9, 0)] [] _
  refine R_aload rfl rfl rfl ?_
  refine T_getr (v := 53) rfl rfl rfl rfl ?_
  refine R_astore rfl rfl rfl ?_
  refine R_aload rfl rfl rfl ?_
  refine R_aload rfl rfl rfl ?_
  refine T_getr (v := 60) rfl rfl rfl rfl ?_
  refine T_putr rfl rfl rfl ?_
  refine R_aload rfl rfl rfl ?_
  refine R_aload rfl rfl rfl ?_
  refine T_putr rfl rfl rfl ?_
  refine R_vret rfl ?_
  have e : ((sh0 ++ xs, up2 (up2 (rf0 53 60 rr) 36 3 60) 36 4 53, σ) : pW) = Wd xs 60 53 rr σ := by rw [rf0_sw]
  rw [e]
  exact hE _ rfl
set_option maxRecDepth 20000 in
set_option maxHeartbeats 2000000 in
theorem sp_X5_takeDraft_60 (d : Nat) (hd : 1 ≤ d) (xs : List (Nat × Nat)) (t dd rr : Nat) (σ : Sg)  : Ev d 200 [(52, 0)] (Wd xs 60 53 rr σ) (8, 0) (Wd xs 53 60 rr σ) := by
  obtain ⟨d, rfl⟩ : ∃ e, d = e + 1 := ⟨d - 1, by omega⟩
  refine evP (nL := 2) (code := k_X5_takeDraft) rfl pb0 rfl (fun E hE => ?_)
  show pCm (Ev d) k_X5_takeDraft E 0 [(52, 0), (9, 0)] [] _
  refine R_aload rfl rfl rfl ?_
  refine T_getr (v := 60) rfl rfl rfl rfl ?_
  refine R_astore rfl rfl rfl ?_
  refine R_aload rfl rfl rfl ?_
  refine R_aload rfl rfl rfl ?_
  refine T_getr (v := 53) rfl rfl rfl rfl ?_
  refine T_putr rfl rfl rfl ?_
  refine R_aload rfl rfl rfl ?_
  refine R_aload rfl rfl rfl ?_
  refine T_putr rfl rfl rfl ?_
  refine R_vret rfl ?_
  have e : ((sh0 ++ xs, up2 (up2 (rf0 60 53 rr) 36 3 53) 36 4 60, σ) : pW) = Wd xs 53 60 rr σ := by rw [rf0_sw]
  rw [e]
  exact hE _ rfl

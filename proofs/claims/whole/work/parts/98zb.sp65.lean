/-- which of the first n of a row's words this is, or -1 -/
def fnd (r : Int → Int) (v n : Int) : Int := frst (fun k => b2i (r k = v)) (fun k => k) n
theorem fnd_bd {r : Int → Int} {v n : Int} (hn : 0 ≤ n) : (fnd r v n = -1 ∧ ∀ k, 0 ≤ k → k < n → r k ≠ v) ∨ (0 ≤ fnd r v n ∧ fnd r v n < n ∧ r (fnd r v n) = v ∧ ∀ k, 0 ≤ k → k < fnd r v n → r k ≠ v) := by
  by_cases q : ∃ k, 0 ≤ k ∧ k < n ∧ r k = v
  · obtain ⟨k, k0, k1, k2⟩ := q
    have := frst_k (g := fun k => b2i (r k = v)) n.toNat ⟨k, k0, by omega, b2i_t k2⟩
    rw [Int.toNat_of_nonneg hn] at this
    refine Or.inr ⟨this.1, this.2.1, ?_, fun k k0 k1 => ?_⟩
    · have h := this.2.2.1
      unfold b2i at h
      split at h
      · assumption
      · omega
    · have h := this.2.2.2 k k0 k1
      intro w
      exact h (b2i_t w)
  · refine Or.inl ⟨?_, fun k k0 k1 w => q ⟨k, k0, k1, w⟩⟩
    have key : ∀ m : Nat, (m : Int) ≤ n → frst (fun k => b2i (r k = v)) (fun k => k) m = -1 := by
      intro m
      induction m with
      | zero => intro _; rfl
      | succ m ih =>
        intro hm
        have e : frst (fun k => b2i (r k = v)) (fun k => k) ((m + 1 : Nat) : Int) = _ := frst_s (n := m) (by omega)
        rw [e, if_pos (ih (by omega)), b2i_f (fun w => q ⟨m, by omega, by omega, w⟩), if_neg (by omega)]
    have := key n.toNat (by omega)
    rwa [Int.toNat_of_nonneg hn] at this
def wtk (key wd nm : Int) : Int := if key ≠ -1 then 128 + key else if wd ≠ -1 then 4 else 3
def wtw (key wd nm : Int) : Int := if key ≠ -1 then 0 else if wd ≠ -1 then wd else nm
set_option maxRecDepth 20000 in
set_option maxHeartbeats 2000000 in
theorem sp_X7_takeWord_37 (d : Nat) (hd : 2 ≤ d) (xs : List (Nat × Nat)) (t dd rr : Nat) (σ : Sg) (p e M : Int) (hr : rr = 53) (hM : σ 37 1 = M) (hM0 : 0 ≤ M ∧ M ≤ 8) (hp : σ 52 5 = p) (he : σ 52 6 = e) (hpe : 0 ≤ p ∧ p ≤ e ∧ e ≤ 1000) (h7z : σ 52 7 = 0) (hD : ∀ i, 0 ≤ i → i < e - p → 97 ≤ σ 53 (p + i) ∧ σ 53 (p + i) ≤ 122) : ∃ σ', Ev d 230 [(68, 0)] (Wd xs t dd rr σ) (8, 0) (Wd xs t dd rr σ') ∧ Fr [] [(52, 4), (52, 7), (52, 8)] σ σ' ∧ σ' 52 4 = (if 8 < e - p then 1 else wtk (fnd (σ 54) (wvl 32 (fun i => σ 53 (p + i) - 96) (e - p)) 8) (fnd (σ 55) (wvl 32 (fun i => σ 53 (p + i) - 96) (e - p)) 12) (fnd (σ 56) (wvl 32 (fun i => σ 53 (p + i) - 96) (e - p)) M)) ∧ σ' 52 7 = (if 8 < e - p then 0 else wtw (fnd (σ 54) (wvl 32 (fun i => σ 53 (p + i) - 96) (e - p)) 8) (fnd (σ 55) (wvl 32 (fun i => σ 53 (p + i) - 96) (e - p)) 12) (fnd (σ 56) (wvl 32 (fun i => σ 53 (p + i) - 96) (e - p)) M)) ∧ (¬ 8 < e - p → σ' 52 8 = wvl 32 (fun i => σ 53 (p + i) - 96) (e - p)) := by
  obtain ⟨d, rfl⟩ : ∃ e, d = e + 1 := ⟨d - 1, by omega⟩
  subst hr
  refine evS (nL := 3) (code := k_X7_takeWord) rfl dc_X7_takeWord rfl (fun E hE => ?_)
  show pCm (Ev d) k_X7_takeWord E 0 [(68, 0), (9, 0), (9, 0)] [] _
  refine R_aload rfl rfl rfl ?_
  refine T_geti rfl rfl rfl ?_
  refine R_aload rfl rfl rfl ?_
  refine T_geti rfl rfl rfl ?_
  refine R_sub rfl (by omega) (by omega) ?_
  refine R_push rfl ?_
  refine R_ic rfl (fun h11 => ?_) (fun h11 => ?_)
  · try simp only [ne_eq, b2i_e, b2i_1, Classical.not_not] at h11
    refine R_aload rfl rfl rfl ?_
    refine R_push rfl ?_
    refine T_putl rfl rfl rfl ?_
    generalize hs0 : up2 σ 52 8 0 = s0
    have e05 : s0 52 5 = p := by rw [← hs0]; simp [up2]; exact hp
    refine R_aload rfl rfl rfl ?_
    refine T_geti rfl rfl rfl ?_
    rw [e05]
    refine R_istore rfl rfl ?_
    suffices hh : pCm (Ev d) k_X7_takeWord E 30 [(68, 0), (0, p + 0), (9, 0)] [] (Wd xs t dd 53 s0) by rwa [Int.add_zero] at hh
    refine loop (pc := 30) (α := Int × Sg) (fun x => (e - p - x.1).toNat) (fun x => ([(68, 0), (0, p + x.1), (9, 0)], Wd xs t dd 53 x.2)) (fun x => (0 ≤ x.1 ∧ x.1 ≤ e - p) ∧ Fr [] [(52, 8)] σ x.2 ∧ x.2 52 8 = wvl 32 (fun i => σ 53 (p + i) - 96) x.1) ?_ (0, s0) ?_
    · intro ⟨k, s1⟩ ⟨⟨hk0, hk1⟩, hF, h8⟩ ih
      dsimp only at hk0 hk1 hF h8 ⊢
      have e6 := hF.at 52 6 rfl
      have hds := wvl_s (b := 32) (f := (fun i => σ 53 (p + i) - 96)) hk0
      have hdb := wvl_bd (b := 32) (f := (fun i => σ 53 (p + i) - 96)) (Or.inl rfl) hk0 (by omega) (fun i i0 i1 => by have := hD i i0 (by omega); omega)
      have hDk : k < e - p → _ := fun w => hD k hk0 w
      refine R_iload rfl rfl ?_
      refine R_aload rfl rfl rfl ?_
      refine T_geti rfl rfl rfl ?_
      rw [e6, he]
      refine R_ic rfl (fun h35 => ?_) (fun h35 => ?_)
      · try simp only [ne_eq, b2i_e, b2i_1, Classical.not_not] at h35
        have h8e : s1 52 8 = wvl 32 (fun i => σ 53 (p + i) - 96) (e - p) := by rw [h8, show k = e - p by omega]
        have hk1 := fnd_bd (r := σ 54) (v := wvl 32 (fun i => σ 53 (p + i) - 96) (e - p)) (n := 8) (by omega)
        have hk2 := fnd_bd (r := σ 55) (v := wvl 32 (fun i => σ 53 (p + i) - 96) (e - p)) (n := 12) (by omega)
        have hk3 := fnd_bd (r := σ 56) (v := wvl 32 (fun i => σ 53 (p + i) - 96) (e - p)) (n := M) (by omega)
        have hFz : Fr [] [(52, 4), (52, 7), (52, 8)] σ s1 := hF.tr (r2 := []) (s2 := []) Fr.rf rfl rfl
        have h71 : s1 52 7 = 0 := by rw [hF.at 52 7 rfl, h7z]
        refine R_aload rfl rfl rfl ?_
        refine R_aload rfl rfl rfl ?_
        refine T_getr (v := 70) rfl rfl rfl rfl ?_
        refine R_push rfl ?_
        have hfi := sp_X7_find_54 d (by omega) xs t dd 53 s1 8 ⟨by omega, by omega⟩
        rw [hF.fn 54 rfl, h8e] at hfi
        have hfi : Ev d 231 [(68, 0), (70, 0), (0, 8)] (Wd xs t dd 53 s1) (0, fnd (σ 54) (wvl 32 (fun i => σ 53 (p + i) - 96) (e - p)) (8)) (Wd xs t dd 53 s1) := hfi
        refine R_invv rfl rfl rfl rfl rfl rfl (hfi) rfl ?_
        show pCm _ _ _ 71 _ [(0, _)] _
        refine R_istore rfl rfl ?_
        refine R_aload rfl rfl rfl ?_
        refine R_aload rfl rfl rfl ?_
        refine T_getr (v := 71) rfl rfl rfl rfl ?_
        refine R_push rfl ?_
        have hfi := sp_X7_find_55 d (by omega) xs t dd 53 s1 12 ⟨by omega, by omega⟩
        rw [hF.fn 55 rfl, h8e] at hfi
        have hfi : Ev d 231 [(68, 0), (71, 0), (0, 12)] (Wd xs t dd 53 s1) (0, fnd (σ 55) (wvl 32 (fun i => σ 53 (p + i) - 96) (e - p)) (12)) (Wd xs t dd 53 s1) := hfi
        refine R_invv rfl rfl rfl rfl rfl rfl (hfi) rfl ?_
        show pCm _ _ _ 82 _ [(0, _)] _
        refine R_istore rfl rfl ?_
        refine R_iload rfl rfl ?_
        refine R_push rfl ?_
        refine R_ic rfl (fun h85 => ?_) (fun h85 => ?_)
        · try simp only [ne_eq, b2i_e, b2i_1, Classical.not_not] at h85
          refine R_iload rfl rfl ?_
          refine R_push rfl ?_
          refine R_ic rfl (fun h102 => ?_) (fun h102 => ?_)
          · try simp only [ne_eq, b2i_e, b2i_1, Classical.not_not] at h102
            refine R_aload rfl rfl rfl ?_
            refine R_push rfl ?_
            refine T_puti rfl rfl rfl ?_
            generalize hs2 : up2 s1 52 4 3 = s2
            have hF2 : Fr [] [(52, 4), (52, 7), (52, 8)] σ s2 := by rw [← hs2]; exact (hF.tr (r2 := []) (s2 := []) Fr.rf rfl rfl).up rfl
            have h82 : s2 52 8 = wvl 32 (fun i => σ 53 (p + i) - 96) (e - p) := by rw [← hs2]; simp [up2]; exact h8e
            refine R_aload rfl rfl rfl ?_
            refine R_aload rfl rfl rfl ?_
            refine R_aload rfl rfl rfl ?_
            refine T_getr (v := 72) rfl rfl rfl rfl ?_
            refine R_aload rfl rfl rfl ?_
            refine T_getr (v := 53) rfl rfl rfl rfl ?_
            refine T_geti rfl rfl rfl ?_
            rw [hF2.row 37 rfl, hM]
            have hfi := sp_X7_find_56 d (by omega) xs t dd 53 s2 M hM0
            rw [hF2.fn 56 rfl, h82] at hfi
            have hfi : Ev d 231 [(68, 0), (72, 0), (0, M)] (Wd xs t dd 53 s2) (0, fnd (σ 56) (wvl 32 (fun i => σ 53 (p + i) - 96) (e - p)) M) (Wd xs t dd 53 s2) := hfi
            refine R_invv rfl rfl rfl rfl rfl rfl (hfi) rfl ?_
            show pCm _ _ _ 139 _ [(0, _), (68, 0)] _
            refine T_puti rfl rfl rfl ?_
            refine R_vret rfl ?_
            first
            | exact hE _ _ rfl ⟨hFz.up rfl, by rw [if_neg (by omega)]; unfold wtk; rw [if_pos (by omega)]; simp [up2], by rw [if_neg (by omega)]; unfold wtw; rw [if_pos (by omega)]; simp [up2]; exact h71, fun _ => by simp [up2]; exact h8e⟩
            | exact hE _ _ rfl ⟨(hFz.up rfl).up rfl, by rw [if_neg (by omega)]; unfold wtk; rw [if_neg (by omega), if_pos (by omega)]; simp [up2], by rw [if_neg (by omega)]; unfold wtw; rw [if_neg (by omega), if_pos (by omega)]; simp [up2], fun _ => by simp [up2]; exact h8e⟩
            | exact hE _ _ rfl ⟨hF2.up rfl, by rw [if_neg (by omega)]; unfold wtk; rw [if_neg (by omega), if_neg (by omega), ← hs2]; simp [up2], by rw [if_neg (by omega)]; unfold wtw; rw [if_neg (by omega), if_neg (by omega)]; simp [up2], fun _ => by simp [up2]; exact h82⟩
          · try simp only [ne_eq, b2i_e, b2i_1, Classical.not_not] at h102
            refine R_aload rfl rfl rfl ?_
            refine R_push rfl ?_
            refine T_puti rfl rfl rfl ?_
            refine R_aload rfl rfl rfl ?_
            refine R_iload rfl rfl ?_
            refine T_puti rfl rfl rfl ?_
            refine R_goto rfl ?_
            refine R_vret rfl ?_
            first
            | exact hE _ _ rfl ⟨hFz.up rfl, by rw [if_neg (by omega)]; unfold wtk; rw [if_pos (by omega)]; simp [up2], by rw [if_neg (by omega)]; unfold wtw; rw [if_pos (by omega)]; simp [up2]; exact h71, fun _ => by simp [up2]; exact h8e⟩
            | exact hE _ _ rfl ⟨(hFz.up rfl).up rfl, by rw [if_neg (by omega)]; unfold wtk; rw [if_neg (by omega), if_pos (by omega)]; simp [up2], by rw [if_neg (by omega)]; unfold wtw; rw [if_neg (by omega), if_pos (by omega)]; simp [up2], fun _ => by simp [up2]; exact h8e⟩
            | exact hE _ _ rfl ⟨hF2.up rfl, by rw [if_neg (by omega)]; unfold wtk; rw [if_neg (by omega), if_neg (by omega), ← hs2]; simp [up2], by rw [if_neg (by omega)]; unfold wtw; rw [if_neg (by omega), if_neg (by omega)]; simp [up2], fun _ => by simp [up2]; exact h82⟩
        · try simp only [ne_eq, b2i_e, b2i_1, Classical.not_not] at h85
          refine R_aload rfl rfl rfl ?_
          refine R_push rfl ?_
          refine R_iload rfl rfl ?_
          refine R_add rfl (by omega) (by omega) ?_
          refine T_puti rfl rfl rfl ?_
          refine R_goto rfl ?_
          refine R_vret rfl ?_
          first
          | exact hE _ _ rfl ⟨hFz.up rfl, by rw [if_neg (by omega)]; unfold wtk; rw [if_pos (by omega)]; simp [up2], by rw [if_neg (by omega)]; unfold wtw; rw [if_pos (by omega)]; simp [up2]; exact h71, fun _ => by simp [up2]; exact h8e⟩
          | exact hE _ _ rfl ⟨(hFz.up rfl).up rfl, by rw [if_neg (by omega)]; unfold wtk; rw [if_neg (by omega), if_pos (by omega)]; simp [up2], by rw [if_neg (by omega)]; unfold wtw; rw [if_neg (by omega), if_pos (by omega)]; simp [up2], fun _ => by simp [up2]; exact h8e⟩
          | exact hE _ _ rfl ⟨hF2.up rfl, by rw [if_neg (by omega)]; unfold wtk; rw [if_neg (by omega), if_neg (by omega), ← hs2]; simp [up2], by rw [if_neg (by omega)]; unfold wtw; rw [if_neg (by omega), if_neg (by omega)]; simp [up2], fun _ => by simp [up2]; exact h82⟩
      · try simp only [ne_eq, b2i_e, b2i_1, Classical.not_not] at h35
        have hDk := hDk (by omega)
        refine R_aload rfl rfl rfl ?_
        refine R_aload rfl rfl rfl ?_
        refine T_getl rfl rfl rfl ?_
        rw [h8]
        refine R_aload rfl rfl rfl ?_
        refine T_getr (v := 69) rfl rfl rfl rfl ?_
        refine R_iload rfl rfl ?_
        refine T_ald rfl rfl (by omega) (by omega) ?_
        rw [hF.row 53 rfl]
        refine R_inv rfl rfl rfl rfl rfl (sp_X7_withLetter d (by omega) _ _ _ ⟨by omega, by omega⟩ ⟨by omega, by omega⟩) rfl ?_
        show pCm _ _ _ 52 _ [(1, _), (68, 0)] _
        refine T_putl rfl rfl rfl ?_
        refine R_inc rfl rfl (by omega) (by omega) ?_
        refine R_goto rfl ?_
        generalize hs2 : up2 s1 52 8 _ = s2
        rw [Int.add_assoc]
        refine ih (k + 1, s2) ⟨by dsimp only; omega, by rw [← hs2]; exact hF.up rfl, ?_⟩ (by dsimp only; omega)
        show s2 52 8 = _
        rw [hds, ← hs2, up_s]
    · exact ⟨by dsimp only; omega, by rw [← hs0]; exact Fr.rf.up rfl, by show s0 52 8 = 0; rw [← hs0]; simp [up2]⟩
  · try simp only [ne_eq, b2i_e, b2i_1, Classical.not_not] at h11
    refine R_aload rfl rfl rfl ?_
    refine R_push rfl ?_
    refine T_puti rfl rfl rfl ?_
    refine R_vret rfl ?_
    exact hE _ _ rfl ⟨Fr.rf.up rfl, by rw [if_pos (by omega)]; simp [up2], by rw [if_pos (by omega)]; simp [up2]; exact h7z, fun w => absurd (by omega) w⟩
set_option maxRecDepth 20000 in
set_option maxHeartbeats 2000000 in
theorem sp_X7_takeWord_44 (d : Nat) (hd : 2 ≤ d) (xs : List (Nat × Nat)) (t dd rr : Nat) (σ : Sg) (p e M : Int) (hr : rr = 60) (hM : σ 44 1 = M) (hM0 : 0 ≤ M ∧ M ≤ 8) (hp : σ 52 5 = p) (he : σ 52 6 = e) (hpe : 0 ≤ p ∧ p ≤ e ∧ e ≤ 1000) (h7z : σ 52 7 = 0) (hD : ∀ i, 0 ≤ i → i < e - p → 97 ≤ σ 53 (p + i) ∧ σ 53 (p + i) ≤ 122) : ∃ σ', Ev d 230 [(68, 0)] (Wd xs t dd rr σ) (8, 0) (Wd xs t dd rr σ') ∧ Fr [] [(52, 4), (52, 7), (52, 8)] σ σ' ∧ σ' 52 4 = (if 8 < e - p then 1 else wtk (fnd (σ 54) (wvl 32 (fun i => σ 53 (p + i) - 96) (e - p)) 8) (fnd (σ 55) (wvl 32 (fun i => σ 53 (p + i) - 96) (e - p)) 12) (fnd (σ 56) (wvl 32 (fun i => σ 53 (p + i) - 96) (e - p)) M)) ∧ σ' 52 7 = (if 8 < e - p then 0 else wtw (fnd (σ 54) (wvl 32 (fun i => σ 53 (p + i) - 96) (e - p)) 8) (fnd (σ 55) (wvl 32 (fun i => σ 53 (p + i) - 96) (e - p)) 12) (fnd (σ 56) (wvl 32 (fun i => σ 53 (p + i) - 96) (e - p)) M)) ∧ (¬ 8 < e - p → σ' 52 8 = wvl 32 (fun i => σ 53 (p + i) - 96) (e - p)) := by
  obtain ⟨d, rfl⟩ : ∃ e, d = e + 1 := ⟨d - 1, by omega⟩
  subst hr
  refine evS (nL := 3) (code := k_X7_takeWord) rfl dc_X7_takeWord rfl (fun E hE => ?_)
  show pCm (Ev d) k_X7_takeWord E 0 [(68, 0), (9, 0), (9, 0)] [] _
  refine R_aload rfl rfl rfl ?_
  refine T_geti rfl rfl rfl ?_
  refine R_aload rfl rfl rfl ?_
  refine T_geti rfl rfl rfl ?_
  refine R_sub rfl (by omega) (by omega) ?_
  refine R_push rfl ?_
  refine R_ic rfl (fun h11 => ?_) (fun h11 => ?_)
  · try simp only [ne_eq, b2i_e, b2i_1, Classical.not_not] at h11
    refine R_aload rfl rfl rfl ?_
    refine R_push rfl ?_
    refine T_putl rfl rfl rfl ?_
    generalize hs0 : up2 σ 52 8 0 = s0
    have e05 : s0 52 5 = p := by rw [← hs0]; simp [up2]; exact hp
    refine R_aload rfl rfl rfl ?_
    refine T_geti rfl rfl rfl ?_
    rw [e05]
    refine R_istore rfl rfl ?_
    suffices hh : pCm (Ev d) k_X7_takeWord E 30 [(68, 0), (0, p + 0), (9, 0)] [] (Wd xs t dd 60 s0) by rwa [Int.add_zero] at hh
    refine loop (pc := 30) (α := Int × Sg) (fun x => (e - p - x.1).toNat) (fun x => ([(68, 0), (0, p + x.1), (9, 0)], Wd xs t dd 60 x.2)) (fun x => (0 ≤ x.1 ∧ x.1 ≤ e - p) ∧ Fr [] [(52, 8)] σ x.2 ∧ x.2 52 8 = wvl 32 (fun i => σ 53 (p + i) - 96) x.1) ?_ (0, s0) ?_
    · intro ⟨k, s1⟩ ⟨⟨hk0, hk1⟩, hF, h8⟩ ih
      dsimp only at hk0 hk1 hF h8 ⊢
      have e6 := hF.at 52 6 rfl
      have hds := wvl_s (b := 32) (f := (fun i => σ 53 (p + i) - 96)) hk0
      have hdb := wvl_bd (b := 32) (f := (fun i => σ 53 (p + i) - 96)) (Or.inl rfl) hk0 (by omega) (fun i i0 i1 => by have := hD i i0 (by omega); omega)
      have hDk : k < e - p → _ := fun w => hD k hk0 w
      refine R_iload rfl rfl ?_
      refine R_aload rfl rfl rfl ?_
      refine T_geti rfl rfl rfl ?_
      rw [e6, he]
      refine R_ic rfl (fun h35 => ?_) (fun h35 => ?_)
      · try simp only [ne_eq, b2i_e, b2i_1, Classical.not_not] at h35
        have h8e : s1 52 8 = wvl 32 (fun i => σ 53 (p + i) - 96) (e - p) := by rw [h8, show k = e - p by omega]
        have hk1 := fnd_bd (r := σ 54) (v := wvl 32 (fun i => σ 53 (p + i) - 96) (e - p)) (n := 8) (by omega)
        have hk2 := fnd_bd (r := σ 55) (v := wvl 32 (fun i => σ 53 (p + i) - 96) (e - p)) (n := 12) (by omega)
        have hk3 := fnd_bd (r := σ 56) (v := wvl 32 (fun i => σ 53 (p + i) - 96) (e - p)) (n := M) (by omega)
        have hFz : Fr [] [(52, 4), (52, 7), (52, 8)] σ s1 := hF.tr (r2 := []) (s2 := []) Fr.rf rfl rfl
        have h71 : s1 52 7 = 0 := by rw [hF.at 52 7 rfl, h7z]
        refine R_aload rfl rfl rfl ?_
        refine R_aload rfl rfl rfl ?_
        refine T_getr (v := 70) rfl rfl rfl rfl ?_
        refine R_push rfl ?_
        have hfi := sp_X7_find_54 d (by omega) xs t dd 60 s1 8 ⟨by omega, by omega⟩
        rw [hF.fn 54 rfl, h8e] at hfi
        have hfi : Ev d 231 [(68, 0), (70, 0), (0, 8)] (Wd xs t dd 60 s1) (0, fnd (σ 54) (wvl 32 (fun i => σ 53 (p + i) - 96) (e - p)) (8)) (Wd xs t dd 60 s1) := hfi
        refine R_invv rfl rfl rfl rfl rfl rfl (hfi) rfl ?_
        show pCm _ _ _ 71 _ [(0, _)] _
        refine R_istore rfl rfl ?_
        refine R_aload rfl rfl rfl ?_
        refine R_aload rfl rfl rfl ?_
        refine T_getr (v := 71) rfl rfl rfl rfl ?_
        refine R_push rfl ?_
        have hfi := sp_X7_find_55 d (by omega) xs t dd 60 s1 12 ⟨by omega, by omega⟩
        rw [hF.fn 55 rfl, h8e] at hfi
        have hfi : Ev d 231 [(68, 0), (71, 0), (0, 12)] (Wd xs t dd 60 s1) (0, fnd (σ 55) (wvl 32 (fun i => σ 53 (p + i) - 96) (e - p)) (12)) (Wd xs t dd 60 s1) := hfi
        refine R_invv rfl rfl rfl rfl rfl rfl (hfi) rfl ?_
        show pCm _ _ _ 82 _ [(0, _)] _
        refine R_istore rfl rfl ?_
        refine R_iload rfl rfl ?_
        refine R_push rfl ?_
        refine R_ic rfl (fun h85 => ?_) (fun h85 => ?_)
        · try simp only [ne_eq, b2i_e, b2i_1, Classical.not_not] at h85
          refine R_iload rfl rfl ?_
          refine R_push rfl ?_
          refine R_ic rfl (fun h102 => ?_) (fun h102 => ?_)
          · try simp only [ne_eq, b2i_e, b2i_1, Classical.not_not] at h102
            refine R_aload rfl rfl rfl ?_
            refine R_push rfl ?_
            refine T_puti rfl rfl rfl ?_
            generalize hs2 : up2 s1 52 4 3 = s2
            have hF2 : Fr [] [(52, 4), (52, 7), (52, 8)] σ s2 := by rw [← hs2]; exact (hF.tr (r2 := []) (s2 := []) Fr.rf rfl rfl).up rfl
            have h82 : s2 52 8 = wvl 32 (fun i => σ 53 (p + i) - 96) (e - p) := by rw [← hs2]; simp [up2]; exact h8e
            refine R_aload rfl rfl rfl ?_
            refine R_aload rfl rfl rfl ?_
            refine R_aload rfl rfl rfl ?_
            refine T_getr (v := 72) rfl rfl rfl rfl ?_
            refine R_aload rfl rfl rfl ?_
            refine T_getr (v := 60) rfl rfl rfl rfl ?_
            refine T_geti rfl rfl rfl ?_
            rw [hF2.row 44 rfl, hM]
            have hfi := sp_X7_find_56 d (by omega) xs t dd 60 s2 M hM0
            rw [hF2.fn 56 rfl, h82] at hfi
            have hfi : Ev d 231 [(68, 0), (72, 0), (0, M)] (Wd xs t dd 60 s2) (0, fnd (σ 56) (wvl 32 (fun i => σ 53 (p + i) - 96) (e - p)) M) (Wd xs t dd 60 s2) := hfi
            refine R_invv rfl rfl rfl rfl rfl rfl (hfi) rfl ?_
            show pCm _ _ _ 139 _ [(0, _), (68, 0)] _
            refine T_puti rfl rfl rfl ?_
            refine R_vret rfl ?_
            first
            | exact hE _ _ rfl ⟨hFz.up rfl, by rw [if_neg (by omega)]; unfold wtk; rw [if_pos (by omega)]; simp [up2], by rw [if_neg (by omega)]; unfold wtw; rw [if_pos (by omega)]; simp [up2]; exact h71, fun _ => by simp [up2]; exact h8e⟩
            | exact hE _ _ rfl ⟨(hFz.up rfl).up rfl, by rw [if_neg (by omega)]; unfold wtk; rw [if_neg (by omega), if_pos (by omega)]; simp [up2], by rw [if_neg (by omega)]; unfold wtw; rw [if_neg (by omega), if_pos (by omega)]; simp [up2], fun _ => by simp [up2]; exact h8e⟩
            | exact hE _ _ rfl ⟨hF2.up rfl, by rw [if_neg (by omega)]; unfold wtk; rw [if_neg (by omega), if_neg (by omega), ← hs2]; simp [up2], by rw [if_neg (by omega)]; unfold wtw; rw [if_neg (by omega), if_neg (by omega)]; simp [up2], fun _ => by simp [up2]; exact h82⟩
          · try simp only [ne_eq, b2i_e, b2i_1, Classical.not_not] at h102
            refine R_aload rfl rfl rfl ?_
            refine R_push rfl ?_
            refine T_puti rfl rfl rfl ?_
            refine R_aload rfl rfl rfl ?_
            refine R_iload rfl rfl ?_
            refine T_puti rfl rfl rfl ?_
            refine R_goto rfl ?_
            refine R_vret rfl ?_
            first
            | exact hE _ _ rfl ⟨hFz.up rfl, by rw [if_neg (by omega)]; unfold wtk; rw [if_pos (by omega)]; simp [up2], by rw [if_neg (by omega)]; unfold wtw; rw [if_pos (by omega)]; simp [up2]; exact h71, fun _ => by simp [up2]; exact h8e⟩
            | exact hE _ _ rfl ⟨(hFz.up rfl).up rfl, by rw [if_neg (by omega)]; unfold wtk; rw [if_neg (by omega), if_pos (by omega)]; simp [up2], by rw [if_neg (by omega)]; unfold wtw; rw [if_neg (by omega), if_pos (by omega)]; simp [up2], fun _ => by simp [up2]; exact h8e⟩
            | exact hE _ _ rfl ⟨hF2.up rfl, by rw [if_neg (by omega)]; unfold wtk; rw [if_neg (by omega), if_neg (by omega), ← hs2]; simp [up2], by rw [if_neg (by omega)]; unfold wtw; rw [if_neg (by omega), if_neg (by omega)]; simp [up2], fun _ => by simp [up2]; exact h82⟩
        · try simp only [ne_eq, b2i_e, b2i_1, Classical.not_not] at h85
          refine R_aload rfl rfl rfl ?_
          refine R_push rfl ?_
          refine R_iload rfl rfl ?_
          refine R_add rfl (by omega) (by omega) ?_
          refine T_puti rfl rfl rfl ?_
          refine R_goto rfl ?_
          refine R_vret rfl ?_
          first
          | exact hE _ _ rfl ⟨hFz.up rfl, by rw [if_neg (by omega)]; unfold wtk; rw [if_pos (by omega)]; simp [up2], by rw [if_neg (by omega)]; unfold wtw; rw [if_pos (by omega)]; simp [up2]; exact h71, fun _ => by simp [up2]; exact h8e⟩
          | exact hE _ _ rfl ⟨(hFz.up rfl).up rfl, by rw [if_neg (by omega)]; unfold wtk; rw [if_neg (by omega), if_pos (by omega)]; simp [up2], by rw [if_neg (by omega)]; unfold wtw; rw [if_neg (by omega), if_pos (by omega)]; simp [up2], fun _ => by simp [up2]; exact h8e⟩
          | exact hE _ _ rfl ⟨hF2.up rfl, by rw [if_neg (by omega)]; unfold wtk; rw [if_neg (by omega), if_neg (by omega), ← hs2]; simp [up2], by rw [if_neg (by omega)]; unfold wtw; rw [if_neg (by omega), if_neg (by omega)]; simp [up2], fun _ => by simp [up2]; exact h82⟩
      · try simp only [ne_eq, b2i_e, b2i_1, Classical.not_not] at h35
        have hDk := hDk (by omega)
        refine R_aload rfl rfl rfl ?_
        refine R_aload rfl rfl rfl ?_
        refine T_getl rfl rfl rfl ?_
        rw [h8]
        refine R_aload rfl rfl rfl ?_
        refine T_getr (v := 69) rfl rfl rfl rfl ?_
        refine R_iload rfl rfl ?_
        refine T_ald rfl rfl (by omega) (by omega) ?_
        rw [hF.row 53 rfl]
        refine R_inv rfl rfl rfl rfl rfl (sp_X7_withLetter d (by omega) _ _ _ ⟨by omega, by omega⟩ ⟨by omega, by omega⟩) rfl ?_
        show pCm _ _ _ 52 _ [(1, _), (68, 0)] _
        refine T_putl rfl rfl rfl ?_
        refine R_inc rfl rfl (by omega) (by omega) ?_
        refine R_goto rfl ?_
        generalize hs2 : up2 s1 52 8 _ = s2
        rw [Int.add_assoc]
        refine ih (k + 1, s2) ⟨by dsimp only; omega, by rw [← hs2]; exact hF.up rfl, ?_⟩ (by dsimp only; omega)
        show s2 52 8 = _
        rw [hds, ← hs2, up_s]
    · exact ⟨by dsimp only; omega, by rw [← hs0]; exact Fr.rf.up rfl, by show s0 52 8 = 0; rw [← hs0]; simp [up2]⟩
  · try simp only [ne_eq, b2i_e, b2i_1, Classical.not_not] at h11
    refine R_aload rfl rfl rfl ?_
    refine R_push rfl ?_
    refine T_puti rfl rfl rfl ?_
    refine R_vret rfl ?_
    exact hE _ _ rfl ⟨Fr.rf.up rfl, by rw [if_pos (by omega)]; simp [up2], by rw [if_pos (by omega)]; simp [up2]; exact h7z, fun w => absurd (by omega) w⟩

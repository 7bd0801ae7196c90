/-- what a tape's tokens are like -/
def CTk (tk tw pl : Int → Int) (m : Int) : Prop := (∀ i, tk i ≤ 255 ∧ 0 ≤ tk i) ∧ (∀ i, -1 ≤ tw i ∧ tw i ≤ 9999) ∧ (0 ≤ m ∧ m ≤ 1000) ∧ tk m = 0 ∧ (∀ i, 0 ≤ pl i) ∧ ∀ i, tk i = 135 → tw i = 0
theorem sp_X7_readPart_37 (d : Nat) (hd : 1 ≤ d) (xs : List (Nat × Nat)) (t dd rr : Nat) (σ s : Sg) (D : Nat) (hD : D + 1 ≤ d) (hr : rr = 53) (Q : PSt → PSt) (dep : Int) (hdep : 0 ≤ dep ∧ dep ≤ 5) (tk tw pl : Int → Int) (m c0 : Int) (S : PSt) (hk : CTk tk tw pl m) (hc0 : 0 ≤ c0) (hA : ADV D rr σ tk tw pl 37 m c0) (hQ : dep ≠ 5 → CMp D rr Q (dep + 1) σ tk tw pl 37 m c0 ∧ CMc D rr (ch0 tk Q) 0 (dep + 1) σ tk tw pl 37 m c0) (hK : PK Q m) (h : CSx s σ tk tw pl 37 m c0 S) (hf : S.2.1 = 0) (hcs : c0 + S.2.2.1 ≤ S.1) (hd2 : 2 ≤ d) : ∃ σ', Ev d 226 [(68, 0), (0, dep)] (Wd xs t dd rr s) (0, b2i ((prG tk tw pl Q dep S).2.1 = 0)) (Wd xs t dd rr σ') ∧ CSx σ' σ tk tw pl 37 m c0 (prG tk tw pl Q dep S) := by
  by_cases c2 : tk S.1 = 2
  · exact cp_2_37 d hd xs t dd rr σ s D hD hr Q dep hdep tk tw pl m c0 S hk.1 hk.2.1 hk.2.2.1 hc0 hA hQ hK hk.2.2.2.1 h hf hcs hd2 c2
  by_cases c4 : tk S.1 = 4
  · exact cp_4_37 d hd xs t dd rr σ s D hD hr Q dep hdep tk tw pl m c0 S hk.1 hk.2.1 hk.2.2.1 hc0 hA hQ hK hk.2.2.2.1 h hf hcs hd2 c4
  by_cases c3 : tk S.1 = 3
  · by_cases w : tw S.1 = -1
    · exact cp_b_37 d hd xs t dd rr σ s D hD hr Q dep hdep tk tw pl m c0 S hk.1 hk.2.1 hk.2.2.1 hc0 hA hQ hK hk.2.2.2.1 h hf hcs hd2 c3 w
    · exact cp_3_37 d hd xs t dd rr σ s D hD hr Q dep hdep tk tw pl m c0 S hk.1 hk.2.1 hk.2.2.1 hc0 hA hQ hK hk.2.2.2.1 h hf hcs hd2 c3 w
  by_cases c5 : tk S.1 = 135
  · exact cp_135_37 d hd xs t dd rr σ s D hD hr Q dep hdep tk tw pl m c0 S hk.1 hk.2.1 hk.2.2.1 hc0 hA hQ hK hk.2.2.2.1 h hf hcs hd2 c5 (hk.2.2.2.2.2 _ c5)
  by_cases c6 : tk S.1 = 40
  · exact cp_40_37 d hd xs t dd rr σ s D hD hr Q dep hdep tk tw pl m c0 S hk.1 hk.2.1 hk.2.2.1 hc0 hA hQ hK hk.2.2.2.1 h hf hcs hd2 c6
  exact cp_x_37 d hd xs t dd rr σ s D hD hr Q dep hdep tk tw pl m c0 S hk.1 hk.2.1 hk.2.2.1 hc0 hA hQ hK hk.2.2.2.1 h hf hcs hd2 ⟨by omega, c5, c6⟩
set_option maxRecDepth 20000 in
set_option maxHeartbeats 2000000 in
theorem sp_X7_chain4_37 (d : Nat) (hd : 1 ≤ d) (xs : List (Nat × Nat)) (t dd rr : Nat) (σ s : Sg) (F : PSt → PSt) (dep : Int) (tk tw pl : Int → Int) (D : Nat) (hD : D + 1 ≤ d) (m c0 : Int) (S : PSt) (hP : CMp D rr F dep σ tk tw pl 37 m c0) (h : CSx s σ tk tw pl 37 m c0 S) (hf : S.2.1 = 0) (hcs : c0 + S.2.2.1 ≤ S.1)  : ∃ σ', Ev d 224 [(68, 0), (0, 4), (0, dep)] (Wd xs t dd rr s) (0, b2i ((F S).2.1 = 0)) (Wd xs t dd rr σ') ∧ CSx σ' σ tk tw pl 37 m c0 (F S) := by
  obtain ⟨d, rfl⟩ : ∃ e, d = e + 1 := ⟨d - 1, by omega⟩
  refine evS (nL := 6) (code := k_X7_readChain) rfl dc_X7_readChain rfl (fun E hE => ?_)
  show pCm (Ev d) k_X7_readChain E 0 [(68, 0), (0, 4), (0, dep), (9, 0), (9, 0), (9, 0)] [] _
  refine R_iload rfl rfl ?_
  refine R_push rfl ?_
  refine R_ic rfl (fun h2 => absurd h2 (by omega)) (fun _ => ?_)
  refine R_aload rfl rfl rfl ?_
  refine R_iload rfl rfl ?_
  obtain ⟨s1, hev1, hC1⟩ := hP d (by omega) xs t dd s S h hf hcs
  refine R_invv rfl rfl rfl rfl rfl rfl (hev1) rfl ?_
  show pCm _ _ _ 10 _ [(0, _)] _
  refine R_zret rfl (by first | exact Or.inl rfl | exact Or.inr rfl | omega | (unfold b2i; split <;> simp; done) | grind) ?_
  exact hE _ _ rfl hC1
/-- all of a line's reading by the class, at every depth -/
theorem CM_all_37 {D0 rr : Nat} {σ : Sg} {tk tw pl : Int → Int} {m c0 : Int} (hr : rr = 53) (hk : CTk tk tw pl m) (hc0 : 0 ≤ c0) (hA : ADV D0 rr σ tk tw pl 37 m c0) : ∀ e : Nat, e ≤ 5 → CMp (D0 + 6 * e + 2) rr (prt tk tw pl e) (5 - e) σ tk tw pl 37 m c0 ∧ CMc (D0 + 6 * e + 7) rr (ch0 tk (prt tk tw pl e)) 0 (5 - e) σ tk tw pl 37 m c0 := by
  have hm0 := hk.2.2.2.1
  have hpl : ∀ i, 0 ≤ i → i ≤ m → 0 ≤ pl i := fun i _ _ => hk.2.2.2.2.1 i
  have hAw : ∀ D, D0 ≤ D → ADV D rr σ tk tw pl 37 m c0 := fun D hD d hd => hA d (by omega)
  have up : ∀ (e : Nat) (dep : Int) (D : Nat), D0 + 2 ≤ D → CMp D rr (prt tk tw pl e) dep σ tk tw pl 37 m c0 → CMc (D + 5) rr (ch0 tk (prt tk tw pl e)) 0 dep σ tk tw pl 37 m c0 := by
    intro e dep D hD hP
    have kP := prt_k (tk := tk) (tw := tw) (pl := pl) hm0 hpl e
    obtain ⟨k3, k2, k1, k0⟩ := ch0_k kP hm0
    have h4 : CMc (D + 1) rr (prt tk tw pl e) (3 + 1) dep σ tk tw pl 37 m c0 := fun d hd xs t dd s S hR hf hcs => sp_X7_chain4_37 d (by omega) xs t dd rr σ s _ dep tk tw pl D hd m c0 S hP hR hf hcs
    have h3 : CMc (D + 2) rr (ch3 tk (prt tk tw pl e)) (2 + 1) dep σ tk tw pl 37 m c0 := fun d hd xs t dd s S hR hf hcs => sp_X7_readChain_37 d (by omega) xs t dd rr σ s (D + 1) hd hr _ 3 dep 1000 (by omega) rfl tk tw pl m c0 S hk.1 hk.2.2.1 hc0 (hAw _ (by omega)) h4 kP hm0 hR hf hcs (by omega)
    have h2 : CMc (D + 3) rr (ch2 tk (prt tk tw pl e)) (1 + 1) dep σ tk tw pl 37 m c0 := fun d hd xs t dd s S hR hf hcs => sp_X7_readChain_37 d (by omega) xs t dd rr σ s (D + 2) hd hr _ 2 dep 1000 (by omega) rfl tk tw pl m c0 S hk.1 hk.2.2.1 hc0 (hAw _ (by omega)) h3 k3 hm0 hR hf hcs (by omega)
    have h1 : CMc (D + 4) rr (ch1 tk (prt tk tw pl e)) (0 + 1) dep σ tk tw pl 37 m c0 := fun d hd xs t dd s S hR hf hcs => sp_X7_readChain_37 d (by omega) xs t dd rr σ s (D + 3) hd hr _ 1 dep 1 (by omega) rfl tk tw pl m c0 S hk.1 hk.2.2.1 hc0 (hAw _ (by omega)) h2 k2 hm0 hR hf hcs (by omega)
    exact fun d hd xs t dd s S hR hf hcs => sp_X7_readChain_37 d (by omega) xs t dd rr σ s (D + 4) hd hr _ 0 dep 1000 (by omega) rfl tk tw pl m c0 S hk.1 hk.2.2.1 hc0 (hAw _ (by omega)) h1 k1 hm0 hR hf hcs (by omega)
  intro e
  induction e with
  | zero =>
    intro _
    have h0 : CMp (D0 + 6 * 0 + 2) rr (prt tk tw pl 0) (5 - ((0 : Nat) : Int)) σ tk tw pl 37 m c0 := fun d hd xs t dd s S hR hf hcs => by
      rw [prt_0 (Q := prt tk tw pl 0)]
      exact sp_X7_readPart_37 d (by omega) xs t dd rr σ s D0 (by omega) hr (prt tk tw pl 0) 5 ⟨by omega, by omega⟩ tk tw pl m c0 S hk hc0 hA (fun w => absurd rfl w) (prt_k hm0 hpl 0) hR hf hcs (by omega)
    exact ⟨h0, up 0 _ _ (by omega) h0⟩
  | succ e ih =>
    intro he
    obtain ⟨i1, i2⟩ := ih (by omega)
    have hs : CMp (D0 + 6 * (e + 1) + 2) rr (prt tk tw pl (e + 1)) (5 - ((e + 1 : Nat) : Int)) σ tk tw pl 37 m c0 := fun d hd xs t dd s S hR hf hcs => by
      rw [prt_s (dep := 5 - ((e + 1 : Nat) : Int)) (by omega)]
      have e1 : 5 - ((e + 1 : Nat) : Int) + 1 = 5 - (e : Int) := by omega
      refine sp_X7_readPart_37 d (by omega) xs t dd rr σ s (D0 + 6 * e + 7) (by omega) hr _ _ ⟨by omega, by omega⟩ tk tw pl m c0 S hk hc0 (hAw _ (by omega)) (fun _ => ?_) (prt_k hm0 hpl e) hR hf hcs (by omega)
      rw [e1]
      exact ⟨fun d hd => i1 d (by omega), fun d hd => i2 d (by omega)⟩
    exact ⟨hs, up (e + 1) _ _ (by omega) hs⟩
theorem sp_X7_readPart_44 (d : Nat) (hd : 1 ≤ d) (xs : List (Nat × Nat)) (t dd rr : Nat) (σ s : Sg) (D : Nat) (hD : D + 1 ≤ d) (hr : rr = 60) (Q : PSt → PSt) (dep : Int) (hdep : 0 ≤ dep ∧ dep ≤ 5) (tk tw pl : Int → Int) (m c0 : Int) (S : PSt) (hk : CTk tk tw pl m) (hc0 : 0 ≤ c0) (hA : ADV D rr σ tk tw pl 44 m c0) (hQ : dep ≠ 5 → CMp D rr Q (dep + 1) σ tk tw pl 44 m c0 ∧ CMc D rr (ch0 tk Q) 0 (dep + 1) σ tk tw pl 44 m c0) (hK : PK Q m) (h : CSx s σ tk tw pl 44 m c0 S) (hf : S.2.1 = 0) (hcs : c0 + S.2.2.1 ≤ S.1) (hd2 : 2 ≤ d) : ∃ σ', Ev d 226 [(68, 0), (0, dep)] (Wd xs t dd rr s) (0, b2i ((prG tk tw pl Q dep S).2.1 = 0)) (Wd xs t dd rr σ') ∧ CSx σ' σ tk tw pl 44 m c0 (prG tk tw pl Q dep S) := by
  by_cases c2 : tk S.1 = 2
  · exact cp_2_44 d hd xs t dd rr σ s D hD hr Q dep hdep tk tw pl m c0 S hk.1 hk.2.1 hk.2.2.1 hc0 hA hQ hK hk.2.2.2.1 h hf hcs hd2 c2
  by_cases c4 : tk S.1 = 4
  · exact cp_4_44 d hd xs t dd rr σ s D hD hr Q dep hdep tk tw pl m c0 S hk.1 hk.2.1 hk.2.2.1 hc0 hA hQ hK hk.2.2.2.1 h hf hcs hd2 c4
  by_cases c3 : tk S.1 = 3
  · by_cases w : tw S.1 = -1
    · exact cp_b_44 d hd xs t dd rr σ s D hD hr Q dep hdep tk tw pl m c0 S hk.1 hk.2.1 hk.2.2.1 hc0 hA hQ hK hk.2.2.2.1 h hf hcs hd2 c3 w
    · exact cp_3_44 d hd xs t dd rr σ s D hD hr Q dep hdep tk tw pl m c0 S hk.1 hk.2.1 hk.2.2.1 hc0 hA hQ hK hk.2.2.2.1 h hf hcs hd2 c3 w
  by_cases c5 : tk S.1 = 135
  · exact cp_135_44 d hd xs t dd rr σ s D hD hr Q dep hdep tk tw pl m c0 S hk.1 hk.2.1 hk.2.2.1 hc0 hA hQ hK hk.2.2.2.1 h hf hcs hd2 c5 (hk.2.2.2.2.2 _ c5)
  by_cases c6 : tk S.1 = 40
  · exact cp_40_44 d hd xs t dd rr σ s D hD hr Q dep hdep tk tw pl m c0 S hk.1 hk.2.1 hk.2.2.1 hc0 hA hQ hK hk.2.2.2.1 h hf hcs hd2 c6
  exact cp_x_44 d hd xs t dd rr σ s D hD hr Q dep hdep tk tw pl m c0 S hk.1 hk.2.1 hk.2.2.1 hc0 hA hQ hK hk.2.2.2.1 h hf hcs hd2 ⟨by omega, c5, c6⟩
set_option maxRecDepth 20000 in
set_option maxHeartbeats 2000000 in
theorem sp_X7_chain4_44 (d : Nat) (hd : 1 ≤ d) (xs : List (Nat × Nat)) (t dd rr : Nat) (σ s : Sg) (F : PSt → PSt) (dep : Int) (tk tw pl : Int → Int) (D : Nat) (hD : D + 1 ≤ d) (m c0 : Int) (S : PSt) (hP : CMp D rr F dep σ tk tw pl 44 m c0) (h : CSx s σ tk tw pl 44 m c0 S) (hf : S.2.1 = 0) (hcs : c0 + S.2.2.1 ≤ S.1)  : ∃ σ', Ev d 224 [(68, 0), (0, 4), (0, dep)] (Wd xs t dd rr s) (0, b2i ((F S).2.1 = 0)) (Wd xs t dd rr σ') ∧ CSx σ' σ tk tw pl 44 m c0 (F S) := by
  obtain ⟨d, rfl⟩ : ∃ e, d = e + 1 := ⟨d - 1, by omega⟩
  refine evS (nL := 6) (code := k_X7_readChain) rfl dc_X7_readChain rfl (fun E hE => ?_)
  show pCm (Ev d) k_X7_readChain E 0 [(68, 0), (0, 4), (0, dep), (9, 0), (9, 0), (9, 0)] [] _
  refine R_iload rfl rfl ?_
  refine R_push rfl ?_
  refine R_ic rfl (fun h2 => absurd h2 (by omega)) (fun _ => ?_)
  refine R_aload rfl rfl rfl ?_
  refine R_iload rfl rfl ?_
  obtain ⟨s1, hev1, hC1⟩ := hP d (by omega) xs t dd s S h hf hcs
  refine R_invv rfl rfl rfl rfl rfl rfl (hev1) rfl ?_
  show pCm _ _ _ 10 _ [(0, _)] _
  refine R_zret rfl (by first | exact Or.inl rfl | exact Or.inr rfl | omega | (unfold b2i; split <;> simp; done) | grind) ?_
  exact hE _ _ rfl hC1
/-- all of a line's reading by the class, at every depth -/
theorem CM_all_44 {D0 rr : Nat} {σ : Sg} {tk tw pl : Int → Int} {m c0 : Int} (hr : rr = 60) (hk : CTk tk tw pl m) (hc0 : 0 ≤ c0) (hA : ADV D0 rr σ tk tw pl 44 m c0) : ∀ e : Nat, e ≤ 5 → CMp (D0 + 6 * e + 2) rr (prt tk tw pl e) (5 - e) σ tk tw pl 44 m c0 ∧ CMc (D0 + 6 * e + 7) rr (ch0 tk (prt tk tw pl e)) 0 (5 - e) σ tk tw pl 44 m c0 := by
  have hm0 := hk.2.2.2.1
  have hpl : ∀ i, 0 ≤ i → i ≤ m → 0 ≤ pl i := fun i _ _ => hk.2.2.2.2.1 i
  have hAw : ∀ D, D0 ≤ D → ADV D rr σ tk tw pl 44 m c0 := fun D hD d hd => hA d (by omega)
  have up : ∀ (e : Nat) (dep : Int) (D : Nat), D0 + 2 ≤ D → CMp D rr (prt tk tw pl e) dep σ tk tw pl 44 m c0 → CMc (D + 5) rr (ch0 tk (prt tk tw pl e)) 0 dep σ tk tw pl 44 m c0 := by
    intro e dep D hD hP
    have kP := prt_k (tk := tk) (tw := tw) (pl := pl) hm0 hpl e
    obtain ⟨k3, k2, k1, k0⟩ := ch0_k kP hm0
    have h4 : CMc (D + 1) rr (prt tk tw pl e) (3 + 1) dep σ tk tw pl 44 m c0 := fun d hd xs t dd s S hR hf hcs => sp_X7_chain4_44 d (by omega) xs t dd rr σ s _ dep tk tw pl D hd m c0 S hP hR hf hcs
    have h3 : CMc (D + 2) rr (ch3 tk (prt tk tw pl e)) (2 + 1) dep σ tk tw pl 44 m c0 := fun d hd xs t dd s S hR hf hcs => sp_X7_readChain_44 d (by omega) xs t dd rr σ s (D + 1) hd hr _ 3 dep 1000 (by omega) rfl tk tw pl m c0 S hk.1 hk.2.2.1 hc0 (hAw _ (by omega)) h4 kP hm0 hR hf hcs (by omega)
    have h2 : CMc (D + 3) rr (ch2 tk (prt tk tw pl e)) (1 + 1) dep σ tk tw pl 44 m c0 := fun d hd xs t dd s S hR hf hcs => sp_X7_readChain_44 d (by omega) xs t dd rr σ s (D + 2) hd hr _ 2 dep 1000 (by omega) rfl tk tw pl m c0 S hk.1 hk.2.2.1 hc0 (hAw _ (by omega)) h3 k3 hm0 hR hf hcs (by omega)
    have h1 : CMc (D + 4) rr (ch1 tk (prt tk tw pl e)) (0 + 1) dep σ tk tw pl 44 m c0 := fun d hd xs t dd s S hR hf hcs => sp_X7_readChain_44 d (by omega) xs t dd rr σ s (D + 3) hd hr _ 1 dep 1 (by omega) rfl tk tw pl m c0 S hk.1 hk.2.2.1 hc0 (hAw _ (by omega)) h2 k2 hm0 hR hf hcs (by omega)
    exact fun d hd xs t dd s S hR hf hcs => sp_X7_readChain_44 d (by omega) xs t dd rr σ s (D + 4) hd hr _ 0 dep 1000 (by omega) rfl tk tw pl m c0 S hk.1 hk.2.2.1 hc0 (hAw _ (by omega)) h1 k1 hm0 hR hf hcs (by omega)
  intro e
  induction e with
  | zero =>
    intro _
    have h0 : CMp (D0 + 6 * 0 + 2) rr (prt tk tw pl 0) (5 - ((0 : Nat) : Int)) σ tk tw pl 44 m c0 := fun d hd xs t dd s S hR hf hcs => by
      rw [prt_0 (Q := prt tk tw pl 0)]
      exact sp_X7_readPart_44 d (by omega) xs t dd rr σ s D0 (by omega) hr (prt tk tw pl 0) 5 ⟨by omega, by omega⟩ tk tw pl m c0 S hk hc0 hA (fun w => absurd rfl w) (prt_k hm0 hpl 0) hR hf hcs (by omega)
    exact ⟨h0, up 0 _ _ (by omega) h0⟩
  | succ e ih =>
    intro he
    obtain ⟨i1, i2⟩ := ih (by omega)
    have hs : CMp (D0 + 6 * (e + 1) + 2) rr (prt tk tw pl (e + 1)) (5 - ((e + 1 : Nat) : Int)) σ tk tw pl 44 m c0 := fun d hd xs t dd s S hR hf hcs => by
      rw [prt_s (dep := 5 - ((e + 1 : Nat) : Int)) (by omega)]
      have e1 : 5 - ((e + 1 : Nat) : Int) + 1 = 5 - (e : Int) := by omega
      refine sp_X7_readPart_44 d (by omega) xs t dd rr σ s (D0 + 6 * e + 7) (by omega) hr _ _ ⟨by omega, by omega⟩ tk tw pl m c0 S hk hc0 (hAw _ (by omega)) (fun _ => ?_) (prt_k hm0 hpl e) hR hf hcs (by omega)
      rw [e1]
      exact ⟨fun d hd => i1 d (by omega), fun d hd => i2 d (by omega)⟩
    exact ⟨hs, up (e + 1) _ _ (by omega) hs⟩
theorem up_id {σ : Sg} {k : Nat} {i : Int} : up2 σ k i (σ k i) = σ := by
  funext k' i'
  unfold up2
  split
  · rename_i q; rw [q.1, q.2]
  · rfl
/-- a new name is written: the base goes along -/
theorem CS_nm {s σ : Sg} {tk tw pl : Int → Int} {B : Nat} {m c0 i v : Int} {S : PSt} (hB : B = 37 ∨ B = 44) (h : CSx s σ tk tw pl B m c0 S) : CSx (up2 s 56 i v) (up2 σ 56 i v) tk tw pl B m c0 S := by
  have e : ∀ (s : Sg) (k : Nat), k ≠ 56 → up2 s 56 i v k = s k := fun s k z => up_rowo z
  obtain ⟨a1, a2, a3, a4, a5, a6⟩ := h
  have hl : ltC (up2 σ 56 i v) = ltC σ := by unfold ltC; rw [e σ 53 (by decide), e σ 52 (by decide)]
  have b1 : B ≠ 56 ∧ B + 4 ≠ 56 := by omega
  unfold CSx
  rw [hl, e s 52 (by decide), e σ 52 (by decide), e σ 53 (by decide), e s B b1.1, e s (B + 4) b1.2, e σ (B + 4) b1.2]
  exact ⟨a1.upb, a2, a3, a4, a5, a6⟩
set_option maxRecDepth 20000 in
set_option maxHeartbeats 2000000 in
theorem sp_X7_readNewName_37 (d : Nat) (hd : 1 ≤ d) (xs : List (Nat × Nat)) (t dd rr : Nat) (σ s : Sg) (D : Nat) (hD : D + 1 ≤ d) (hr : rr = 53) (tk tw pl : Int → Int) (m c0 : Int) (S : PSt) (hM : 0 ≤ σ 37 1 ∧ σ 37 1 ≤ 8) (hA : ∀ v, ADV D rr (up2 σ 56 (σ 37 1) v) tk tw pl 37 m c0) (h : CSx s σ tk tw pl 37 m c0 S) (hf : S.2.1 = 0) (hd2 : 2 ≤ d)  : ∃ σ', Ev d 221 [(68, 0)] (Wd xs t dd rr s) (0, b2i ((tnn tk tw pl (σ 37 1) S).2.1 = 0)) (Wd xs t dd rr σ') ∧ ((tnn tk tw pl (σ 37 1) S).2.1 = 0 → CSx σ' (up2 σ 56 (σ 37 1) (ltC σ (pl S.1))) tk tw pl 37 m c0 (tnn tk tw pl (σ 37 1) S)) ∧ ((tnn tk tw pl (σ 37 1) S).2.1 ≠ 0 → CSx σ' σ tk tw pl 37 m c0 (tnn tk tw pl (σ 37 1) S)) := by
  obtain ⟨d, rfl⟩ : ∃ e, d = e + 1 := ⟨d - 1, by omega⟩
  subst hr
  obtain ⟨a1, a2, a3, a4, a5, a6⟩ := id h
  obtain ⟨b1, b2, b3, b4, b5, b6⟩ := a6 hf
  have a52 := a5.2 hf
  clear a5 a6 b6
  have eM : s 37 1 = σ 37 1 := a1.at 37 1 rfl
  refine evS (nL := 1) (code := k_X7_readNewName) rfl dc_X7_readNewName rfl (fun E hE => ?_)
  show pCm (Ev d) k_X7_readNewName E 0 [(68, 0)] [] _
  refine R_aload rfl rfl rfl ?_
  refine T_geti rfl rfl rfl ?_
  refine R_push rfl ?_
  refine R_ic rfl (fun h5 => ?_) (fun h5 => ?_)
  · try simp only [ne_eq, b2i_e, b2i_1, Classical.not_not] at h5
    refine R_aload rfl rfl rfl ?_
    refine T_geti rfl rfl rfl ?_
    refine R_push rfl ?_
    refine R_ic rfl (fun h19 => ?_) (fun h19 => ?_)
    · try simp only [ne_eq, b2i_e, b2i_1, Classical.not_not] at h19
      refine R_aload rfl rfl rfl ?_
      refine T_getr (v := 53) rfl rfl rfl rfl ?_
      refine T_geti rfl rfl rfl ?_
      refine R_push rfl ?_
      refine R_ic rfl (fun h37 => ?_) (fun h37 => ?_)
      · try simp only [ne_eq, b2i_e, b2i_1, Classical.not_not] at h37
        refine R_aload rfl rfl rfl ?_
        refine T_getr (v := 72) rfl rfl rfl rfl ?_
        refine R_aload rfl rfl rfl ?_
        refine T_getr (v := 53) rfl rfl rfl rfl ?_
        refine T_geti rfl rfl rfl ?_
        refine R_aload rfl rfl rfl ?_
        refine T_getl rfl rfl rfl ?_
        refine T_last rfl rfl (by omega) (by omega) ?_
        refine R_aload rfl rfl rfl ?_
        have et : tk S.1 = 3 := by omega
        have h8 := (a52 (by omega)).2 et
        obtain ⟨s2, hev2, hC2⟩ := hA (ltC σ (pl S.1)) d (by omega) xs t dd _ S (CS_nm (i := σ 37 1) (v := ltC σ (pl S.1)) (by simp) h) hf (by omega)
        rw [h8, eM]
        refine R_invv rfl rfl rfl rfl rfl rfl (hev2) rfl ?_
        show pCm _ _ _ 66 _ [] _
        refine R_push rfl ?_
        refine R_zret rfl (by first | exact Or.inl rfl | exact Or.inr rfl | omega | (unfold b2i; split <;> simp; done) | grind) ?_
        first
        | (obtain ⟨hC, hn⟩ := CS_er (c := 1) (B := 37) (by simp) h hf (by omega)
           have e : tnn tk tw pl (σ 37 1) S = pEr pl 1 S := by unfold tnn; rw [if_neg (by omega), if_pos (by omega)]
           exact hE _ _ (by rw [e, b2i_f hn]) ⟨fun z => absurd z (by rw [e]; exact hn), fun _ => by rw [e]; exact hC⟩)
        | (obtain ⟨hC, hn⟩ := CS_er (c := 3) (B := 37) (by simp) h hf (by omega)
           have e : tnn tk tw pl (σ 37 1) S = pEr pl 3 S := by unfold tnn; rw [if_neg (by omega), if_neg (by omega), if_pos (by omega)]
           exact hE _ _ (by rw [e, b2i_f hn]) ⟨fun z => absurd z (by rw [e]; exact hn), fun _ => by rw [e]; exact hC⟩)
        | (obtain ⟨hC, hn⟩ := CS_er (c := 5) (B := 37) (by simp) h hf (by omega)
           have e : tnn tk tw pl (σ 37 1) S = pEr pl 5 S := by unfold tnn; rw [if_neg (by omega), if_neg (by omega), if_neg (by omega), if_pos (by omega)]
           exact hE _ _ (by rw [e, b2i_f hn]) ⟨fun z => absurd z (by rw [e]; exact hn), fun _ => by rw [e]; exact hC⟩)
        | (have e : tnn tk tw pl (σ 37 1) S = pAd S := by unfold tnn; rw [if_neg (by omega), if_neg (by omega), if_neg (by omega), if_neg (by omega)]
           exact hE _ _ (by rw [e, b2i_t (show (pAd S).2.1 = 0 from hf)]) ⟨fun _ => by rw [e]; exact hC2, fun z => absurd (show (tnn tk tw pl (σ 37 1) S).2.1 = 0 by rw [e]; exact hf) z⟩)
      · try simp only [ne_eq, b2i_e, b2i_1, Classical.not_not] at h37
        refine R_aload rfl rfl rfl ?_
        refine R_push rfl ?_
        refine R_invv rfl rfl rfl rfl rfl rfl (sp_X7_refuse d (by omega) xs t dd 53 s _ ⟨by omega, by omega⟩ a4) rfl ?_
        show pCm _ _ _ 45 _ [(0, _)] _
        refine R_zret rfl (by first | exact Or.inl rfl | exact Or.inr rfl | omega | (unfold b2i; split <;> simp; done) | grind) ?_
        first
        | (obtain ⟨hC, hn⟩ := CS_er (c := 1) (B := 37) (by simp) h hf (by omega)
           have e : tnn tk tw pl (σ 37 1) S = pEr pl 1 S := by unfold tnn; rw [if_neg (by omega), if_pos (by omega)]
           exact hE _ _ (by rw [e, b2i_f hn]) ⟨fun z => absurd z (by rw [e]; exact hn), fun _ => by rw [e]; exact hC⟩)
        | (obtain ⟨hC, hn⟩ := CS_er (c := 3) (B := 37) (by simp) h hf (by omega)
           have e : tnn tk tw pl (σ 37 1) S = pEr pl 3 S := by unfold tnn; rw [if_neg (by omega), if_neg (by omega), if_pos (by omega)]
           exact hE _ _ (by rw [e, b2i_f hn]) ⟨fun z => absurd z (by rw [e]; exact hn), fun _ => by rw [e]; exact hC⟩)
        | (obtain ⟨hC, hn⟩ := CS_er (c := 5) (B := 37) (by simp) h hf (by omega)
           have e : tnn tk tw pl (σ 37 1) S = pEr pl 5 S := by unfold tnn; rw [if_neg (by omega), if_neg (by omega), if_neg (by omega), if_pos (by omega)]
           exact hE _ _ (by rw [e, b2i_f hn]) ⟨fun z => absurd z (by rw [e]; exact hn), fun _ => by rw [e]; exact hC⟩)
        | (have e : tnn tk tw pl (σ 37 1) S = pAd S := by unfold tnn; rw [if_neg (by omega), if_neg (by omega), if_neg (by omega), if_neg (by omega)]
           exact hE _ _ (by rw [e, b2i_t (show (pAd S).2.1 = 0 from hf)]) ⟨fun _ => by rw [e]; exact hC2, fun z => absurd (show (tnn tk tw pl (σ 37 1) S).2.1 = 0 by rw [e]; exact hf) z⟩)
    · try simp only [ne_eq, b2i_e, b2i_1, Classical.not_not] at h19
      refine R_aload rfl rfl rfl ?_
      refine R_push rfl ?_
      refine R_invv rfl rfl rfl rfl rfl rfl (sp_X7_refuse d (by omega) xs t dd 53 s _ ⟨by omega, by omega⟩ a4) rfl ?_
      show pCm _ _ _ 27 _ [(0, _)] _
      refine R_zret rfl (by first | exact Or.inl rfl | exact Or.inr rfl | omega | (unfold b2i; split <;> simp; done) | grind) ?_
      first
      | (obtain ⟨hC, hn⟩ := CS_er (c := 1) (B := 37) (by simp) h hf (by omega)
         have e : tnn tk tw pl (σ 37 1) S = pEr pl 1 S := by unfold tnn; rw [if_neg (by omega), if_pos (by omega)]
         exact hE _ _ (by rw [e, b2i_f hn]) ⟨fun z => absurd z (by rw [e]; exact hn), fun _ => by rw [e]; exact hC⟩)
      | (obtain ⟨hC, hn⟩ := CS_er (c := 3) (B := 37) (by simp) h hf (by omega)
         have e : tnn tk tw pl (σ 37 1) S = pEr pl 3 S := by unfold tnn; rw [if_neg (by omega), if_neg (by omega), if_pos (by omega)]
         exact hE _ _ (by rw [e, b2i_f hn]) ⟨fun z => absurd z (by rw [e]; exact hn), fun _ => by rw [e]; exact hC⟩)
      | (obtain ⟨hC, hn⟩ := CS_er (c := 5) (B := 37) (by simp) h hf (by omega)
         have e : tnn tk tw pl (σ 37 1) S = pEr pl 5 S := by unfold tnn; rw [if_neg (by omega), if_neg (by omega), if_neg (by omega), if_pos (by omega)]
         exact hE _ _ (by rw [e, b2i_f hn]) ⟨fun z => absurd z (by rw [e]; exact hn), fun _ => by rw [e]; exact hC⟩)
      | (have e : tnn tk tw pl (σ 37 1) S = pAd S := by unfold tnn; rw [if_neg (by omega), if_neg (by omega), if_neg (by omega), if_neg (by omega)]
         exact hE _ _ (by rw [e, b2i_t (show (pAd S).2.1 = 0 from hf)]) ⟨fun _ => by rw [e]; exact hC2, fun z => absurd (show (tnn tk tw pl (σ 37 1) S).2.1 = 0 by rw [e]; exact hf) z⟩)
  · try simp only [ne_eq, b2i_e, b2i_1, Classical.not_not] at h5
    refine R_aload rfl rfl rfl ?_
    refine R_push rfl ?_
    refine R_invv rfl rfl rfl rfl rfl rfl (sp_X7_refuse d (by omega) xs t dd 53 s _ ⟨by omega, by omega⟩ a4) rfl ?_
    show pCm _ _ _ 13 _ [(0, _)] _
    refine R_zret rfl (by first | exact Or.inl rfl | exact Or.inr rfl | omega | (unfold b2i; split <;> simp; done) | grind) ?_
    first
    | (obtain ⟨hC, hn⟩ := CS_er (c := 1) (B := 37) (by simp) h hf (by omega)
       have e : tnn tk tw pl (σ 37 1) S = pEr pl 1 S := by unfold tnn; rw [if_neg (by omega), if_pos (by omega)]
       exact hE _ _ (by rw [e, b2i_f hn]) ⟨fun z => absurd z (by rw [e]; exact hn), fun _ => by rw [e]; exact hC⟩)
    | (obtain ⟨hC, hn⟩ := CS_er (c := 3) (B := 37) (by simp) h hf (by omega)
       have e : tnn tk tw pl (σ 37 1) S = pEr pl 3 S := by unfold tnn; rw [if_neg (by omega), if_neg (by omega), if_pos (by omega)]
       exact hE _ _ (by rw [e, b2i_f hn]) ⟨fun z => absurd z (by rw [e]; exact hn), fun _ => by rw [e]; exact hC⟩)
    | (obtain ⟨hC, hn⟩ := CS_er (c := 5) (B := 37) (by simp) h hf (by omega)
       have e : tnn tk tw pl (σ 37 1) S = pEr pl 5 S := by unfold tnn; rw [if_neg (by omega), if_neg (by omega), if_neg (by omega), if_pos (by omega)]
       exact hE _ _ (by rw [e, b2i_f hn]) ⟨fun z => absurd z (by rw [e]; exact hn), fun _ => by rw [e]; exact hC⟩)
    | (have e : tnn tk tw pl (σ 37 1) S = pAd S := by unfold tnn; rw [if_neg (by omega), if_neg (by omega), if_neg (by omega), if_neg (by omega)]
       exact hE _ _ (by rw [e, b2i_t (show (pAd S).2.1 = 0 from hf)]) ⟨fun _ => by rw [e]; exact hC2, fun z => absurd (show (tnn tk tw pl (σ 37 1) S).2.1 = 0 by rw [e]; exact hf) z⟩)
set_option maxRecDepth 20000 in
set_option maxHeartbeats 2000000 in
theorem sp_X7_readNewName_44 (d : Nat) (hd : 1 ≤ d) (xs : List (Nat × Nat)) (t dd rr : Nat) (σ s : Sg) (D : Nat) (hD : D + 1 ≤ d) (hr : rr = 60) (tk tw pl : Int → Int) (m c0 : Int) (S : PSt) (hM : 0 ≤ σ 44 1 ∧ σ 44 1 ≤ 8) (hA : ∀ v, ADV D rr (up2 σ 56 (σ 44 1) v) tk tw pl 44 m c0) (h : CSx s σ tk tw pl 44 m c0 S) (hf : S.2.1 = 0) (hd2 : 2 ≤ d)  : ∃ σ', Ev d 221 [(68, 0)] (Wd xs t dd rr s) (0, b2i ((tnn tk tw pl (σ 44 1) S).2.1 = 0)) (Wd xs t dd rr σ') ∧ ((tnn tk tw pl (σ 44 1) S).2.1 = 0 → CSx σ' (up2 σ 56 (σ 44 1) (ltC σ (pl S.1))) tk tw pl 44 m c0 (tnn tk tw pl (σ 44 1) S)) ∧ ((tnn tk tw pl (σ 44 1) S).2.1 ≠ 0 → CSx σ' σ tk tw pl 44 m c0 (tnn tk tw pl (σ 44 1) S)) := by
  obtain ⟨d, rfl⟩ : ∃ e, d = e + 1 := ⟨d - 1, by omega⟩
  subst hr
  obtain ⟨a1, a2, a3, a4, a5, a6⟩ := id h
  obtain ⟨b1, b2, b3, b4, b5, b6⟩ := a6 hf
  have a52 := a5.2 hf
  clear a5 a6 b6
  have eM : s 44 1 = σ 44 1 := a1.at 44 1 rfl
  refine evS (nL := 1) (code := k_X7_readNewName) rfl dc_X7_readNewName rfl (fun E hE => ?_)
  show pCm (Ev d) k_X7_readNewName E 0 [(68, 0)] [] _
  refine R_aload rfl rfl rfl ?_
  refine T_geti rfl rfl rfl ?_
  refine R_push rfl ?_
  refine R_ic rfl (fun h5 => ?_) (fun h5 => ?_)
  · try simp only [ne_eq, b2i_e, b2i_1, Classical.not_not] at h5
    refine R_aload rfl rfl rfl ?_
    refine T_geti rfl rfl rfl ?_
    refine R_push rfl ?_
    refine R_ic rfl (fun h19 => ?_) (fun h19 => ?_)
    · try simp only [ne_eq, b2i_e, b2i_1, Classical.not_not] at h19
      refine R_aload rfl rfl rfl ?_
      refine T_getr (v := 60) rfl rfl rfl rfl ?_
      refine T_geti rfl rfl rfl ?_
      refine R_push rfl ?_
      refine R_ic rfl (fun h37 => ?_) (fun h37 => ?_)
      · try simp only [ne_eq, b2i_e, b2i_1, Classical.not_not] at h37
        refine R_aload rfl rfl rfl ?_
        refine T_getr (v := 72) rfl rfl rfl rfl ?_
        refine R_aload rfl rfl rfl ?_
        refine T_getr (v := 60) rfl rfl rfl rfl ?_
        refine T_geti rfl rfl rfl ?_
        refine R_aload rfl rfl rfl ?_
        refine T_getl rfl rfl rfl ?_
        refine T_last rfl rfl (by omega) (by omega) ?_
        refine R_aload rfl rfl rfl ?_
        have et : tk S.1 = 3 := by omega
        have h8 := (a52 (by omega)).2 et
        obtain ⟨s2, hev2, hC2⟩ := hA (ltC σ (pl S.1)) d (by omega) xs t dd _ S (CS_nm (i := σ 44 1) (v := ltC σ (pl S.1)) (by simp) h) hf (by omega)
        rw [h8, eM]
        refine R_invv rfl rfl rfl rfl rfl rfl (hev2) rfl ?_
        show pCm _ _ _ 66 _ [] _
        refine R_push rfl ?_
        refine R_zret rfl (by first | exact Or.inl rfl | exact Or.inr rfl | omega | (unfold b2i; split <;> simp; done) | grind) ?_
        first
        | (obtain ⟨hC, hn⟩ := CS_er (c := 1) (B := 44) (by simp) h hf (by omega)
           have e : tnn tk tw pl (σ 44 1) S = pEr pl 1 S := by unfold tnn; rw [if_neg (by omega), if_pos (by omega)]
           exact hE _ _ (by rw [e, b2i_f hn]) ⟨fun z => absurd z (by rw [e]; exact hn), fun _ => by rw [e]; exact hC⟩)
        | (obtain ⟨hC, hn⟩ := CS_er (c := 3) (B := 44) (by simp) h hf (by omega)
           have e : tnn tk tw pl (σ 44 1) S = pEr pl 3 S := by unfold tnn; rw [if_neg (by omega), if_neg (by omega), if_pos (by omega)]
           exact hE _ _ (by rw [e, b2i_f hn]) ⟨fun z => absurd z (by rw [e]; exact hn), fun _ => by rw [e]; exact hC⟩)
        | (obtain ⟨hC, hn⟩ := CS_er (c := 5) (B := 44) (by simp) h hf (by omega)
           have e : tnn tk tw pl (σ 44 1) S = pEr pl 5 S := by unfold tnn; rw [if_neg (by omega), if_neg (by omega), if_neg (by omega), if_pos (by omega)]
           exact hE _ _ (by rw [e, b2i_f hn]) ⟨fun z => absurd z (by rw [e]; exact hn), fun _ => by rw [e]; exact hC⟩)
        | (have e : tnn tk tw pl (σ 44 1) S = pAd S := by unfold tnn; rw [if_neg (by omega), if_neg (by omega), if_neg (by omega), if_neg (by omega)]
           exact hE _ _ (by rw [e, b2i_t (show (pAd S).2.1 = 0 from hf)]) ⟨fun _ => by rw [e]; exact hC2, fun z => absurd (show (tnn tk tw pl (σ 44 1) S).2.1 = 0 by rw [e]; exact hf) z⟩)
      · try simp only [ne_eq, b2i_e, b2i_1, Classical.not_not] at h37
        refine R_aload rfl rfl rfl ?_
        refine R_push rfl ?_
        refine R_invv rfl rfl rfl rfl rfl rfl (sp_X7_refuse d (by omega) xs t dd 60 s _ ⟨by omega, by omega⟩ a4) rfl ?_
        show pCm _ _ _ 45 _ [(0, _)] _
        refine R_zret rfl (by first | exact Or.inl rfl | exact Or.inr rfl | omega | (unfold b2i; split <;> simp; done) | grind) ?_
        first
        | (obtain ⟨hC, hn⟩ := CS_er (c := 1) (B := 44) (by simp) h hf (by omega)
           have e : tnn tk tw pl (σ 44 1) S = pEr pl 1 S := by unfold tnn; rw [if_neg (by omega), if_pos (by omega)]
           exact hE _ _ (by rw [e, b2i_f hn]) ⟨fun z => absurd z (by rw [e]; exact hn), fun _ => by rw [e]; exact hC⟩)
        | (obtain ⟨hC, hn⟩ := CS_er (c := 3) (B := 44) (by simp) h hf (by omega)
           have e : tnn tk tw pl (σ 44 1) S = pEr pl 3 S := by unfold tnn; rw [if_neg (by omega), if_neg (by omega), if_pos (by omega)]
           exact hE _ _ (by rw [e, b2i_f hn]) ⟨fun z => absurd z (by rw [e]; exact hn), fun _ => by rw [e]; exact hC⟩)
        | (obtain ⟨hC, hn⟩ := CS_er (c := 5) (B := 44) (by simp) h hf (by omega)
           have e : tnn tk tw pl (σ 44 1) S = pEr pl 5 S := by unfold tnn; rw [if_neg (by omega), if_neg (by omega), if_neg (by omega), if_pos (by omega)]
           exact hE _ _ (by rw [e, b2i_f hn]) ⟨fun z => absurd z (by rw [e]; exact hn), fun _ => by rw [e]; exact hC⟩)
        | (have e : tnn tk tw pl (σ 44 1) S = pAd S := by unfold tnn; rw [if_neg (by omega), if_neg (by omega), if_neg (by omega), if_neg (by omega)]
           exact hE _ _ (by rw [e, b2i_t (show (pAd S).2.1 = 0 from hf)]) ⟨fun _ => by rw [e]; exact hC2, fun z => absurd (show (tnn tk tw pl (σ 44 1) S).2.1 = 0 by rw [e]; exact hf) z⟩)
    · try simp only [ne_eq, b2i_e, b2i_1, Classical.not_not] at h19
      refine R_aload rfl rfl rfl ?_
      refine R_push rfl ?_
      refine R_invv rfl rfl rfl rfl rfl rfl (sp_X7_refuse d (by omega) xs t dd 60 s _ ⟨by omega, by omega⟩ a4) rfl ?_
      show pCm _ _ _ 27 _ [(0, _)] _
      refine R_zret rfl (by first | exact Or.inl rfl | exact Or.inr rfl | omega | (unfold b2i; split <;> simp; done) | grind) ?_
      first
      | (obtain ⟨hC, hn⟩ := CS_er (c := 1) (B := 44) (by simp) h hf (by omega)
         have e : tnn tk tw pl (σ 44 1) S = pEr pl 1 S := by unfold tnn; rw [if_neg (by omega), if_pos (by omega)]
         exact hE _ _ (by rw [e, b2i_f hn]) ⟨fun z => absurd z (by rw [e]; exact hn), fun _ => by rw [e]; exact hC⟩)
      | (obtain ⟨hC, hn⟩ := CS_er (c := 3) (B := 44) (by simp) h hf (by omega)
         have e : tnn tk tw pl (σ 44 1) S = pEr pl 3 S := by unfold tnn; rw [if_neg (by omega), if_neg (by omega), if_pos (by omega)]
         exact hE _ _ (by rw [e, b2i_f hn]) ⟨fun z => absurd z (by rw [e]; exact hn), fun _ => by rw [e]; exact hC⟩)
      | (obtain ⟨hC, hn⟩ := CS_er (c := 5) (B := 44) (by simp) h hf (by omega)
         have e : tnn tk tw pl (σ 44 1) S = pEr pl 5 S := by unfold tnn; rw [if_neg (by omega), if_neg (by omega), if_neg (by omega), if_pos (by omega)]
         exact hE _ _ (by rw [e, b2i_f hn]) ⟨fun z => absurd z (by rw [e]; exact hn), fun _ => by rw [e]; exact hC⟩)
      | (have e : tnn tk tw pl (σ 44 1) S = pAd S := by unfold tnn; rw [if_neg (by omega), if_neg (by omega), if_neg (by omega), if_neg (by omega)]
         exact hE _ _ (by rw [e, b2i_t (show (pAd S).2.1 = 0 from hf)]) ⟨fun _ => by rw [e]; exact hC2, fun z => absurd (show (tnn tk tw pl (σ 44 1) S).2.1 = 0 by rw [e]; exact hf) z⟩)
  · try simp only [ne_eq, b2i_e, b2i_1, Classical.not_not] at h5
    refine R_aload rfl rfl rfl ?_
    refine R_push rfl ?_
    refine R_invv rfl rfl rfl rfl rfl rfl (sp_X7_refuse d (by omega) xs t dd 60 s _ ⟨by omega, by omega⟩ a4) rfl ?_
    show pCm _ _ _ 13 _ [(0, _)] _
    refine R_zret rfl (by first | exact Or.inl rfl | exact Or.inr rfl | omega | (unfold b2i; split <;> simp; done) | grind) ?_
    first
    | (obtain ⟨hC, hn⟩ := CS_er (c := 1) (B := 44) (by simp) h hf (by omega)
       have e : tnn tk tw pl (σ 44 1) S = pEr pl 1 S := by unfold tnn; rw [if_neg (by omega), if_pos (by omega)]
       exact hE _ _ (by rw [e, b2i_f hn]) ⟨fun z => absurd z (by rw [e]; exact hn), fun _ => by rw [e]; exact hC⟩)
    | (obtain ⟨hC, hn⟩ := CS_er (c := 3) (B := 44) (by simp) h hf (by omega)
       have e : tnn tk tw pl (σ 44 1) S = pEr pl 3 S := by unfold tnn; rw [if_neg (by omega), if_neg (by omega), if_pos (by omega)]
       exact hE _ _ (by rw [e, b2i_f hn]) ⟨fun z => absurd z (by rw [e]; exact hn), fun _ => by rw [e]; exact hC⟩)
    | (obtain ⟨hC, hn⟩ := CS_er (c := 5) (B := 44) (by simp) h hf (by omega)
       have e : tnn tk tw pl (σ 44 1) S = pEr pl 5 S := by unfold tnn; rw [if_neg (by omega), if_neg (by omega), if_neg (by omega), if_pos (by omega)]
       exact hE _ _ (by rw [e, b2i_f hn]) ⟨fun z => absurd z (by rw [e]; exact hn), fun _ => by rw [e]; exact hC⟩)
    | (have e : tnn tk tw pl (σ 44 1) S = pAd S := by unfold tnn; rw [if_neg (by omega), if_neg (by omega), if_neg (by omega), if_neg (by omega)]
       exact hE _ _ (by rw [e, b2i_t (show (pAd S).2.1 = 0 from hf)]) ⟨fun _ => by rw [e]; exact hC2, fun z => absurd (show (tnn tk tw pl (σ 44 1) S).2.1 = 0 by rw [e]; exact hf) z⟩)

-- the reference's line rows beside its reading
def ET (σ σ' : Sg) : Prop := σ' 73 = σ 73 ∧ σ' 74 = σ 74 ∧ σ' 75 = σ 75 ∧ σ' 76 = σ 76 ∧ σ' 81 = σ 81 ∧ σ' 82 = σ 82 ∧ σ' 71 11 = σ 71 11
theorem ET_up {σ : Sg} {k : Nat} {i v : Int} (h : k = 77 ∨ k = 78 ∨ k = 79 ∨ k = 80) : ET σ (up2 σ k i v) := by
  rcases h with e | e | e | e <;> subst e <;> exact ⟨rfl, rfl, rfl, rfl, rfl, rfl, rfl⟩
theorem ET.tr {a b c : Sg} (h : ET a b) (k : ET b c) : ET a c := by
  obtain ⟨h1, h2, h3, h4, h5, h6, h7⟩ := h
  obtain ⟨k1, k2, k3, k4, k5, k6, k7⟩ := k
  exact ⟨k1.trans h1, k2.trans h2, k3.trans h3, k4.trans h4, k5.trans h5, k6.trans h6, k7.trans h7⟩
theorem tkM_t {σ σ' : Sg} (h : ET σ σ') : tkM σ' = tkM σ := by
  obtain ⟨h1, h2, h3, h4, h5, h6, h7⟩ := h
  funext j
  unfold tkM
  rw [h1, h3, h4]
theorem nmF_t {σ σ' : Sg} (h : ET σ σ') : nmF σ' = nmF σ := by
  obtain ⟨h1, h2, h3, h4, h5, h6, h7⟩ := h
  funext j
  unfold nmF
  rw [h6, h7]
theorem twM_t {σ σ' : Sg} (h : ET σ σ') : twM σ' = twM σ := by
  have hn := nmF_t h
  obtain ⟨h1, h2, h3, h4, h5, h6, h7⟩ := h
  funext j
  unfold twM
  rw [h1, h3, h4, h5, h7, hn]
theorem TR_t {σ σ' : Sg} {m : Int} (h : ET σ σ') (hT : TR σ m) : TR σ' m := by
  obtain ⟨h1, h2, h3, h4, h5, h6, h7⟩ := h
  unfold TR
  rw [h1, h2, h3, h4, h5, h7]
  exact hT
theorem up_o71 {σ : Sg} {k : Nat} {i v : Int} (h : k = 77 ∨ k = 78 ∨ k = 79 ∨ k = 80) : (up2 σ k i v) 71 = σ 71 ∧ (up2 σ k i v) 83 = σ 83 ∧ (up2 σ k i v) 84 = σ 84 := by
  rcases h with e | e | e | e <;> subst e <;> exact ⟨rfl, rfl, rfl⟩
theorem RP_up {s σ : Sg} {m c0 i v : Int} {S : PSt} {k : Nat} (hk : k = 77 ∨ k = 78 ∨ k = 79 ∨ k = 80) (h : RP s σ m c0 S) : RP (up2 s k i v) (up2 σ k i v) m c0 S := by
  obtain ⟨e1, e2, e3⟩ := up_o71 (σ := s) (i := i) (v := v) hk
  obtain ⟨d1, d2, d3⟩ := up_o71 (σ := σ) (i := i) (v := v) hk
  obtain ⟨a1, a2, a3, a4, a5, a6, a7⟩ := h
  unfold RP
  rw [e1, e2, e3, d1, d2, d3]
  exact ⟨Fr.upb a1, a2, a3, a4, a5, a6, a7⟩
/-- a line's head, its steps and its end -/
def hdS (tk tw pl : Int → Int) (M k : Int) (s : PSt) : PSt := if k = 0 then tsg tk pl 61 (tnn tk tw pl M s) else tsg tk pl 132 (if k = 2 then tnm tk tw pl 1 99 s else if k = 3 then tnm tk tw pl 0 7 s else s)
def lnP (tk tw pl : Int → Int) (N M : Int) (s : PSt) : PSt := if ¬ (128 ≤ tk s.1 ∧ tk s.1 ≤ 131) then pEr pl 1 s else if N = 24 then pEr pl 5 s else tsg tk pl 59 (ch0 tk (prt tk tw pl 5) (hdS tk tw pl M (tk s.1 - 128) (pAd s)))
/-- a line's number, as the text tells it -/
def lnN (tk tw : Int → Int) (M i : Int) : Int := if tk i = 128 then M else if tk i = 130 ∨ tk i = 131 then tw (i + 1) else 0

/-! each instruction goes on in one way: so a walk with any question at its end has an answer -/
def Det (t : pT) : Prop := ∀ (Φ : pC) (E' : pE) (L S : List pV) (w : pW) (Y : pV → pW → pK), t Φ (fun pc L S w => ∃ r w', E' r w' ∧ Y r w' pc L S w) E' L S w → ∃ r w', E' r w' ∧ ∀ X : pK, (∀ pc L S w, Y r w' pc L S w → X pc L S w) → t Φ X (fun r1 w1 => r1 = r ∧ w1 = w') L S w
theorem dt_push {v : pV} {nx : Nat} : Det (i_push v nx) := fun _ _ _ _ _ _ ⟨r, w', e, k⟩ => ⟨r, w', e, fun _ hX => hX _ _ _ _ k⟩
theorem dt_goto {nx : Nat} : Det (i_goto nx) := fun _ _ _ _ _ _ ⟨r, w', e, k⟩ => ⟨r, w', e, fun _ hX => hX _ _ _ _ k⟩
theorem dt_new {ci N nx : Nat} : Det (i_new ci N nx) := fun _ _ _ _ _ _ ⟨r, w', e, k⟩ => ⟨r, w', e, fun _ hX => hX _ _ _ _ k⟩
theorem dt_iload {i nx : Nat} : Det (i_iload i nx) := fun _ _ _ _ _ _ ⟨x, a, r, w', e, k⟩ => ⟨r, w', e, fun _ hX => ⟨x, a, hX _ _ _ _ k⟩⟩
theorem dt_lload {i nx : Nat} : Det (i_lload i nx) := fun _ _ _ _ _ _ ⟨x, a, r, w', e, k⟩ => ⟨r, w', e, fun _ hX => ⟨x, a, hX _ _ _ _ k⟩⟩
theorem dt_aload {i nx : Nat} : Det (i_aload i nx) := fun _ _ _ _ _ _ ⟨n, x, a, b, c, r, w', e, k⟩ => ⟨r, w', e, fun _ hX => ⟨n, x, a, b, c, hX _ _ _ _ k⟩⟩
theorem dt_istore {i nx : Nat} : Det (i_istore i nx) := fun _ _ _ _ _ _ ⟨x, S', a, b, r, w', e, k⟩ => ⟨r, w', e, fun _ hX => ⟨x, S', a, b, hX _ _ _ _ k⟩⟩
theorem dt_lstore {i nx : Nat} : Det (i_lstore i nx) := fun _ _ _ _ _ _ ⟨x, S', a, b, r, w', e, k⟩ => ⟨r, w', e, fun _ hX => ⟨x, S', a, b, hX _ _ _ _ k⟩⟩
theorem dt_astore {i nx : Nat} : Det (i_astore i nx) := fun _ _ _ _ _ _ ⟨n, x, S', a, b, c, f, r, w', e, k⟩ => ⟨r, w', e, fun _ hX => ⟨n, x, S', a, b, c, f, hX _ _ _ _ k⟩⟩
theorem dt_iinc {i nx : Nat} {a : Int} : Det (i_iinc i a nx) := fun _ _ _ _ _ _ ⟨x, a, r, w', e, k⟩ => ⟨r, w', e, fun _ hX => ⟨x, a, hX _ _ _ _ k⟩⟩
theorem dt_bin {f : Int → Int → Int} {nx : Nat} : Det (i_bin f nx) := fun _ _ _ _ _ _ ⟨a, b, S', c, r, w', e, k⟩ => ⟨r, w', e, fun _ hX => ⟨a, b, S', c, hX _ _ _ _ k⟩⟩
theorem dt_div {f : Int → Int → Int} {nx : Nat} : Det (i_div f nx) := fun _ _ _ _ _ _ ⟨a, b, S', c, f, r, w', e, k⟩ => ⟨r, w', e, fun _ hX => ⟨a, b, S', c, f, hX _ _ _ _ k⟩⟩
theorem dt_lbin {f : Int → Int → Int} {nx : Nat} : Det (i_lbin f nx) := fun _ _ _ _ _ _ ⟨a, b, S', c, r, w', e, k⟩ => ⟨r, w', e, fun _ hX => ⟨a, b, S', c, hX _ _ _ _ k⟩⟩
theorem dt_lsh {f : Int → Int → Int} {nx : Nat} : Det (i_lsh f nx) := fun _ _ _ _ _ _ ⟨a, b, S', c, r, w', e, k⟩ => ⟨r, w', e, fun _ hX => ⟨a, b, S', c, hX _ _ _ _ k⟩⟩
theorem dt_i2l {nx : Nat} : Det (i_i2l nx) := fun _ _ _ _ _ _ ⟨a, S', c, r, w', e, k⟩ => ⟨r, w', e, fun _ hX => ⟨a, S', c, hX _ _ _ _ k⟩⟩
theorem dt_l2i {nx : Nat} : Det (i_l2i nx) := fun _ _ _ _ _ _ ⟨a, S', c, r, w', e, k⟩ => ⟨r, w', e, fun _ hX => ⟨a, S', c, hX _ _ _ _ k⟩⟩
theorem dt_i2c {nx : Nat} : Det (i_i2c nx) := fun _ _ _ _ _ _ ⟨a, S', c, r, w', e, k⟩ => ⟨r, w', e, fun _ hX => ⟨a, S', c, hX _ _ _ _ k⟩⟩
theorem dt_lcmp {nx : Nat} : Det (i_lcmp nx) := fun _ _ _ _ _ _ ⟨a, b, S', c, r, w', e, k⟩ => ⟨r, w', e, fun _ hX => ⟨a, b, S', c, hX _ _ _ _ k⟩⟩
theorem dt_dup {nx : Nat} : Det (i_dup nx) := fun _ _ _ _ _ _ ⟨a, S', c, f, r, w', e, k⟩ => ⟨r, w', e, fun _ hX => ⟨a, S', c, f, hX _ _ _ _ k⟩⟩
theorem dt_dup2 {nx : Nat} : Det (i_dup2 nx) := fun _ _ _ _ _ _ ⟨a, b, S', c, f, g, r, w', e, k⟩ => ⟨r, w', e, fun _ hX => ⟨a, b, S', c, f, g, hX _ _ _ _ k⟩⟩
theorem dt_pop {nx : Nat} : Det (i_pop nx) := fun _ _ _ _ _ _ ⟨a, S', c, f, r, w', e, k⟩ => ⟨r, w', e, fun _ hX => ⟨a, S', c, f, hX _ _ _ _ k⟩⟩
theorem dt_if {f : Int → Prop} {tg nx : Nat} : Det (i_if f tg nx) := fun _ _ _ _ _ _ ⟨a, S', c, h1, h2⟩ => by
  by_cases q : f a
  · obtain ⟨r, w', e, k⟩ := h1 q
    exact ⟨r, w', e, fun _ hX => ⟨a, S', c, fun _ => hX _ _ _ _ k, fun z => absurd q z⟩⟩
  · obtain ⟨r, w', e, k⟩ := h2 q
    exact ⟨r, w', e, fun _ hX => ⟨a, S', c, fun z => absurd z q, fun _ => hX _ _ _ _ k⟩⟩
theorem dt_ic {f : Int → Int → Prop} {tg nx : Nat} : Det (i_ic f tg nx) := fun _ _ _ _ _ _ ⟨a, b, S', c, h1, h2⟩ => by
  by_cases q : f a b
  · obtain ⟨r, w', e, k⟩ := h1 q
    exact ⟨r, w', e, fun _ hX => ⟨a, b, S', c, fun _ => hX _ _ _ _ k, fun z => absurd q z⟩⟩
  · obtain ⟨r, w', e, k⟩ := h2 q
    exact ⟨r, w', e, fun _ hX => ⟨a, b, S', c, fun z => absurd z q, fun _ => hX _ _ _ _ k⟩⟩
theorem dt_tsw {lo : Int} {tb : List Nat} {df : Nat} : Det (i_tsw lo tb df) := fun _ _ _ _ _ _ ⟨a, S', c, h1, h2⟩ => by
  by_cases q : a < lo ∨ lo + tb.length ≤ a
  · obtain ⟨r, w', e, k⟩ := h2 q
    refine ⟨r, w', e, fun _ hX => ⟨a, S', c, fun j tg hj ha => ?_, fun _ => hX _ _ _ _ k⟩⟩
    have := (List.getElem?_eq_some_iff.mp hj).1
    omega
  · have hl : (a - lo).toNat < tb.length := by omega
    obtain ⟨r, w', e, k⟩ := h1 (a - lo).toNat _ (List.getElem?_eq_getElem hl) (by omega)
    refine ⟨r, w', e, fun _ hX => ⟨a, S', c, fun j tg hj ha => ?_, fun z => absurd z q⟩⟩
    have : j = (a - lo).toNat := by omega
    subst this
    rw [List.getElem?_eq_getElem hl] at hj
    cases hj
    exact hX _ _ _ _ k
theorem dt_geti {ci nx : Nat} {f : Int} : Det (i_geti ci f nx) := fun _ _ _ _ _ _ ⟨o, z, n, S', a, b, c, f, r, w', e, k⟩ => ⟨r, w', e, fun _ hX => ⟨o, z, n, S', a, b, c, f, hX _ _ _ _ k⟩⟩
theorem dt_getl {ci nx : Nat} {f : Int} : Det (i_getl ci f nx) := fun _ _ _ _ _ _ ⟨o, z, n, S', a, b, c, f, r, w', e, k⟩ => ⟨r, w', e, fun _ hX => ⟨o, z, n, S', a, b, c, f, hX _ _ _ _ k⟩⟩
theorem dt_getr {ci f nx : Nat} : Det (i_getr ci f nx) := fun _ _ _ _ _ _ ⟨o, z, n, S', a, b, c, r, w', e, k⟩ => ⟨r, w', e, fun _ hX => ⟨o, z, n, S', a, b, c, hX _ _ _ _ k⟩⟩
theorem dt_puti {ci nx : Nat} {f : Int} : Det (i_puti ci f nx) := fun _ _ _ _ _ _ ⟨x, o, z, n, S', a, b, c, f, r, w', e, k⟩ => ⟨r, w', e, fun _ hX => ⟨x, o, z, n, S', a, b, c, f, hX _ _ _ _ k⟩⟩
theorem dt_putl {ci nx : Nat} {f : Int} : Det (i_putl ci f nx) := fun _ _ _ _ _ _ ⟨x, o, z, n, S', a, b, c, f, r, w', e, k⟩ => ⟨r, w', e, fun _ hX => ⟨x, o, z, n, S', a, b, c, f, hX _ _ _ _ k⟩⟩
theorem dt_putr {ci f nx : Nat} : Det (i_putr ci f nx) := fun _ _ _ _ _ _ ⟨v, y, o, z, n, S', a, b, c, r, w', e, k⟩ => ⟨r, w', e, fun _ hX => ⟨v, y, o, z, n, S', a, b, c, hX _ _ _ _ k⟩⟩
theorem dt_ald {t kd nx : Nat} : Det (i_ald t kd nx) := fun _ _ _ _ _ _ ⟨i, o, z, n, S', a, b, c, f, r, w', e, k⟩ => ⟨r, w', e, fun _ hX => ⟨i, o, z, n, S', a, b, c, f, hX _ _ _ _ k⟩⟩
theorem dt_ast {t kd nx : Nat} {f : Int → Int} : Det (i_ast t kd f nx) := fun _ _ _ _ _ _ ⟨x, i, o, z, n, S', a, b, c, f, r, w', e, k⟩ => ⟨r, w', e, fun _ hX => ⟨x, i, o, z, n, S', a, b, c, f, hX _ _ _ _ k⟩⟩
theorem dt_alen {nx : Nat} : Det (i_alen nx) := fun _ _ _ _ _ _ ⟨o, z, t, n, S', a, b, c, f, r, w', e, k⟩ => ⟨r, w', e, fun _ hX => ⟨o, z, t, n, S', a, b, c, f, hX _ _ _ _ k⟩⟩
theorem dt_inv {μ n nx : Nat} : Det (i_inv μ n nx) := fun _ _ _ _ _ _ ⟨r1, w1, a, b, c, f, r, w', e, k⟩ => ⟨r, w', e, fun _ hX => ⟨r1, w1, a, b, c, f, hX _ _ _ _ k⟩⟩
theorem dt_invv {μ n ci nx : Nat} : Det (i_invv μ n ci nx) := fun _ _ _ _ _ _ ⟨r1, w1, o, z, as, N, a, b, c, f, g, h, r, w', e, k⟩ => ⟨r, w', e, fun _ hX => ⟨r1, w1, o, z, as, N, a, b, c, f, g, h, hX _ _ _ _ k⟩⟩
theorem dt_invi {μ n nx : Nat} : Det (i_invi μ n nx) := fun _ _ _ _ _ _ ⟨r1, w1, o, z, as, a, b, c, f, g, r, w', e, k⟩ => ⟨r, w', e, fun _ hX => ⟨r1, w1, o, z, as, a, b, c, f, g, hX _ _ _ _ k⟩⟩
theorem dt_iret : Det i_iret := fun _ _ _ _ w _ ⟨x, a, e⟩ => ⟨(0, x), w, e, fun _ _ => ⟨x, a, rfl, rfl⟩⟩
theorem dt_zret : Det i_zret := fun _ _ _ _ w _ ⟨x, a, b, e⟩ => ⟨(0, x), w, e, fun _ _ => ⟨x, a, b, rfl, rfl⟩⟩
theorem dt_lret : Det i_lret := fun _ _ _ _ w _ ⟨x, a, e⟩ => ⟨(1, x), w, e, fun _ _ => ⟨x, a, rfl, rfl⟩⟩
theorem dt_vret : Det i_vret := fun _ _ _ _ w _ ⟨a, e⟩ => ⟨(8, 0), w, e, fun _ _ => ⟨a, rfl, rfl⟩⟩
theorem dt_thr : Det i_thr := fun _ _ _ _ w _ ⟨a, e⟩ => ⟨(7, 0), w, e, fun _ _ => ⟨a, rfl, rfl⟩⟩
theorem dt_newa {tag nx : Nat} : Det (i_newa tag nx) := fun _ _ _ _ _ _ ⟨n, S', a, b, r, w', e, k⟩ => ⟨r, w', e, fun _ hX => ⟨n, S', a, b, hX _ _ _ _ k⟩⟩
theorem dt_oinit {nx : Nat} : Det (i_oinit nx) := fun _ _ _ _ _ _ ⟨o, z, S', a, b, r, w', e, k⟩ => ⟨r, w', e, fun _ hX => ⟨o, z, S', a, b, hX _ _ _ _ k⟩⟩
theorem dt_bad : Det i_bad := fun _ _ _ _ _ _ h => h.elim
theorem dt_lsw {tb : List (Int × Nat)} {df : Nat} (hn : (tb.map (fun q => q.1)).Nodup) : Det (i_lsw tb df) := fun _ _ _ _ _ _ ⟨a, S', c, h1, h2⟩ => by
  by_cases q : ∀ x, x ∈ tb → a ≠ x.1
  · obtain ⟨r, w', e, k⟩ := h2 q
    exact ⟨r, w', e, fun _ hX => ⟨a, S', c, fun x hx ha => absurd ha (q x hx), fun _ => hX _ _ _ _ k⟩⟩
  · obtain ⟨x, hx, ha⟩ : ∃ x, x ∈ tb ∧ a = x.1 := by
      refine Classical.byContradiction (fun z => q (fun x hx ha => z ⟨x, hx, ha⟩))
    obtain ⟨r, w', e, k⟩ := h1 x hx ha
    refine ⟨r, w', e, fun _ hX => ⟨a, S', c, fun y hy hb => ?_, fun z => absurd z q⟩⟩
    have : y = x := by
      obtain ⟨i, hi⟩ := List.getElem?_of_mem hx
      obtain ⟨j, hj⟩ := List.getElem?_of_mem hy
      have e1 : (tb.map (fun q => q.1))[i]? = some a := by rw [List.getElem?_map, hi, ha]; rfl
      have e2 : (tb.map (fun q => q.1))[j]? = some a := by rw [List.getElem?_map, hj, hb]; rfl
      have hij : i = j := by
        have l1 := (List.getElem?_eq_some_iff.mp e1)
        have l2 := (List.getElem?_eq_some_iff.mp e2)
        obtain ⟨p1, q1⟩ := l1
        obtain ⟨p2, q2⟩ := l2
        exact (List.getElem_inj hn).mp (q1.trans q2.symm)
      subst hij
      rw [hi] at hj; cases hj; rfl
    subst this
    exact hX _ _ _ _ k
def DetC (code : Nat → Option pT) : Prop := ∀ pc t, code pc = some t → Det t
theorem cm_ex {Φ : pC} {code : Nat → Option pT} {E' : pE} {pc : Nat} {L S : List pV} {w : pW} (hd : DetC code) (h : pCm Φ code E' pc L S w) : ∃ r w', E' r w' ∧ pCm Φ code (fun r1 w1 => r1 = r ∧ w1 = w') pc L S w := by
  refine h (fun pc L S w => ∃ r w', E' r w' ∧ pCm Φ code (fun r1 w1 => r1 = r ∧ w1 = w') pc L S w) ?_
  intro pc L S w ⟨t, ht, k⟩
  obtain ⟨r, w', e, k'⟩ := hd pc t ht Φ E' L S w (fun r w' => pCm Φ code (fun r1 w1 => r1 = r ∧ w1 = w')) k
  refine ⟨r, w', e, fun X hX => hX _ _ _ _ ⟨t, ht, ?_⟩⟩
  exact k' X (fun pc L S w q => q X hX)

/-! locals that are not read any more may be forgotten -/
def refL (L2 L1 : List pV) : Prop := L2.length = L1.length ∧ ∀ (j : Nat) (v : pV), L1[j]? = some v → v.1 ≠ 9 → L2[j]? = some v
def Wk (t : pT) : Prop := ∀ (Φ : pC) (E : pE) (L1 L2 S : List pV) (w : pW) (X : pK), refL L2 L1 → t Φ (fun pc L S w => ∀ L2, refL L2 L → X pc L2 S w) E L1 S w → t Φ X E L2 S w
theorem kill_fwd {L : List pV} {i j : Nat} {v : pV} (h : L[j]? = some v) (h1 : j + 1 = i → v.1 ≠ 1) : (kill L i)[j]? = some v := by
  cases i with
  | zero => exact h
  | succ i =>
    simp only [kill]
    split
    · rename_i x hx
      by_cases q : i = j
      · subst q
        rw [h] at hx
        cases hx
        exact absurd rfl (h1 rfl)
      · rw [List.getElem?_set_ne q]; exact h
    · exact h
theorem ref_set {L1 L2 : List pV} {i : Nat} {v : pV} (h : refL L2 L1) (hi : i < L1.length) : refL (setL L2 i v) (setL L1 i v) := by
  refine ⟨by rw [setL_len, setL_len]; exact h.1, fun j u hu h9 => ?_⟩
  rcases setL_get hi hu h9 with ⟨rfl, rfl⟩ | ⟨h1, h2, h3⟩
  · unfold setL; rw [List.getElem?_set_self (by rw [kill_len, h.1]; exact hi)]
  · unfold setL; rw [List.getElem?_set_ne (Ne.symm h1)]
    exact kill_fwd (h.2 j u h2 h9) h3
theorem ref_set2 {L1 L2 : List pV} {i : Nat} {v : pV} (h : refL L2 L1) (hi : i + 1 < L1.length) : refL (setL2 L2 i v) (setL2 L1 i v) := by
  refine ⟨by rw [setL2_len, setL2_len]; exact h.1, fun j u hu h9 => ?_⟩
  rcases setL2_get hi hu h9 with ⟨rfl, rfl⟩ | ⟨h1, h1', h2, h3⟩
  · unfold setL2; rw [List.getElem?_set_ne (by omega), List.getElem?_set_self (by rw [kill_len, h.1]; omega)]
  · unfold setL2; rw [List.getElem?_set_ne (by omega), List.getElem?_set_ne (Ne.symm h1)]
    exact kill_fwd (h.2 j u h2 h9) h3
theorem wk_push {v : pV} {nx : Nat} : Wk (i_push v nx) := fun _ _ _ _ _ _ _ hr h => h _ hr
theorem wk_goto {nx : Nat} : Wk (i_goto nx) := fun _ _ _ _ _ _ _ hr h => h _ hr
theorem wk_new {ci N nx : Nat} : Wk (i_new ci N nx) := fun _ _ _ _ _ _ _ hr h => h _ hr
theorem wk_iload {i nx : Nat} : Wk (i_iload i nx) := fun _ _ _ _ _ _ _ hr ⟨x, a, k⟩ => ⟨x, hr.2 _ _ a (by simp), k _ hr⟩
theorem wk_lload {i nx : Nat} : Wk (i_lload i nx) := fun _ _ _ _ _ _ _ hr ⟨x, a, k⟩ => ⟨x, hr.2 _ _ a (by simp), k _ hr⟩
theorem wk_aload {i nx : Nat} : Wk (i_aload i nx) := fun _ _ _ _ _ _ _ hr ⟨n, x, a, b, c, k⟩ => ⟨n, x, hr.2 _ _ a c, b, c, k _ hr⟩
theorem wk_istore {i nx : Nat} : Wk (i_istore i nx) := fun _ _ _ _ _ _ _ hr ⟨x, S', a, b, k⟩ => ⟨x, S', a, by rw [hr.1]; exact b, k _ (ref_set hr b)⟩
theorem wk_lstore {i nx : Nat} : Wk (i_lstore i nx) := fun _ _ _ _ _ _ _ hr ⟨x, S', a, b, k⟩ => ⟨x, S', a, by rw [hr.1]; exact b, k _ (ref_set2 hr b)⟩
theorem wk_astore {i nx : Nat} : Wk (i_astore i nx) := fun _ _ _ _ _ _ _ hr ⟨n, x, S', a, b, c, f, k⟩ => ⟨n, x, S', a, b, c, by rw [hr.1]; exact f, k _ (ref_set hr f)⟩
theorem wk_iinc {i nx : Nat} {a : Int} : Wk (i_iinc i a nx) := fun _ _ _ _ _ _ _ hr ⟨x, a, k⟩ => ⟨x, hr.2 _ _ a (by simp), k _ (ref_set hr (List.getElem?_eq_some_iff.mp a).1)⟩
theorem wk_bin {f : Int → Int → Int} {nx : Nat} : Wk (i_bin f nx) := fun _ _ _ _ _ _ _ hr ⟨a, b, S', c, k⟩ => ⟨a, b, S', c, k _ hr⟩
theorem wk_div {f : Int → Int → Int} {nx : Nat} : Wk (i_div f nx) := fun _ _ _ _ _ _ _ hr ⟨a, b, S', c, f, k⟩ => ⟨a, b, S', c, f, k _ hr⟩
theorem wk_lbin {f : Int → Int → Int} {nx : Nat} : Wk (i_lbin f nx) := fun _ _ _ _ _ _ _ hr ⟨a, b, S', c, k⟩ => ⟨a, b, S', c, k _ hr⟩
theorem wk_lsh {f : Int → Int → Int} {nx : Nat} : Wk (i_lsh f nx) := fun _ _ _ _ _ _ _ hr ⟨a, b, S', c, k⟩ => ⟨a, b, S', c, k _ hr⟩
theorem wk_i2l {nx : Nat} : Wk (i_i2l nx) := fun _ _ _ _ _ _ _ hr ⟨a, S', c, k⟩ => ⟨a, S', c, k _ hr⟩
theorem wk_l2i {nx : Nat} : Wk (i_l2i nx) := fun _ _ _ _ _ _ _ hr ⟨a, S', c, k⟩ => ⟨a, S', c, k _ hr⟩
theorem wk_i2c {nx : Nat} : Wk (i_i2c nx) := fun _ _ _ _ _ _ _ hr ⟨a, S', c, k⟩ => ⟨a, S', c, k _ hr⟩
theorem wk_lcmp {nx : Nat} : Wk (i_lcmp nx) := fun _ _ _ _ _ _ _ hr ⟨a, b, S', c, k⟩ => ⟨a, b, S', c, k _ hr⟩
theorem wk_dup {nx : Nat} : Wk (i_dup nx) := fun _ _ _ _ _ _ _ hr ⟨a, S', c, f, k⟩ => ⟨a, S', c, f, k _ hr⟩
theorem wk_dup2 {nx : Nat} : Wk (i_dup2 nx) := fun _ _ _ _ _ _ _ hr ⟨a, b, S', c, f, g, k⟩ => ⟨a, b, S', c, f, g, k _ hr⟩
theorem wk_pop {nx : Nat} : Wk (i_pop nx) := fun _ _ _ _ _ _ _ hr ⟨a, S', c, f, k⟩ => ⟨a, S', c, f, k _ hr⟩
theorem wk_if {f : Int → Prop} {tg nx : Nat} : Wk (i_if f tg nx) := fun _ _ _ _ _ _ _ hr ⟨a, S', c, h1, h2⟩ => ⟨a, S', c, fun q => h1 q _ hr, fun q => h2 q _ hr⟩
theorem wk_ic {f : Int → Int → Prop} {tg nx : Nat} : Wk (i_ic f tg nx) := fun _ _ _ _ _ _ _ hr ⟨a, b, S', c, h1, h2⟩ => ⟨a, b, S', c, fun q => h1 q _ hr, fun q => h2 q _ hr⟩
theorem wk_tsw {lo : Int} {tb : List Nat} {df : Nat} : Wk (i_tsw lo tb df) := fun _ _ _ _ _ _ _ hr ⟨a, S', c, h1, h2⟩ => ⟨a, S', c, fun j tg x y => h1 j tg x y _ hr, fun q => h2 q _ hr⟩
theorem wk_lsw {tb : List (Int × Nat)} {df : Nat} : Wk (i_lsw tb df) := fun _ _ _ _ _ _ _ hr ⟨a, S', c, h1, h2⟩ => ⟨a, S', c, fun q x y => h1 q x y _ hr, fun q => h2 q _ hr⟩
theorem wk_geti {ci nx : Nat} {f : Int} : Wk (i_geti ci f nx) := fun _ _ _ _ _ _ _ hr ⟨o, z, n, S', a, b, c, f, k⟩ => ⟨o, z, n, S', a, b, c, f, k _ hr⟩
theorem wk_getl {ci nx : Nat} {f : Int} : Wk (i_getl ci f nx) := fun _ _ _ _ _ _ _ hr ⟨o, z, n, S', a, b, c, f, k⟩ => ⟨o, z, n, S', a, b, c, f, k _ hr⟩
theorem wk_getr {ci f nx : Nat} : Wk (i_getr ci f nx) := fun _ _ _ _ _ _ _ hr ⟨o, z, n, S', a, b, c, k⟩ => ⟨o, z, n, S', a, b, c, k _ hr⟩
theorem wk_puti {ci nx : Nat} {f : Int} : Wk (i_puti ci f nx) := fun _ _ _ _ _ _ _ hr ⟨x, o, z, n, S', a, b, c, f, k⟩ => ⟨x, o, z, n, S', a, b, c, f, k _ hr⟩
theorem wk_putl {ci nx : Nat} {f : Int} : Wk (i_putl ci f nx) := fun _ _ _ _ _ _ _ hr ⟨x, o, z, n, S', a, b, c, f, k⟩ => ⟨x, o, z, n, S', a, b, c, f, k _ hr⟩
theorem wk_putr {ci f nx : Nat} : Wk (i_putr ci f nx) := fun _ _ _ _ _ _ _ hr ⟨v, y, o, z, n, S', a, b, c, k⟩ => ⟨v, y, o, z, n, S', a, b, c, k _ hr⟩
theorem wk_ald {t kd nx : Nat} : Wk (i_ald t kd nx) := fun _ _ _ _ _ _ _ hr ⟨i, o, z, n, S', a, b, c, f, k⟩ => ⟨i, o, z, n, S', a, b, c, f, k _ hr⟩
theorem wk_ast {t kd nx : Nat} {f : Int → Int} : Wk (i_ast t kd f nx) := fun _ _ _ _ _ _ _ hr ⟨x, i, o, z, n, S', a, b, c, f, k⟩ => ⟨x, i, o, z, n, S', a, b, c, f, k _ hr⟩
theorem wk_alen {nx : Nat} : Wk (i_alen nx) := fun _ _ _ _ _ _ _ hr ⟨o, z, t, n, S', a, b, c, f, k⟩ => ⟨o, z, t, n, S', a, b, c, f, k _ hr⟩
theorem wk_inv {μ n nx : Nat} : Wk (i_inv μ n nx) := fun _ _ _ _ _ _ _ hr ⟨r1, w1, a, b, c, f, k⟩ => ⟨r1, w1, a, b, c, f, k _ hr⟩
theorem wk_invv {μ n ci nx : Nat} : Wk (i_invv μ n ci nx) := fun _ _ _ _ _ _ _ hr ⟨r1, w1, o, z, as, N, a, b, c, f, g, h, k⟩ => ⟨r1, w1, o, z, as, N, a, b, c, f, g, h, k _ hr⟩
theorem wk_invi {μ n nx : Nat} : Wk (i_invi μ n nx) := fun _ _ _ _ _ _ _ hr ⟨r1, w1, o, z, as, a, b, c, f, g, k⟩ => ⟨r1, w1, o, z, as, a, b, c, f, g, k _ hr⟩
theorem wk_iret : Wk i_iret := fun _ _ _ _ _ _ _ _ h => h
theorem wk_zret : Wk i_zret := fun _ _ _ _ _ _ _ _ h => h
theorem wk_lret : Wk i_lret := fun _ _ _ _ _ _ _ _ h => h
theorem wk_vret : Wk i_vret := fun _ _ _ _ _ _ _ _ h => h
theorem wk_thr : Wk i_thr := fun _ _ _ _ _ _ _ _ h => h
theorem wk_newa {tag nx : Nat} : Wk (i_newa tag nx) := fun _ _ _ _ _ _ _ hr ⟨n, S', a, b, k⟩ => ⟨n, S', a, b, k _ hr⟩
theorem wk_oinit {nx : Nat} : Wk (i_oinit nx) := fun _ _ _ _ _ _ _ hr ⟨o, z, S', a, b, k⟩ => ⟨o, z, S', a, b, k _ hr⟩
theorem wk_bad : Wk i_bad := fun _ _ _ _ _ _ _ _ h => h.elim
def WkC (code : Nat → Option pT) : Prop := ∀ pc t, code pc = some t → Wk t
theorem cm_ref {Φ : pC} {code : Nat → Option pT} {E : pE} {pc : Nat} {L S : List pV} {w : pW} (hw : WkC code) (h : pCm Φ code E pc L S w) : ∀ L2, refL L2 L → pCm Φ code E pc L2 S w := by
  intro L2 hr X hX
  refine h (fun pc L S w => ∀ L2, refL L2 L → X pc L2 S w) ?_ L2 hr
  intro pc L S w ⟨t, ht, k⟩ L2 hr
  exact hX _ _ _ _ ⟨t, ht, hw pc t ht Φ E L L2 S w X hr k⟩
def mask : List Nat → List pV → List pV
  | m :: ms, v :: vs => (if m = 0 then (9, 0) else v) :: mask ms vs
  | _, vs => vs
theorem mask_ref : ∀ (ms : List Nat) (L : List pV), refL L (mask ms L)
  | [], L => by unfold mask; exact ⟨rfl, fun _ _ h _ => h⟩
  | m :: ms, [] => by unfold mask; exact ⟨rfl, fun _ _ h _ => h⟩
  | m :: ms, v :: vs => by
    have ih := mask_ref ms vs
    unfold mask
    refine ⟨by simp [ih.1], fun j u hu h9 => ?_⟩
    cases j with
    | zero =>
      simp only [List.getElem?_cons_zero, Option.some.injEq] at hu ⊢
      split at hu
      · subst hu; exact absurd rfl h9
      · exact hu
    | succ j =>
      simp only [List.getElem?_cons_succ] at hu ⊢
      exact ih.2 j u hu h9
theorem fgt {Φ : pC} {code : Nat → Option pT} {E : pE} {pc : Nat} {L S : List pV} {w : pW} (hw : WkC code) (ms : List Nat) (h : pCm Φ code E pc (mask ms L) S w) : pCm Φ code E pc L S w := cm_ref hw h L (mask_ref ms L)

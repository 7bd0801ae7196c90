section PS
variable {p : Program} {l : Launch} {e : Env} {R : Room} {s : State} {m : MethodId} {args : Array Value} {below : List Frame} {meth : Method} {c : Code} {Q : State → Prop} {cc : ByteArray} {nL : Nat} {own : String} {g : pg} {A : Nat → Prop} {f : (Nat → Nat) × pW} {wE : pW} {k0 : Nat × Nat}
variable {Φ : pC} {E : pE} {pc nx : Nat} {L S : List pV} {w : pW}
theorem clampN {i : Int} (h : r32 i) (h0 : 0 ≤ i) : (((i32 i).toNatClampNeg : Nat) : Int) = i := by
  have hc : (i32 i).toNatClampNeg = (i32 i).toInt.toNat := rfl
  rw [hc, i32_toInt h]; omega
theorem vpin {i : Int} {n : Nat} (h : r32 i) (h0 : 0 ≤ i) (hn : i < n) : vp_in (i32 i) n := vp_in_iff.mpr (by rw [i32_toInt h]; exact ⟨h0, hn⟩)
theorem pCell_a {cA : Nat → ClassId} {ad : Nat → Nat} {z : Nat → Int → Nat} {t n k : Nat} (ht : t < 4) (h1 : t ≠ 1) : pCell cA ad z w k (t, n) = .inl (cA t, n, .inl (fun j => i32 (w.2.2 k j))) := by
  unfold pCell; rw [if_pos ht, if_neg h1]
theorem pCell_l {cA : Nat → ClassId} {ad : Nat → Nat} {z : Nat → Int → Nat} {n k : Nat} : pCell cA ad z w k (1, n) = .inl (cA 1, n, .inr (.inl (fun j => i64 (w.2.2 k j)))) := by
  unfold pCell; rw [if_pos (by simp), if_pos rfl]
theorem pkd_a {t n k j : Nat} (h : w.1[k]? = some (t, n)) (ht : t < 4) (h1 : t ≠ 1) : pkd w k j = 0 := by
  unfold pkd; rw [h]; simp only [ht, h1, if_true, if_false]
theorem pkd_l {n k j : Nat} (h : w.1[k]? = some (1, n)) : pkd w k j = 1 := by
  unfold pkd; rw [h]; simp
theorem r32_at {t n k : Nat} {i : Int} (h : w.1[k]? = some (t, n)) (ht : t < 4) (h1 : t ≠ 1) (h0 : 0 ≤ i) (q : pOkW w) : r32 (w.2.2 k i) := by
  have := (q k i.toNat).1 (pkd_a h ht h1)
  rwa [Int.toNat_of_nonneg h0] at this
theorem r64_at {n k : Nat} {i : Int} (h : w.1[k]? = some (1, n)) (h0 : 0 ≤ i) (q : pOkW w) : r64 (w.2.2 k i) := by
  have := (q k i.toNat).2.1 (pkd_l h)
  rwa [Int.toNat_of_nonneg h0] at this
/-- a load out of an array of ints, chars or booleans -/
theorem pX_ald {t : Nat} (ht : t < 4) (h1 : t ≠ 1) (hrow : ∀ (ad : Nat → Nat) (H : Heap) (locs : List Loc) (ls : Array Slot) (cells slots : Nat) (o n : Nat) (i : Int32) (rest : List Value) (F : Nat → Int32), va_P g.1 vwCl (pWs g.2.1 ad g.2.2 w) H → (pWs g.2.1 ad g.2.2 w)[o]? = some (ad o, .inl (g.2.1 t, n, .inl F)) → vp_in i n → W p l e R s m args below meth c H locs cells slots Q (F0 m (pc + 1) ls (.int (F i.toNatClampNeg) :: rest)) → W p l e R s m args below meth c H locs cells slots Q (F0 m pc ls (.int i :: .ref (ad o) :: rest))) :
    i_ald t 0 (pc + 1) Φ (pX p l e R s m args below meth c Q g nL A f wE k0) E L S w → pX p l e R s m args below meth c Q g nL A f wE k0 pc L S w := fun ⟨i, o, y, n, S', e, hs, h0, hn, h⟩ => by
  subst e
  refine ⟨h.1, fun ad H locs ls hi => ?_⟩
  obtain ⟨i1, i2, i3, i4, i5, i6, i7, i8, i9, i10⟩ := hi
  have hri := (ok_hd i5).1 rfl
  have k := h.2 ad H locs ls ⟨i1, i2, i3, i4, ok_cons (ok_i (r32_at hs ht h1 h0 i3)) (ok_tl (ok_tl i5)), i6, i7, i8, i9, i10⟩
  rw [List.map_cons, List.map_cons, cV_r, cV_0]
  refine hrow ad H locs ls _ _ o n (i32 i) _ (fun j => i32 (w.2.2 o j)) i8 ?_ (vpin hri h0 hn) ?_
  · rw [pWs_get hs, pCell_a ht h1]
  · rw [clampN hri h0]; exact k
theorem s_iald (C : pCtx p s m args c cc nL own g A) (d : decode cc pc = .ok (.iaload, 1)) : i_ald 0 0 (pc + 1) Φ (pX p l e R s m args below meth c Q g nL A f wE k0) E L S w → pX p l e R s m args below meth c Q g nL A f wE k0 pc L S w :=
  pX_ald (by omega) (by omega) (fun _ _ _ _ _ _ o n i _ F hP ha hin k => va_iald C.1 C.2.1 C.2.2.2.2.2.1 hP o 0 ha rfl hin d k)
theorem s_cald (C : pCtx p s m args c cc nL own g A) (d : decode cc pc = .ok (.caload, 1)) : i_ald 2 0 (pc + 1) Φ (pX p l e R s m args below meth c Q g nL A f wE k0) E L S w → pX p l e R s m args below meth c Q g nL A f wE k0 pc L S w :=
  pX_ald (by omega) (by omega) (fun _ _ _ _ _ _ o n i _ F hP ha hin k => va_cald C.1 C.2.1 C.2.2.2.2.2.1 hP o 2 ha rfl hin d k)
theorem s_zald (C : pCtx p s m args c cc nL own g A) (d : decode cc pc = .ok (.baload, 1)) : i_ald 3 0 (pc + 1) Φ (pX p l e R s m args below meth c Q g nL A f wE k0) E L S w → pX p l e R s m args below meth c Q g nL A f wE k0 pc L S w :=
  pX_ald (by omega) (by omega) (fun _ _ _ _ _ _ o n i _ F hP ha hin k => va_zald C.1 C.2.1 C.2.2.2.2.2.1 hP o 3 ha rfl hin d k)
theorem s_lald (C : pCtx p s m args c cc nL own g A) (d : decode cc pc = .ok (.laload, 1)) : i_ald 1 1 (pc + 1) Φ (pX p l e R s m args below meth c Q g nL A f wE k0) E L S w → pX p l e R s m args below meth c Q g nL A f wE k0 pc L S w := fun ⟨i, o, y, n, S', e, hs, h0, hn, h⟩ => by
  subst e
  refine ⟨h.1, fun ad H locs ls hi => ?_⟩
  obtain ⟨i1, i2, i3, i4, i5, i6, i7, i8, i9, i10⟩ := hi
  have hri := (ok_hd i5).1 rfl
  have k := h.2 ad H locs ls ⟨i1, i2, i3, i4, ok_cons (ok_l (r64_at hs h0 i3)) (ok_tl (ok_tl i5)), i6, i7, i8, i9, i10⟩
  rw [List.map_cons, List.map_cons, cV_r, cV_0]
  refine va_lald C.1 C.2.1 C.2.2.2.2.2.1 i8 o 1 (cA := g.2.1 1) (n := n) (f := fun j => i64 (w.2.2 o j)) (by rw [pWs_get hs, pCell_l]) rfl (vpin hri h0 hn) d ?_
  rw [clampN hri h0]; exact k
/-- a store into an array: what the world is then -/
theorem pX_ast {w' : pW} {S' : List pV} {t kd o n : Nat} {i x y : Int} (hs : w.1[o]? = some (t, n)) (h1 : w'.1 = w.1) (ho : ∀ k', k' ≠ o → (∀ j, w'.2.1 k' j = w.2.1 k' j) ∧ ∀ j, w'.2.2 k' j = w.2.2 k' j) (hok : pOkW w → okV w.1.length (kd, x) → pOkW w') (h : pX p l e R s m args below meth c Q g nL A f wE k0 (pc + 1) L S' w')
    (hrow : ∀ (ad : Nat → Nat) (H : Heap) (locs : List Loc) (ls : Array Slot) (cells slots : Nat), r32 i → va_P g.1 vwCl (pWs g.2.1 ad g.2.2 w) H → va_D A (pWs g.2.1 ad g.2.2 w) → va_S A s.heap H locs → (∀ (H1 : Heap) (locs1 : List Loc), va_P g.1 vwCl ((pWs g.2.1 ad g.2.2 w).set o (ad o, pCell g.2.1 ad g.2.2 w' o (t, n))) H1 → va_D A ((pWs g.2.1 ad g.2.2 w).set o (ad o, pCell g.2.1 ad g.2.2 w' o (t, n))) → va_S A s.heap H1 locs1 → W p l e R s m args below meth c H1 locs1 cells slots Q (F0 m (pc + 1) ls (S'.map (cV ad g.2.2)))) → W p l e R s m args below meth c H locs cells slots Q (F0 m pc ls (((kd, x) :: (0, i) :: (o + 16, y) :: S').map (cV ad g.2.2)))) :
    pX p l e R s m args below meth c Q g nL A f wE k0 pc L ((kd, x) :: (0, i) :: (o + 16, y) :: S') w := by
  have hc : nS w' = nS w := by unfold nS; rw [h1]
  refine ⟨by have := h.1; rw [h1, hc] at this; exact this, fun ad H locs ls hi => ?_⟩
  obtain ⟨i1, i2, i3, i4, i5, i6, i7, i8, i9, i10⟩ := hi
  have hX := h.2
  rw [h1, hc] at hX
  refine hrow ad H locs ls _ _ ((ok_hd (ok_tl i5)).1 rfl) i8 i9 i10 (fun H1 locs1 p1 p2 p3 => ?_)
  rw [pWs_set h1 hs ho] at p1 p2
  refine hX ad H1 locs1 ls ⟨i1, ?_, hok i3 (ok_hd i5), ?_, ?_, i6, i7, p1, p2, p3⟩
  · rw [h1, hc]; exact i2
  · rw [h1]; exact i4
  · rw [h1]; exact ok_tl (ok_tl (ok_tl i5))
theorem upd_i {σ : Nat → Int → Int} {o : Nat} {i v : Int} {x : Int32} (h : r32 i) (h0 : 0 ≤ i) (hv : i32 v = x) : upd (fun j : Nat => i32 (σ o j)) (i32 i).toNatClampNeg x = fun j : Nat => i32 (up2 σ o i v o j) := by
  funext j
  have hc := clampN h h0
  by_cases q : j = (i32 i).toNatClampNeg
  · have q2 : (j : Int) = i := by rw [q]; exact hc
    simp only [upd, q, if_true, up2, hc, and_self]; exact hv.symm
  · have q2 : ¬ (j : Int) = i := fun z => q (by omega)
    simp only [upd, q, if_false, up2, q2, and_false]
theorem upd_l {σ : Nat → Int → Int} {o : Nat} {i v : Int} {x : Int64} (h : r32 i) (h0 : 0 ≤ i) (hv : i64 v = x) : vp_updL (fun j : Nat => i64 (σ o j)) (i32 i).toNatClampNeg x = fun j : Nat => i64 (up2 σ o i v o j) := by
  funext j
  have hc := clampN h h0
  by_cases q : j = (i32 i).toNatClampNeg
  · have q2 : (j : Int) = i := by rw [q]; exact hc
    simp only [vp_updL, q, if_true, up2, hc, and_self]; exact hv.symm
  · have q2 : ¬ (j : Int) = i := fun z => q (by omega)
    simp only [vp_updL, q, if_false, up2, q2, and_false]
theorem s_iast (C : pCtx p s m args c cc nL own g A) (d : decode cc pc = .ok (.iastore, 1)) : i_ast 0 0 id (pc + 1) Φ (pX p l e R s m args below meth c Q g nL A f wE k0) E L S w → pX p l e R s m args below meth c Q g nL A f wE k0 pc L S w := fun ⟨x, i, o, y, n, S', e, hs, h0, hn, h⟩ => by
  subst e
  refine pX_ast (w' := (w.1, w.2.1, up2 w.2.2 o i (id x))) hs rfl (fun k' hk' => ⟨fun _ => rfl, up2_o hk'⟩) (fun q1 q2 => okW_up q1 (fun j _ => ⟨fun _ => q2.1 rfl, fun z => by rw [pkd_a hs (by omega) (by omega)] at z; cases z⟩)) h (fun ad H locs ls cells slots hri hP hD hS kk => ?_)
  rw [List.map_cons, List.map_cons, List.map_cons, cV_r, cV_0, cV_0]
  refine va_iast C.1 C.2.1 C.2.2.2.2.2.1 hP hD hS o 0 (by rw [pWs_get hs, pCell_a (by omega) (by omega)]) rfl (vpin hri h0 hn) d (fun H1 locs1 p1 p2 p3 => ?_)
  rw [upd_i (x := i32 x) hri h0 (v := id x) rfl] at p1 p2
  refine kk H1 locs1 ?_ ?_ p3 <;> (rw [pCell_a (by omega) (by omega)]; assumption)
theorem s_cast (C : pCtx p s m args c cc nL own g A) (d : decode cc pc = .ok (.castore, 1)) : i_ast 2 0 pNarC (pc + 1) Φ (pX p l e R s m args below meth c Q g nL A f wE k0) E L S w → pX p l e R s m args below meth c Q g nL A f wE k0 pc L S w := fun ⟨x, i, o, y, n, S', e, hs, h0, hn, h⟩ => by
  subst e
  refine pX_ast (w' := (w.1, w.2.1, up2 w.2.2 o i (pNarC x))) hs rfl (fun k' hk' => ⟨fun _ => rfl, up2_o hk'⟩) (fun q1 q2 => okW_up q1 (fun j _ => ⟨fun _ => r32_of _, fun z => by rw [pkd_a hs (by omega) (by omega)] at z; cases z⟩)) h (fun ad H locs ls cells slots hri hP hD hS kk => ?_)
  rw [List.map_cons, List.map_cons, List.map_cons, cV_r, cV_0, cV_0]
  refine va_cast C.1 C.2.1 C.2.2.2.2.2.1 hP hD hS o 2 (by rw [pWs_get hs, pCell_a (by omega) (by omega)]) rfl (vpin hri h0 hn) d (fun H1 locs1 p1 p2 p3 => ?_)
  rw [upd_i hri h0 (v := pNarC x) (i32_of _)] at p1 p2
  refine kk H1 locs1 ?_ ?_ p3 <;> (rw [pCell_a (by omega) (by omega)]; assumption)
theorem s_zast (C : pCtx p s m args c cc nL own g A) (d : decode cc pc = .ok (.bastore, 1)) : i_ast 3 0 pNarZ (pc + 1) Φ (pX p l e R s m args below meth c Q g nL A f wE k0) E L S w → pX p l e R s m args below meth c Q g nL A f wE k0 pc L S w := fun ⟨x, i, o, y, n, S', e, hs, h0, hn, h⟩ => by
  subst e
  refine pX_ast (w' := (w.1, w.2.1, up2 w.2.2 o i (pNarZ x))) hs rfl (fun k' hk' => ⟨fun _ => rfl, up2_o hk'⟩) (fun q1 q2 => okW_up q1 (fun j _ => ⟨fun _ => r32_of _, fun z => by rw [pkd_a hs (by omega) (by omega)] at z; cases z⟩)) h (fun ad H locs ls cells slots hri hP hD hS kk => ?_)
  rw [List.map_cons, List.map_cons, List.map_cons, cV_r, cV_0, cV_0]
  refine va_zast C.1 C.2.1 C.2.2.2.2.2.1 hP hD hS o 3 (by rw [pWs_get hs, pCell_a (by omega) (by omega)]) rfl (vpin hri h0 hn) d (fun H1 locs1 p1 p2 p3 => ?_)
  rw [upd_i hri h0 (v := pNarZ x) (i32_of _)] at p1 p2
  refine kk H1 locs1 ?_ ?_ p3 <;> (rw [pCell_a (by omega) (by omega)]; assumption)
theorem s_last (C : pCtx p s m args c cc nL own g A) (d : decode cc pc = .ok (.lastore, 1)) : i_ast 1 1 id (pc + 1) Φ (pX p l e R s m args below meth c Q g nL A f wE k0) E L S w → pX p l e R s m args below meth c Q g nL A f wE k0 pc L S w := fun ⟨x, i, o, y, n, S', e, hs, h0, hn, h⟩ => by
  subst e
  refine pX_ast (w' := (w.1, w.2.1, up2 w.2.2 o i (id x))) hs rfl (fun k' hk' => ⟨fun _ => rfl, up2_o hk'⟩) (fun q1 q2 => okW_up q1 (fun j _ => ⟨(fun z => by rw [pkd_l hs] at z; cases z), fun _ => q2.2.1 rfl⟩)) h (fun ad H locs ls cells slots hri hP hD hS kk => ?_)
  rw [List.map_cons, List.map_cons, List.map_cons, cV_r, cV_0, cV_1]
  refine va_last C.1 C.2.1 C.2.2.2.2.2.1 hP hD hS o 1 (by rw [pWs_get hs, pCell_l]) rfl (vpin hri h0 hn) d (fun H1 locs1 p1 p2 p3 => ?_)
  rw [upd_l (x := i64 x) hri h0 (v := id x) rfl] at p1 p2
  refine kk H1 locs1 ?_ ?_ p3 <;> (rw [pCell_l]; assumption)
theorem i32_nat {n : Nat} : Int32.ofNat n = i32 n := by
  apply Int32.toBitVec_inj.mp
  show BitVec.ofNat 32 n = BitVec.ofInt 32 n
  rw [BitVec.ofInt_natCast]
theorem s_alen (C : pCtx p s m args c cc nL own g A) (d : decode cc pc = .ok (.arraylength, 1)) : i_alen (pc + 1) Φ (pX p l e R s m args below meth c Q g nL A f wE k0) E L S w → pX p l e R s m args below meth c Q g nL A f wE k0 pc L S w := fun ⟨o, y, t, n, S', e, hs, ht, hn, h⟩ => by
  subst e
  refine ⟨h.1, fun ad H locs ls hi => ?_⟩
  obtain ⟨i1, i2, i3, i4, i5, i6, i7, i8, i9, i10⟩ := hi
  have k := h.2 ad H locs ls ⟨i1, i2, i3, i4, ok_cons (ok_i (by unfold r32; omega)) (ok_tl i5), i6, i7, i8, i9, i10⟩
  rw [List.map_cons, cV_r]
  by_cases h1 : t = 1
  · subst h1
    exact va_alen C.1 C.2.1 C.2.2.2.2.2.1 i8 o 1 (cA := g.2.1 1) (x := (n, .inr (.inl (fun j => i64 (w.2.2 o j))))) (by rw [pWs_get hs, pCell_l]) (ty := .long) rfl (v := i32 n) i32_nat d k
  · rcases (show t = 0 ∨ t = 2 ∨ t = 3 by omega) with rfl | rfl | rfl
    · exact va_alen C.1 C.2.1 C.2.2.2.2.2.1 i8 o 0 (cA := g.2.1 0) (x := (n, .inl (fun j => i32 (w.2.2 o j)))) (by rw [pWs_get hs, pCell_a (by omega) (by omega)]) (ty := .int) rfl (v := i32 n) i32_nat d k
    · exact va_alen C.1 C.2.1 C.2.2.2.2.2.1 i8 o 2 (cA := g.2.1 2) (x := (n, .inl (fun j => i32 (w.2.2 o j)))) (by rw [pWs_get hs, pCell_a (by omega) (by omega)]) (ty := .char) rfl (v := i32 n) i32_nat d k
    · exact va_alen C.1 C.2.1 C.2.2.2.2.2.1 i8 o 3 (cA := g.2.1 3) (x := (n, .inl (fun j => i32 (w.2.2 o j)))) (by rw [pWs_get hs, pCell_a (by omega) (by omega)]) (ty := .boolean) rfl (v := i32 n) i32_nat d k
theorem s_oinit (C : pCtx p s m args c cc nL own g A) {ix : Nat} (hml : Cond.methodLink own ix objectInit ∈ pTb) (him : Cond.instanceMethod objectInit ∈ pTb) (hco : Cond.code objectInit ⟨#[0xb1]⟩ 1 none ∈ pTb) (hR : 1 ≤ R.frames ∧ 20 ≤ R.locals) (d : decode cc pc = .ok (.invokespecial ix, 3)) : i_oinit (pc + 3) Φ (pX p l e R s m args below meth c Q g nL A f wE k0) E L S w → pX p l e R s m args below meth c Q g nL A f wE k0 pc L S w := fun ⟨o, y, S', e, h8, h⟩ => by
  subst e
  refine ⟨h.1, fun ad H locs ls hi => ?_⟩
  obtain ⟨i1, i2, i3, i4, i5, i6, i7, i8, i9, i10⟩ := hi
  have k := h.2 ad H locs ls ⟨i1, i2, i3, i4, ok_tl i5, i6, i7, i8, i9, i10⟩
  rw [List.map_cons, cV_r]
  refine W.objInit C.1 C.2.1 C.2.2.2.1 (C.2.2.2.2.1 _ hml) (C.2.2.2.2.1 _ him) (C.2.2.2.2.1 _ hco) rfl (by rw [C.2.2.1, ← i6]; exact i7.1) rfl d hR.1 ?_ k
  have e1 : (List.map (fun v => v.category) (S'.map (cV ad g.2.2))).sum = (S'.map cat).sum := by rw [List.map_map]; congr 1; exact List.map_congr_left (fun v _ => cV_cat v)
  rw [e1]; show 2 * 0 + _ + 12 ≤ _; omega
end PS

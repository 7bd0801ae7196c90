section PS
variable {p : Program} {l : Launch} {e : Env} {R : Room} {s : State} {m : MethodId} {args : Array Value} {below : List Frame} {meth : Method} {c : Code} {Q : State → Prop} {cc : ByteArray} {nL : Nat} {own : String} {g : pg} {A : Nat → Prop} {f : (Nat → Nat) × pW} {wE : pW} {k0 : Nat × Nat}
variable {Φ : pC} {E : pE} {pc nx : Nat} {L S : List pV} {w : pW}
-- switches
theorem s_tsw (C : pCtx p s m args c cc nL own g A) {lo hi dflt : Int} {offs : Array Int} {tb : List Nat} {df len : Nat} (d : decode cc pc = .ok (.tableswitch dflt lo hi offs, len)) (hd : (pc : Int) + dflt = (df : Int)) (hh : hi + 1 = lo + tb.length) (ht : offs.toList.map (fun o => (pc : Int) + o) = tb.map (fun t : Nat => (t : Int))) : i_tsw lo tb df Φ (pX p l e R s m args below meth c Q g nL A f wE k0) E L S w → pX p l e R s m args below meth c Q g nL A f wE k0 pc L S w := fun ⟨a, S', e, h1, h2⟩ => by
  subst e
  by_cases q : a < lo ∨ lo + tb.length ≤ a
  · refine pX_st (h2 q) (fun _ hs => ok_tl hs) (fun _ _ _ _ _ _ _ hs _ _ _ k => ?_)
    have ha := i32_toInt ((ok_hd hs).1 rfl)
    exact lv_tableOut C.1 C.2.1 d (by rw [ha]; rcases q with q | q; exact Or.inl q; exact Or.inr (by show hi < a; omega)) hd k
  · have hj : ∃ j : Nat, j < tb.length ∧ a = lo + j := ⟨(a - lo).toNat, by omega, by omega⟩
    obtain ⟨j, hj, ea⟩ := hj
    refine pX_st (h1 j _ (List.getElem?_eq_getElem hj) ea) (fun _ hs => ok_tl hs) (fun _ _ _ _ _ _ _ hs _ _ _ k => ?_)
    have ha : (i32 a).toInt = a := i32_toInt ((ok_hd hs).1 rfl)
    have hl : offs.toList.length = tb.length := by have := congrArg List.length ht; simpa using this
    have hjo : j < offs.toList.length := by omega
    have e1 : (offs.toList.map (fun o => (pc : Int) + o))[j]? = (tb.map (fun t : Nat => (t : Int)))[j]? := by rw [ht]
    rw [List.getElem?_map, List.getElem?_map, List.getElem?_eq_getElem hj, List.getElem?_eq_getElem hjo] at e1
    refine lv_tableIn C.1 C.2.1 d (off := offs.toList[j]) (tgt := tb[j]) (by show ¬ (i32 a).toInt < lo; rw [ha]; omega) (by show ¬ hi < (i32 a).toInt; rw [ha]; omega) ?_ ?_ k
    · show offs[((i32 a).toInt - lo).toNat]? = _
      rw [ha, show (a - lo).toNat = j by omega, ← Array.getElem?_toList]
      exact List.getElem?_eq_getElem hjo
    · simpa using e1
theorem lsw_off {ps : List (Int × Int)} {dflt x : Int} : (∃ q ∈ ps, x = q.1 ∧ Op.lookupswitch.offset ps dflt x = q.2) ∨ ((∀ q ∈ ps, x ≠ q.1) ∧ Op.lookupswitch.offset ps dflt x = dflt) := by
  induction ps with
  | nil => exact Or.inr ⟨fun q h => by simp at h, rfl⟩
  | cons a t ih =>
    by_cases hx : a.1 = x
    · exact Or.inl ⟨a, List.mem_cons_self, hx.symm, by simp [Op.lookupswitch.offset, hx]⟩
    · rcases ih with ⟨q, h1, h2, h3⟩ | ⟨h1, h2⟩
      · exact Or.inl ⟨q, List.mem_cons_of_mem _ h1, h2, by simp [Op.lookupswitch.offset, hx]; exact h3⟩
      · refine Or.inr ⟨fun q hq => ?_, by simp [Op.lookupswitch.offset, hx]; exact h2⟩
        rcases List.mem_cons.mp hq with rfl | hq
        · exact fun z => hx z.symm
        · exact h1 q hq
theorem s_lsw (C : pCtx p s m args c cc nL own g A) {dflt : Int} {ps : Array (Int × Int)} {tb : List (Int × Nat)} {df len : Nat} (d : decode cc pc = .ok (.lookupswitch dflt ps, len)) (hp : (ps.toList.zip (ps.toList.drop 1)).all (fun (a, next) => a.1 < next.1) = true) (hd : (pc : Int) + dflt = (df : Int)) (ht : ps.toList.map (fun q => (q.1, (pc : Int) + q.2)) = tb.map (fun q => (q.1, (q.2 : Int)))) : i_lsw tb df Φ (pX p l e R s m args below meth c Q g nL A f wE k0) E L S w → pX p l e R s m args below meth c Q g nL A f wE k0 pc L S w := fun ⟨a, S', e, h1, h2⟩ => by
  subst e
  rcases lsw_off (ps := ps.toList) (dflt := dflt) (x := a) with ⟨q, hq, hx, ho⟩ | ⟨hq, ho⟩
  · have hm : (q.1, (pc : Int) + q.2) ∈ tb.map (fun q => (q.1, (q.2 : Int))) := by rw [← ht]; exact List.mem_map.mpr ⟨q, hq, rfl⟩
    obtain ⟨q', hq', e'⟩ := List.mem_map.mp hm
    have e1 : q'.1 = q.1 := congrArg Prod.fst e'
    have e2 : (q'.2 : Int) = (pc : Int) + q.2 := congrArg Prod.snd e'
    refine pX_st (h1 q' hq' (hx.trans e1.symm)) (fun _ hs => ok_tl hs) (fun _ _ _ _ _ _ _ hs _ _ _ k => ?_)
    have ha : (i32 a).toInt = a := i32_toInt ((ok_hd hs).1 rfl)
    exact lv_lookup C.1 C.2.1 d hp (off := q.2) (tgt := q'.2) (by show Op.lookupswitch.offset ps.toList dflt (i32 a).toInt = _; rw [ha]; exact ho) e2.symm k
  · refine pX_st (h2 (fun q' hq' e' => ?_)) (fun _ hs => ok_tl hs) (fun _ _ _ _ _ _ _ hs _ _ _ k => ?_)
    · have hm : (q'.1, (q'.2 : Int)) ∈ ps.toList.map (fun q => (q.1, (pc : Int) + q.2)) := by rw [ht]; exact List.mem_map.mpr ⟨q', hq', rfl⟩
      obtain ⟨q, hq2, e2⟩ := List.mem_map.mp hm
      exact hq q hq2 (e'.trans (congrArg Prod.fst e2).symm)
    · have ha : (i32 a).toInt = a := i32_toInt ((ok_hd hs).1 rfl)
      exact lv_lookup C.1 C.2.1 d hp (off := dflt) (tgt := df) (by show Op.lookupswitch.offset ps.toList dflt (i32 a).toInt = _; rw [ha]; exact ho) hd k
-- fields
def pCls (ci : Nat) (Cn : String) (T : u_T) (N : Nat) : Prop := vwCl[ci]? = some (Cn, T, N) ∧ (∀ w ∈ u_ws Cn T N, w ∈ pTb) ∧ (∀ k, k < N → parseFieldDescriptor (T k).2.2.1 = some (tyOf ci k)) ∧ ∀ a, a < N → ∀ b, b < N → a ≠ b → (T a).2.1 ≠ (T b).2.1
theorem pF_i {ci j : Nat} (h : pF ci j = 0) : tyOf ci j = .int := by
  unfold pF at h
  split at h
  · assumption
  · cases h
  · cases h
theorem pF_l {ci j : Nat} (h : pF ci j = 1) : tyOf ci j = .long := by
  unfold pF at h
  split at h
  · cases h
  · assumption
  · cases h
theorem pkd_o {ci o n j : Nat} (h : w.1[o]? = some (ci + 4, n)) : pkd w o j = pF ci j := by
  unfold pkd
  rw [h]
  simp only [show ¬ ci + 4 < 4 by omega, if_false, Nat.add_sub_cancel]
theorem pCell_o {cA : Nat → ClassId} {ad : Nat → Nat} {z : Nat → Int → Nat} {ci n k : Nat} : pCell cA ad z w k (ci + 4, n) = .inr (ci, (List.range n).map (fun j => fV ad z w ci k j)) := by
  unfold pCell
  simp only [show ¬ ci + 4 < 4 by omega, if_false, Nat.add_sub_cancel]
theorem fV_get {ad : Nat → Nat} {z : Nat → Int → Nat} {ci k n j : Nat} (h : j < n) : ((List.range n).map (fun j => fV ad z w ci k j))[j]? = some (fV ad z w ci k j) := by
  rw [List.getElem?_map, List.getElem?_range h]; rfl
theorem s_geti (C : pCtx p s m args c cc nL own g A) {ci fk ix N : Nat} {Cn : String} {T : u_T} (K : pCls ci Cn T N) (hk : fk < N) (hl : Cond.fieldLink own ix (T fk).1 (T fk).2.1 (T fk).2.2.1 ∈ pTb) (hF : pF ci fk = 0) (d : decode cc pc = .ok (.getfield ix, 3)) : i_geti ci fk (pc + 3) Φ (pX p l e R s m args below meth c Q g nL A f wE k0) E L S w → pX p l e R s m args below meth c Q g nL A f wE k0 pc L S w := fun ⟨o, y, n, S', e, hs, h0, hn, h⟩ => by
  subst e
  have hr : pOkW w → r32 (w.2.2 o fk) := fun q => (q o fk).1 ((pkd_o hs).trans hF)
  refine ⟨h.1, fun ad H locs ls hi => ?_⟩
  obtain ⟨i1, i2, i3, i4, i5, i6, i7, i8, i9, i10⟩ := hi
  have k := h.2 ad H locs ls ⟨i1, i2, i3, i4, ok_cons (ok_i (hr i3)) (ok_tl i5), i6, i7, i8, i9, i10⟩
  rw [List.map_cons, cV_r]
  refine va_get (D := g.1) (ci := ci) (C := Cn) (T := T) (N := N) (k := fk) (v := .int (i32 (w.2.2 o fk))) C.1 C.2.1 C.2.2.2.2.1 K.2.1 C.2.2.2.1 C.2.2.2.2.2.1 i8 o (fs := (List.range n).map (fun j => fV ad g.2.2 w ci o j)) ?_ K.1 hk (C.2.2.2.2.1 _ hl) (fun _ q => q) ?_ d k
  · rw [pWs_get hs, pCell_o]
  · rw [fV_get (by omega)]; simp [fV, hF]
theorem s_getl (C : pCtx p s m args c cc nL own g A) {ci fk ix N : Nat} {Cn : String} {T : u_T} (K : pCls ci Cn T N) (hk : fk < N) (hl : Cond.fieldLink own ix (T fk).1 (T fk).2.1 (T fk).2.2.1 ∈ pTb) (hF : pF ci fk = 1) (d : decode cc pc = .ok (.getfield ix, 3)) : i_getl ci fk (pc + 3) Φ (pX p l e R s m args below meth c Q g nL A f wE k0) E L S w → pX p l e R s m args below meth c Q g nL A f wE k0 pc L S w := fun ⟨o, y, n, S', e, hs, h0, hn, h⟩ => by
  subst e
  have hr : pOkW w → r64 (w.2.2 o fk) := fun q => (q o fk).2.1 ((pkd_o hs).trans hF)
  refine ⟨h.1, fun ad H locs ls hi => ?_⟩
  obtain ⟨i1, i2, i3, i4, i5, i6, i7, i8, i9, i10⟩ := hi
  have k := h.2 ad H locs ls ⟨i1, i2, i3, i4, ok_cons (ok_l (hr i3)) (ok_tl i5), i6, i7, i8, i9, i10⟩
  rw [List.map_cons, cV_r]
  refine va_get (D := g.1) (ci := ci) (C := Cn) (T := T) (N := N) (k := fk) (v := .long (i64 (w.2.2 o fk))) C.1 C.2.1 C.2.2.2.2.1 K.2.1 C.2.2.2.1 C.2.2.2.2.2.1 i8 o (fs := (List.range n).map (fun j => fV ad g.2.2 w ci o j)) ?_ K.1 hk (C.2.2.2.2.1 _ hl) (fun _ q => q) ?_ d k
  · rw [pWs_get hs, pCell_o]
  · rw [fV_get (by omega)]; simp [fV, hF]
theorem ok_rf {o j : Nat} (h : pOkW w) : okV w.1.length (w.2.1 o j, 0) := ⟨fun q => absurd q (by have := (h o j).2.2.1; simp only; omega), fun q => absurd q (by have := (h o j).2.2.1; simp only; omega), fun q => (h o j).2.2.2 q⟩
theorem s_getr (C : pCtx p s m args c cc nL own g A) {ci fk ix N : Nat} {Cn : String} {T : u_T} (K : pCls ci Cn T N) (hk : fk < N) (hl : Cond.fieldLink own ix (T fk).1 (T fk).2.1 (T fk).2.2.1 ∈ pTb) (hF : pF ci fk = 2) (d : decode cc pc = .ok (.getfield ix, 3)) : i_getr ci fk (pc + 3) Φ (pX p l e R s m args below meth c Q g nL A f wE k0) E L S w → pX p l e R s m args below meth c Q g nL A f wE k0 pc L S w := fun ⟨o, y, n, S', e, hs, hn, h⟩ => by
  subst e
  refine ⟨h.1, fun ad H locs ls hi => ?_⟩
  obtain ⟨i1, i2, i3, i4, i5, i6, i7, i8, i9, i10⟩ := hi
  have k := h.2 ad H locs ls ⟨i1, i2, i3, i4, ok_cons (ok_rf i3) (ok_tl i5), i6, i7, i8, i9, i10⟩
  rw [List.map_cons, cV_r]
  refine va_get (D := g.1) (ci := ci) (C := Cn) (T := T) (N := N) (k := fk) (v := cV ad g.2.2 (w.2.1 o fk, 0)) C.1 C.2.1 C.2.2.2.2.1 K.2.1 C.2.2.2.1 C.2.2.2.2.2.1 i8 o (fs := (List.range n).map (fun j => fV ad g.2.2 w ci o j)) ?_ K.1 hk (C.2.2.2.2.1 _ hl) (fun _ q => q) ?_ d k
  · rw [pWs_get hs, pCell_o]
  · rw [fV_get hn]; simp [fV, hF]
theorem pkd_up {σ : Nat → Int → Int} {k j : Nat} : pkd (w.1, w.2.1, σ) k j = pkd w k j := rfl
theorem okW_up {o : Nat} {i v : Int} (h : pOkW w) (hv : ∀ j : Nat, (j : Int) = i → (pkd w o j = 0 → r32 v) ∧ (pkd w o j = 1 → r64 v)) : pOkW (w.1, w.2.1, up2 w.2.2 o i v) := by
  intro k j
  rw [pkd_up]
  obtain ⟨h1, h2, h3⟩ := h k j
  by_cases q : k = o ∧ (j : Int) = i
  · obtain ⟨rfl, q2⟩ := q
    refine ⟨fun z => ?_, fun z => ?_, h3⟩
    · show r32 (up2 w.2.2 k i v k j); simp only [up2, q2, and_self, if_true]; exact (hv j q2).1 z
    · show r64 (up2 w.2.2 k i v k j); simp only [up2, q2, and_self, if_true]; exact (hv j q2).2 z
  · refine ⟨fun z => ?_, fun z => ?_, h3⟩
    · show r32 (up2 w.2.2 o i v k j); simp only [up2, q, if_false]; exact h1 z
    · show r64 (up2 w.2.2 o i v k j); simp only [up2, q, if_false]; exact h2 z
theorem up2_o {ι α : Type} [DecidableEq ι] {F : Nat → ι → α} {o k' : Nat} {i : ι} {v : α} (h : k' ≠ o) (j : ι) : up2 F o i v k' j = F k' j := by simp [up2, h]
theorem fs_set {ad : Nat → Nat} {z : Nat → Int → Nat} {w' : pW} {ci o n fk : Nat} {v : Value} (hv : fV ad z w' ci o fk = v) (ho : ∀ j, j ≠ fk → fV ad z w' ci o j = fV ad z w ci o j) : ((List.range n).map (fun j => fV ad z w ci o j)).set fk v = (List.range n).map (fun j => fV ad z w' ci o j) := by
  apply List.ext_getElem?
  intro j
  by_cases hj : j < n
  · by_cases q : fk = j
    · subst q
      rw [List.getElem?_set_self (by simp; exact hj), fV_get hj, hv]
    · rw [List.getElem?_set_ne q, fV_get hj, fV_get hj, ho j (Ne.symm q)]
  · rw [List.getElem?_eq_none_iff.mpr (by simp; omega), List.getElem?_eq_none_iff.mpr (by simp; omega)]
/-- a field is set: what the world is then -/
theorem pX_put (C : pCtx p s m args c cc nL own g A) {w' : pW} {S' : List pV} {ci fk ix N o n : Nat} {y : Int} {v : pV} {Cn : String} {T : u_T} (K : pCls ci Cn T N) (hk : fk < N) (hl : Cond.fieldLink own ix (T fk).1 (T fk).2.1 (T fk).2.2.1 ∈ pTb)
    (hfin : (T fk).2.2.2 = false ∨ ((T fk).2.2.2 = true ∧ meth.name = "<init>" ∧ (T fk).1 = own)) (d : decode cc pc = .ok (.putfield ix, 3)) (hs : w.1[o]? = some (ci + 4, n)) (hn : fk < n) (h : pX p l e R s m args below meth c Q g nL A f wE k0 (pc + 3) L S' w') (h1 : w'.1 = w.1) (ho : ∀ k', k' ≠ o → (∀ j, w'.2.1 k' j = w.2.1 k' j) ∧ ∀ j, w'.2.2 k' j = w.2.2 k' j)
    (hok : pOkW w → okV w.1.length v → pOkW w') (hv : ∀ ad, fV ad g.2.2 w' ci o fk = cV ad g.2.2 v) (hj : ∀ ad j, j ≠ fk → fV ad g.2.2 w' ci o j = fV ad g.2.2 w ci o j)
    (hnar : ∀ ad, narrow (tyOf ci fk) (cV ad g.2.2 v) = cV ad g.2.2 v) (hfit : ∀ ad, fits (tyOf ci fk) (cV ad g.2.2 v) = true) : pX p l e R s m args below meth c Q g nL A f wE k0 pc L (v :: (o + 16, y) :: S') w := by
  have hc : nS w' = nS w := by unfold nS; rw [h1]
  refine ⟨by have := h.1; rw [h1, hc] at this; exact this, fun ad H locs ls hi => ?_⟩
  obtain ⟨i1, i2, i3, i4, i5, i6, i7, i8, i9, i10⟩ := hi
  have hX := h.2
  rw [h1, hc] at hX
  rw [List.map_cons, List.map_cons, cV_r]
  have hset : (pWs g.2.1 ad g.2.2 w).set o (ad o, .inr (ci, ((List.range n).map (fun j => fV ad g.2.2 w ci o j)).set fk (cV ad g.2.2 v))) = pWs g.2.1 ad g.2.2 w' := by
    rw [fs_set (w' := w') (hv ad) (hj ad), ← pCell_o (cA := g.2.1), pWs_set h1 hs ho]
  have he : (pWs g.2.1 ad g.2.2 w)[o]? = some (ad o, .inr (ci, (List.range n).map (fun j => fV ad g.2.2 w ci o j))) := by rw [pWs_get hs, pCell_o]
  have fin : ∀ (H1 : Heap) (locs1 : List Loc), va_P g.1 vwCl ((pWs g.2.1 ad g.2.2 w).set o (ad o, .inr (ci, ((List.range n).map (fun j => fV ad g.2.2 w ci o j)).set fk (cV ad g.2.2 v)))) H1 → va_D A ((pWs g.2.1 ad g.2.2 w).set o (ad o, .inr (ci, ((List.range n).map (fun j => fV ad g.2.2 w ci o j)).set fk (cV ad g.2.2 v)))) → va_S A s.heap H1 locs1 → W p l e R s m args below meth c H1 locs1 (w.1.length - f.2.1.length + k0.1) (nS w - nS f.2 + k0.2) Q (F0 m (pc + 3) ls (S'.map (cV ad g.2.2))) := by
    intro H1 locs1 p1 p2 p3
    rw [hset] at p1 p2
    refine hX ad H1 locs1 ls ⟨i1, ?_, hok i3 (ok_hd i5), ?_, ?_, i6, i7, p1, p2, p3⟩
    · rw [h1, hc]; exact i2
    · rw [h1]; exact i4
    · rw [h1]; exact ok_tl (ok_tl i5)
  rcases hfin with hfin | ⟨hfin, hin2, hdecl⟩
  · exact va_put (D := g.1) (ci := ci) (C := Cn) (T := T) (N := N) (k := fk) (ty := tyOf ci fk) C.1 C.2.1 C.2.2.2.2.1 K.2.1 (tyOf ci) K.2.2.1 K.2.2.2 C.2.2.2.1 C.2.2.2.2.2.1 i8 i9 i10 o he K.1 hk (C.2.2.2.2.1 _ hl) (fun _ q => q) hfin (K.2.2.1 fk hk) (hnar ad) (hfit ad) (by simp; exact hn) d fin
  · exact va_putF (D := g.1) (ci := ci) (C := Cn) (T := T) (N := N) (k := fk) (ty := tyOf ci fk) C.1 C.2.1 C.2.2.2.2.1 K.2.1 (tyOf ci) K.2.2.1 K.2.2.2 C.2.2.2.1 C.2.2.2.2.2.1 i8 i9 i10 o he K.1 hk (C.2.2.2.2.1 _ hl) (fun _ q => q) hfin hin2 hdecl (K.2.2.1 fk hk) (hnar ad) (hfit ad) (by simp; exact hn) d fin
theorem s_puti (C : pCtx p s m args c cc nL own g A) {ci fk ix N : Nat} {Cn : String} {T : u_T} (K : pCls ci Cn T N) (hk : fk < N) (hl : Cond.fieldLink own ix (T fk).1 (T fk).2.1 (T fk).2.2.1 ∈ pTb) (hfin : (T fk).2.2.2 = false) (hF : pF ci fk = 0) (d : decode cc pc = .ok (.putfield ix, 3)) : i_puti ci fk (pc + 3) Φ (pX p l e R s m args below meth c Q g nL A f wE k0) E L S w → pX p l e R s m args below meth c Q g nL A f wE k0 pc L S w := fun ⟨x, o, y, n, S', e, hs, h0, hn, h⟩ => by
  subst e
  refine pX_put C K hk hl (Or.inl hfin) d hs (by omega) h rfl (fun k' hk' => ⟨fun _ => rfl, up2_o hk'⟩) (fun q1 q2 => okW_up q1 (fun j hj => ⟨fun _ => q2.1 rfl, fun z => ?_⟩)) (fun ad => ?_) (fun ad j hj => ?_) (fun ad => ?_) (fun ad => ?_)
  · rw [pkd_o hs, show j = fk by omega, hF] at z; cases z
  · simp [fV, hF, up2, cV]
  · have hj' : ¬ (j : Int) = fk := by omega
    simp [fV, up2, hj']
  · rw [pF_i hF]; rfl
  · rw [pF_i hF]; rfl
theorem s_putl (C : pCtx p s m args c cc nL own g A) {ci fk ix N : Nat} {Cn : String} {T : u_T} (K : pCls ci Cn T N) (hk : fk < N) (hl : Cond.fieldLink own ix (T fk).1 (T fk).2.1 (T fk).2.2.1 ∈ pTb) (hfin : (T fk).2.2.2 = false) (hF : pF ci fk = 1) (d : decode cc pc = .ok (.putfield ix, 3)) : i_putl ci fk (pc + 3) Φ (pX p l e R s m args below meth c Q g nL A f wE k0) E L S w → pX p l e R s m args below meth c Q g nL A f wE k0 pc L S w := fun ⟨x, o, y, n, S', e, hs, h0, hn, h⟩ => by
  subst e
  refine pX_put C K hk hl (Or.inl hfin) d hs (by omega) h rfl (fun k' hk' => ⟨fun _ => rfl, up2_o hk'⟩) (fun q1 q2 => okW_up q1 (fun j hj => ⟨fun z => ?_, fun _ => q2.2.1 rfl⟩)) (fun ad => ?_) (fun ad j hj => ?_) (fun ad => ?_) (fun ad => ?_)
  · rw [pkd_o hs, show j = fk by omega, hF] at z; cases z
  · simp [fV, hF, up2, cV]
  · have hj' : ¬ (j : Int) = fk := by omega
    simp [fV, up2, hj']
  · rw [pF_l hF]; rfl
  · rw [pF_l hF]; rfl
theorem okW_upr {o fk v : Nat} (h : pOkW w) (h2 : 2 ≤ v) (hv : 16 ≤ v → v < w.1.length + 16) : pOkW (w.1, up2 w.2.1 o fk v, w.2.2) := by
  intro k j
  obtain ⟨h1, h3, h4⟩ := h k j
  refine ⟨h1, h3, ?_⟩
  show 2 ≤ up2 w.2.1 o fk v k j ∧ (16 ≤ up2 w.2.1 o fk v k j → up2 w.2.1 o fk v k j < w.1.length + 16)
  by_cases q : k = o ∧ j = fk
  · simp only [up2, q, and_self, if_true]; exact ⟨h2, hv⟩
  · simp only [up2, q, if_false]; exact h4
theorem s_putr (C : pCtx p s m args c cc nL own g A) {ci fk ix N : Nat} {Cn : String} {T : u_T} (K : pCls ci Cn T N) (hk : fk < N) (hl : Cond.fieldLink own ix (T fk).1 (T fk).2.1 (T fk).2.2.1 ∈ pTb) (hfin : (T fk).2.2.2 = false ∨ ((T fk).2.2.2 = true ∧ meth.name = "<init>" ∧ (T fk).1 = own)) (hF : pF ci fk = 2) (hty : (∃ n, tyOf ci fk = .object n) ∨ ∃ t, tyOf ci fk = .array t) (d : decode cc pc = .ok (.putfield ix, 3)) : i_putr ci fk (pc + 3) Φ (pX p l e R s m args below meth c Q g nL A f wE k0) E L S w → pX p l e R s m args below meth c Q g nL A f wE k0 pc L S w := fun ⟨v, y', o, y, n, S', e, hs, hn, h⟩ => by
  subst e
  refine pX_put C K hk hl hfin d hs hn h rfl (fun k' hk' => ⟨up2_o hk', fun _ => rfl⟩) (fun q1 q2 => okW_upr q1 (by omega) q2.2.2) (fun ad => ?_) (fun ad j hj => ?_) (fun ad => ?_) (fun ad => ?_)
  · simp only [fV, hF, up2, and_self, if_true]
    rw [cV_r, cV_r]; simp
  · simp [fV, up2, hj]
  · rw [cV_r]; rcases hty with ⟨a, q⟩ | ⟨a, q⟩ <;> rw [q] <;> rfl
  · rw [cV_r]; rcases hty with ⟨a, q⟩ | ⟨a, q⟩ <;> rw [q] <;> rfl
end PS

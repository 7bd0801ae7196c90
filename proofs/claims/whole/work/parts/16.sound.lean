section PS
variable {p : Program} {l : Launch} {e : Env} {R : Room} {s : State} {m : MethodId} {args : Array Value} {below : List Frame} {meth : Method} {c : Code} {Q : State → Prop} {cc : ByteArray} {nL : Nat} {own : String} {g : pg} {A : Nat → Prop} {f : (Nat → Nat) × pW} {wE : pW} {k0 : Nat × Nat}
variable {Φ : pC} {E : pE} {pc nx : Nat} {L S : List pV} {w : pW}
theorem cV_ext {ad ad' : Nat → Nat} {z : Nat → Int → Nat} {n : Nat} {v : pV} (h : okV n v) (ha : ∀ k, k < n → ad' k = ad k) : cV ad' z v = cV ad z v := by
  unfold cV
  by_cases h0 : v.1 < 16
  · simp only [h0, if_true]
  · simp only [h0, if_false]
    rw [ha (v.1 - 16) (by have := h.2.2 (by omega); omega)]
theorem map_ext {ad ad' : Nat → Nat} {z : Nat → Int → Nat} {n : Nat} {S : List pV} (h : ∀ v ∈ S, okV n v) (ha : ∀ k, k < n → ad' k = ad k) : S.map (cV ad' z) = S.map (cV ad z) := List.map_congr_left (fun v hv => cV_ext (h v hv) ha)
theorem lvL_ext {ad ad' : Nat → Nat} {z : Nat → Int → Nat} {n : Nat} {L : List pV} {ls : Array Slot} (h : ∀ v ∈ L, okV n v) (ha : ∀ k, k < n → ad' k = ad k) (hl : lvL ad z L ls) : lvL ad' z L ls := ⟨hl.1, hl.2.1, fun j v hv h9 => by rw [cV_ext (h v (List.mem_of_getElem? hv)) ha]; exact hl.2.2 j v hv h9⟩
theorem ok_mono {n n' : Nat} {v : pV} (h : okV n v) (hn : n ≤ n') : okV n' v := ⟨h.1, h.2.1, fun q => by have := h.2.2 q; omega⟩
theorem fV_ext {ad ad' : Nat → Nat} {z : Nat → Int → Nat} {w w' : pW} {ci k j : Nat} (h : pOkW w) (ha : ∀ k, k < w.1.length → ad' k = ad k) (h1 : ∀ j, w'.2.1 k j = w.2.1 k j) (h2 : ∀ j, w'.2.2 k j = w.2.2 k j) : fV ad' z w' ci k j = fV ad z w ci k j := by
  unfold fV
  rw [h1, h2, cV_ext (ok_rf h) ha]
theorem pCell_ext {cA : Nat → ClassId} {ad ad' : Nat → Nat} {z : Nat → Int → Nat} {w w' : pW} {k : Nat} {q : Nat × Nat} (h : pOkW w) (ha : ∀ k, k < w.1.length → ad' k = ad k) (h1 : ∀ j, w'.2.1 k j = w.2.1 k j) (h2 : ∀ j, w'.2.2 k j = w.2.2 k j) : pCell cA ad' z w' k q = pCell cA ad z w k q := by
  unfold pCell
  simp only [h2, fV_ext h ha h1 h2]
/-- one cell more -/
def pPush (w : pW) (q : Nat × Nat) : pW := (w.1 ++ [q], cl2 w.2.1 w.1.length 2, cl2 w.2.2 w.1.length 0)
theorem pPush_len {q : Nat × Nat} : (pPush w q).1.length = w.1.length + 1 := by simp [pPush]
theorem pPush_nS {q : Nat × Nat} : nS (pPush w q) = nS w + q.2 := by simp [pPush, nS]
theorem cl2_o {ι α : Type} {F : Nat → ι → α} {n k : Nat} {v : α} (h : k ≠ n) (j : ι) : cl2 F n v k j = F k j := by simp [cl2, h]
theorem cl2_s {ι α : Type} {F : Nat → ι → α} {n : Nat} {v : α} (j : ι) : cl2 F n v n j = v := by simp [cl2]
theorem pPush_ok {q : Nat × Nat} (h : pOkW w) : pOkW (pPush w q) := by
  intro k j
  have hl := pPush_len (w := w) (q := q)
  by_cases hk : k = w.1.length
  · subst hk
    refine ⟨fun _ => ?_, fun _ => ?_, ?_⟩
    · show r32 (cl2 w.2.2 w.1.length 0 w.1.length j); rw [cl2_s]; exact r32_0
    · show r64 (cl2 w.2.2 w.1.length 0 w.1.length j); rw [cl2_s]; exact r64_32 r32_0
    · show 2 ≤ cl2 w.2.1 w.1.length 2 w.1.length j ∧ _
      have e1 : (pPush w q).2.1 w.1.length j = 2 := cl2_s j
      rw [e1]
      exact ⟨by have := cl2_s (F := w.2.1) (n := w.1.length) (v := 2) j; omega, fun z => by omega⟩
  · obtain ⟨h1, h2, h3, h4⟩ := h k j
    have e1 : (pPush w q).2.1 k j = w.2.1 k j := cl2_o hk j
    have e2 : (pPush w q).2.2 k j = w.2.2 k j := cl2_o hk (j : Int)
    have e3 : k < w.1.length → pkd (pPush w q) k j = pkd w k j := fun z => by
      unfold pkd
      rw [show (pPush w q).1[k]? = w.1[k]? from List.getElem?_append_left z]
    have e4 : ¬ k < w.1.length → pkd (pPush w q) k j = 2 := fun z => by
      unfold pkd
      rw [show (pPush w q).1[k]? = none from List.getElem?_eq_none_iff.mpr (by rw [hl]; omega)]
    rw [e1, e2, hl]
    by_cases z : k < w.1.length
    · rw [e3 z]; exact ⟨h1, h2, h3, fun y => by have := h4 y; omega⟩
    · rw [e4 z]; exact ⟨(fun y => absurd y (by decide)), (fun y => absurd y (by decide)), h3, fun y => by have := h4 y; omega⟩
theorem pPush_ws {cA : Nat → ClassId} {ad ad' : Nat → Nat} {z : Nat → Int → Nat} {q : Nat × Nat} (h : pOkW w) (ha : ∀ k, k < w.1.length → ad' k = ad k) : pWs cA ad' z (pPush w q) = pWs cA ad z w ++ [(ad' w.1.length, pCell cA ad' z (pPush w q) w.1.length q)] := by
  apply List.ext_getElem?
  intro k
  by_cases hk : k < w.1.length
  · have hq := List.getElem?_eq_getElem hk
    rw [List.getElem?_append_left (by rw [pWs_len]; exact hk), pWs_get hq, pWs_get (w := pPush w q) (q := w.1[k]) (by rw [← hq]; exact List.getElem?_append_left hk), ha k hk]
    rw [pCell_ext h ha (fun j => cl2_o (by omega) j) (fun j => cl2_o (by omega) j)]
  · by_cases hk2 : k = w.1.length
    · subst hk2
      rw [List.getElem?_append_right (by rw [pWs_len]; exact Nat.le_refl _), pWs_len, Nat.sub_self, pWs_get (w := pPush w q) (q := q) (by show (w.1 ++ [q])[w.1.length]? = _; simp)]
      rfl
    · rw [pWs_none (by rw [pPush_len]; omega), List.getElem?_eq_none_iff.mpr (by simp [pWs_len]; omega)]
/-- a cell is made: the walk goes on in the greater world -/
theorem pX_new {q : Nat × Nat} {S' : List pV} (hSS : (∀ v ∈ S, okV w.1.length v) → ∀ v ∈ S', okV w.1.length v) (h : pX p l e R s m args below meth c Q g nL A f wE k0 nx L ((w.1.length + 16, 0) :: S') (pPush w q)) (hR : wE.1.length - f.2.1.length + k0.1 ≤ R.cells ∧ nS wE - nS f.2 + k0.2 ≤ R.slots)
    (hrow : ∀ (ad : Nat → Nat) (H : Heap) (locs : List Loc) (ls : Array Slot) (cells slots : Nat), (∀ v ∈ S, okV w.1.length v) → cells + 1 ≤ R.cells → slots + q.2 ≤ R.slots → va_P g.1 vwCl (pWs g.2.1 ad g.2.2 w) H → va_D A (pWs g.2.1 ad g.2.2 w) → va_S A s.heap H locs →
      (∀ (a : Nat) (H1 : Heap), va_P g.1 vwCl (pWs g.2.1 ad g.2.2 w ++ [(a, pCell g.2.1 (fun k => if k = w.1.length then a else ad k) g.2.2 (pPush w q) w.1.length q)]) H1 → va_D A (pWs g.2.1 ad g.2.2 w ++ [(a, pCell g.2.1 (fun k => if k = w.1.length then a else ad k) g.2.2 (pPush w q) w.1.length q)]) → va_S A s.heap H1 locs → W p l e R s m args below meth c H1 locs (cells + 1) (slots + q.2) Q (F0 m nx ls (.ref a :: S'.map (cV ad g.2.2)))) →
      W p l e R s m args below meth c H locs cells slots Q (F0 m pc ls (S.map (cV ad g.2.2)))) : pX p l e R s m args below meth c Q g nL A f wE k0 pc L S w := by
  have hb := h.1
  rw [pPush_len, pPush_nS] at hb
  refine ⟨⟨by omega, by omega⟩, fun ad H locs ls hi => ?_⟩
  obtain ⟨i1, i2, i3, i4, i5, i6, i7, i8, i9, i10⟩ := hi
  refine hrow ad H locs ls _ _ i5 (by omega) (by omega) i8 i9 i10 (fun a H1 p1 p2 p3 => ?_)
  have ha : ∀ k, k < w.1.length → (fun k => if k = w.1.length then a else ad k) k = ad k := fun k hk => by simp only [show ¬ k = w.1.length by omega, if_false]
  have ew := pPush_ws (cA := g.2.1) (ad := ad) (ad' := fun k => if k = w.1.length then a else ad k) (z := g.2.2) (q := q) i3 ha
  rw [if_pos rfl] at ew
  rw [← ew] at p1 p2
  have k := h.2 (fun k => if k = w.1.length then a else ad k) H1 locs ls ⟨fun k hk => (ha k (by omega)).trans (i1 k hk), by rw [pPush_len, pPush_nS]; omega, pPush_ok i3, fun v hv => by rw [pPush_len]; exact ok_mono (i4 v hv) (by omega), fun v hv => by
      rw [pPush_len]
      rcases List.mem_cons.mp hv with rfl | hv
      · exact ok_r (by omega)
      · exact ok_mono (hSS i5 v hv) (by omega), i6, lvL_ext i4 ha i7, p1, p2, p3⟩
  rw [pPush_len, pPush_nS, List.map_cons, cV_r, map_ext (hSS i5) ha] at k
  rw [show w.1.length + 1 - f.2.1.length + k0.1 = w.1.length - f.2.1.length + k0.1 + 1 by omega, show nS w + q.2 - nS f.2 + k0.2 = nS w - nS f.2 + k0.2 + q.2 by omega] at k
  simp only [if_true] at k
  exact k
theorem s_new (C : pCtx p s m args c cc nL own g A) {ci ix N : Nat} {Cn : String} {T : u_T} (K : pCls ci Cn T N) (h1 : Cond.classLink own ix Cn ∈ pTb) (h2 : Cond.instantiable Cn N ∈ pTb) (h3 : Cond.initialized Cn ∈ pTb) (hT : ∀ j, j < N → defaultValue (tyOf ci j) = (if pF ci j = 0 then .int 0 else if pF ci j = 1 then .long 0 else .null)) (hR : wE.1.length - f.2.1.length + k0.1 ≤ R.cells ∧ nS wE - nS f.2 + k0.2 ≤ R.slots) (d : decode cc pc = .ok (.new ix, 3)) : i_new ci N (pc + 3) Φ (pX p l e R s m args below meth c Q g nL A f wE k0) E L S w → pX p l e R s m args below meth c Q g nL A f wE k0 pc L S w := fun h =>
  pX_new (q := (ci + 4, N)) (fun hs => hs) h hR (fun ad H locs ls cells slots _ hc hsl hP hD hS kk => by
    refine va_new C.1 C.2.1 C.2.2.2.2.1 K.2.1 (tyOf ci) K.2.2.1 C.2.2.2.1 (C.2.2.2.2.1 _ h1) (C.2.2.2.2.1 _ h2) (C.2.2.2.2.1 _ h3) C.2.2.2.2.2.1 hP hD hS C.2.2.2.2.2.2.1 K.1 (fs := (List.range N).map (fun j => defaultValue (tyOf ci j))) (fun j hj => ?_) hc hsl d (fun a H1 p1 p2 p3 => ?_)
    · simp [vp_V, List.getD, hj]
    · have e1 : pCell g.2.1 (fun k => if k = w.1.length then a else ad k) g.2.2 (pPush w (ci + 4, N)) w.1.length (ci + 4, N) = .inr (ci, (List.range N).map (fun j => defaultValue (tyOf ci j))) := by
        rw [pCell_o]
        congr 2
        refine List.map_congr_left (fun j hj => ?_)
        rw [hT j (List.mem_range.mp hj)]
        have e2 : (pPush w (ci + 4, N)).2.1 w.1.length j = 2 := cl2_s j
        have e3 : (pPush w (ci + 4, N)).2.2 w.1.length j = 0 := cl2_s (j : Int)
        unfold fV
        rw [e2, e3]
        rfl
      exact kk a H1 (by rw [e1]; exact p1) (by rw [e1]; exact p2) p3)
theorem i32_nn {n : Nat} (h : n < 1000000) : ¬ i32 n < 0 := fun q => by
  have := (i32_lt (a := n) (b := 0) (by unfold r32; omega) r32_0).mp q
  omega
theorem i32_cl {n : Nat} (h : n < 1000000) : (i32 n).toNatClampNeg = n := by
  have := clampN (i := n) (by unfold r32; omega) (by omega)
  omega
theorem s_newa (C : pCtx p s m args c cc nL own g A) {t : Nat} {atype : ArrayType} {ty : FieldType} (ht : t < 4) (hty : newarray.typeOf atype = ty) (hat : (pTys g.2.1)[t]? = some (g.2.1 t, ty)) (hw : Cond.arrayClass ty ∈ pTb) (hra : ∀ cA, va_RA s cA ty → s.vm.findClass ("[" ++ ty.toString) = some cA) (h8 : componentBytes ty ≤ 8)
    (hdf : ∀ (cA : ClassId) (n : Nat), vp_cell cA (n, if t = 1 then .inr (.inl (fun _ => 0)) else .inl (fun _ => 0)) = arrV cA n (fun _ => defaultValue ty)) (hR : wE.1.length - f.2.1.length + k0.1 ≤ R.cells ∧ nS wE - nS f.2 + k0.2 ≤ R.slots) (d : decode cc pc = .ok (.newarray atype, 2)) : i_newa t (pc + 2) Φ (pX p l e R s m args below meth c Q g nL A f wE k0) E L S w → pX p l e R s m args below meth c Q g nL A f wE k0 pc L S w := fun ⟨n, S', e, hn6, h⟩ => by
  subst e
  refine pX_new (q := (t, n)) (fun hs => ok_tl hs) h hR (fun ad H locs ls cells slots hs hc hsl hP hD hS kk => ?_)
  rw [List.map_cons, cV_0]
  refine va_newa C.1 C.2.1 (by rw [hty]; exact C.2.2.2.2.1 _ hw) hty C.2.2.2.2.2.1 hP hD hS C.2.2.2.2.2.2.1 (N' := n) (a0 := (n, if t = 1 then .inr (.inl (fun _ => 0)) else .inl (fun _ => 0))) (fun cA => hdf cA n) (i32_nn hn6) (i32_cl hn6) (Nat.le_trans (Nat.mul_le_mul (Nat.le_of_lt hn6) h8) (by omega)) hc hsl d (fun a cA H1 hK' p1 p2 p3 => ?_)
  have e0 : cA = g.2.1 t := by
    have q1 := hra _ (hK'.2 4 (cA, ty) (by simp [pTys])).2
    have q2 := hra _ (C.2.2.2.2.2.1.2 t (g.2.1 t, ty) hat).2
    exact Option.some.inj (q1.symm.trans q2)
  subst e0
  have e1 : pCell g.2.1 (fun k => if k = w.1.length then a else ad k) g.2.2 (pPush w (t, n)) w.1.length (t, n) = .inl (g.2.1 t, n, if t = 1 then .inr (.inl (fun _ => 0)) else .inl (fun _ => 0)) := by
    have e3 : ∀ j : Nat, (pPush w (t, n)).2.2 w.1.length (j : Int) = 0 := fun j => cl2_s (j : Int)
    by_cases h1 : t = 1
    · subst h1
      rw [pCell_l, if_pos rfl]
      have e4 : (fun j : Nat => i64 ((pPush w (1, n)).2.2 w.1.length j)) = fun _ => 0 := by funext j; rw [e3 j]; rfl
      rw [e4]
    · rw [pCell_a ht h1, if_neg h1]
      have e4 : (fun j : Nat => i32 ((pPush w (t, n)).2.2 w.1.length j)) = fun _ => 0 := by funext j; rw [e3 j]; rfl
      rw [e4]
  exact kk a H1 (by rw [e1]; exact p1) (by rw [e1]; exact p2) p3
end PS

section PS
variable {p : Program} {l : Launch} {e : Env} {R : Room} {s : State} {m : MethodId} {args : Array Value} {below : List Frame} {meth : Method} {c : Code} {Q : State → Prop} {cc : ByteArray} {nL : Nat} {own : String} {g : pg} {A : Nat → Prop} {f : (Nat → Nat) × pW} {wE : pW} {k0 : Nat × Nat}
variable {Φ : pC} {E : pE} {pc nx : Nat} {L S : List pV} {w : pW}
theorem ok_s {n k : Nat} {x : Int} (h : k = 2 ∨ k = 4 ∨ k = 5 ∨ k = 6) : okV n (k, x) := ⟨fun q => absurd q (by show ¬ k = 0; omega), fun q => absurd q (by show ¬ k = 1; omega), fun q => absurd q (by show ¬ 16 ≤ k; omega)⟩
theorem cV_5 {ad : Nat → Nat} {z : Nat → Int → Nat} {x : Int} : cV ad z (5, x) = .ref (z 5 x) := rfl
theorem cV_6 {ad : Nat → Nat} {z : Nat → Int → Nat} {x : Int} : cV ad z (6, x) = .ref (z 6 x) := rfl
theorem cV_4 {ad : Nat → Nat} {z : Nat → Int → Nat} {x : Int} : cV ad z (4, x) = .ref (z 4 x) := rfl
theorem cV_2 {ad : Nat → Nat} {z : Nat → Int → Nat} {x : Int} : cV ad z (2, x) = .null := rfl
/-- what is known of Math.max and Math.min: the library's own rows take their place -/
def pMx (Φ : pC) (μ : Nat) (f : Int → Int → Int) : Prop := ∀ as w r w1, Φ μ as w r w1 → ∃ a b, as = [(0, a), (0, b)] ∧ r = (0, f a b) ∧ w1 = w
theorem s_ldcS (C : pCtx p s m args c cc nL own g A) {ix : Nat} {k : Int} {tx : String} (hR : vk_R own ix tx (g.2.2 5 k) s) (d : decode cc pc = .ok (.ldc ix, 2)) : i_push (5, k) (pc + 2) Φ (pX p l e R s m args below meth c Q g nL A f wE k0) E L S w → pX p l e R s m args below meth c Q g nL A f wE k0 pc L S w := fun h =>
  pX_st h (fun _ hs => ok_cons (ok_s (by omega)) hs) (fun _ _ _ _ _ _ _ _ _ _ _ k => va_ldcS C.1 C.2.1 C.2.2.2.1 hR d k)
theorem s_sval (C : pCtx p s m args c cc nL own g A) {ix : Nat} (hl : Cond.fieldLink own ix "java/lang/String" "value" "[B" ∈ pTb) (d : decode cc pc = .ok (.getfield ix, 3)) : i_sval (pc + 3) Φ (pX p l e R s m args below meth c Q g nL A f wE k0) E L S w → pX p l e R s m args below meth c Q g nL A f wE k0 pc L S w := fun ⟨k, S', e, h0, h3, h⟩ => by
  subst e
  obtain ⟨n, rfl⟩ := Int.eq_ofNat_of_zero_le h0
  refine pX_st h (fun _ hs => ok_cons (ok_s (by omega)) (ok_tl hs)) (fun _ H locs _ _ _ _ _ _ hS _ k => ?_)
  have hE := (C.2.2.2.2.2.2.2.2.1.1 n (by omega)).2.2.1
  exact vk_getf C.1 C.2.1 hE hS C.2.2.2.1 (C.2.2.2.2.1 _ hl) (fun _ q => q) d k
theorem s_scod (C : pCtx p s m args c cc nL own g A) {ix : Nat} (hl : Cond.fieldLink own ix "java/lang/String" "coder" "B" ∈ pTb) (d : decode cc pc = .ok (.getfield ix, 3)) : i_scod (pc + 3) Φ (pX p l e R s m args below meth c Q g nL A f wE k0) E L S w → pX p l e R s m args below meth c Q g nL A f wE k0 pc L S w := fun ⟨k, S', e, h0, h3, h⟩ => by
  subst e
  obtain ⟨n, rfl⟩ := Int.eq_ofNat_of_zero_le h0
  refine pX_st h (fun _ hs => ok_cons (ok_i ⟨by omega, by omega⟩) (ok_tl hs)) (fun _ H locs _ _ _ _ _ _ hS _ k => ?_)
  have hE := (C.2.2.2.2.2.2.2.2.1.1 n (by omega)).2.1
  exact vk_getf C.1 C.2.1 hE hS C.2.2.2.1 (C.2.2.2.2.1 _ hl) (fun _ q => q) d k
theorem s_gets (C : pCtx p s m args c cc nL own g A) {ix : Nat} (hl : Cond.fieldLink own ix "java/lang/String" "COMPACT_STRINGS" "Z" ∈ pTb) (d : decode cc pc = .ok (.getstatic ix, 3)) : i_push (0, 1) (pc + 3) Φ (pX p l e R s m args below meth c Q g nL A f wE k0) E L S w → pX p l e R s m args below meth c Q g nL A f wE k0 pc L S w := fun h =>
  pX_st h (fun _ hs => ok_cons (ok_i ⟨by omega, by omega⟩) hs) (fun _ _ _ _ _ _ _ _ _ hS _ k => va_gets C.1 C.2.1 C.2.2.2.2.2.2.2.2.2.2.1 hS C.2.2.2.1 (C.2.2.2.2.1 _ hl) (fun _ q => q) d k)
theorem s_gq (C : pCtx p s m args c cc nL own g A) {ix : Nat} (hl : Cond.fieldLink own ix "jdk/internal/util/Preconditions" "SIOOBE_FORMATTER" "Ljava/util/function/BiFunction;" ∈ pTb) (d : decode cc pc = .ok (.getstatic ix, 3)) : i_gq (pc + 3) Φ (pX p l e R s m args below meth c Q g nL A f wE k0) E L S w → pX p l e R s m args below meth c Q g nL A f wE k0 pc L S w := fun ⟨h2, h3⟩ => by
  rcases C.2.2.2.2.2.2.2.2.2.2.2.1 with z | z
  · exact pX_st h2 (fun _ hs => ok_cons (ok_s (by omega)) hs) (fun _ _ _ _ _ _ _ _ _ hS _ k => va_gets C.1 C.2.1 z hS C.2.2.2.1 (C.2.2.2.2.1 _ hl) (fun _ q => q) d k)
  · exact pX_st h3 (fun _ hs => ok_cons (ok_s (by omega)) hs) (fun _ _ _ _ _ _ _ _ _ hS _ k => va_gets C.1 C.2.1 z hS C.2.2.2.1 (C.2.2.2.2.1 _ hl) (fun _ q => q) d k)
theorem sLn_r {n : Nat} (h : (n : Int) < 3) : sL.getD n 0 = (sB.getD n []).length ∧ (sB.getD n []).length < 100 := by
  have : n = 0 ∨ n = 1 ∨ n = 2 := by omega
  rcases this with rfl | rfl | rfl <;> decide +kernel
theorem s_slen (C : pCtx p s m args c cc nL own g A) (d : decode cc pc = .ok (.arraylength, 1)) : i_slen (pc + 1) Φ (pX p l e R s m args below meth c Q g nL A f wE k0) E L S w → pX p l e R s m args below meth c Q g nL A f wE k0 pc L S w := fun ⟨k, S', e, h0, h3, h⟩ => by
  subst e
  obtain ⟨n, rfl⟩ := Int.eq_ofNat_of_zero_le h0
  obtain ⟨l1, l2⟩ := sLn_r h3
  have e1 : sLn (n : Int) = ((sB.getD n []).length : Int) := by unfold sLn; rw [Int.toNat_natCast]
  refine pX_st h (fun _ hs => ok_cons (ok_i (by rw [e1]; unfold r32; omega)) (ok_tl hs)) (fun _ H locs _ _ _ _ _ _ hS _ k => ?_)
  have hE := (C.2.2.2.2.2.2.2.2.1.1 n (by omega)).2.2.2
  refine va_tlen C.1 C.2.1 hE hS (v := i32 (sLn (n : Int))) ?_ d k
  rw [e1, l1]; exact i32_nat
theorem s_sbl (C : pCtx p s m args c cc nL own g A) (d : decode cc pc = .ok (.baload, 1)) : i_sbl (pc + 1) Φ (pX p l e R s m args below meth c Q g nL A f wE k0) E L S w → pX p l e R s m args below meth c Q g nL A f wE k0 pc L S w := fun ⟨i, k, S', e, h0, h3, g0, g1, h⟩ => by
  subst e
  obtain ⟨n, rfl⟩ := Int.eq_ofNat_of_zero_le h0
  obtain ⟨l1, l2⟩ := sLn_r h3
  have e1 : sLn (n : Int) = ((sB.getD n []).length : Int) := by unfold sLn; rw [Int.toNat_natCast]
  refine ⟨h.1, fun ad H locs ls hi => ?_⟩
  obtain ⟨i1, i2, i3, i4, i5, i6, i7, i8, i9, i10⟩ := hi
  have hri := (ok_hd i5).1 rfl
  have k := h.2 ad H locs ls ⟨i1, i2, i3, i4, ok_cons (ok_i (by unfold sBt; exact r32_of _)) (ok_tl (ok_tl i5)), i6, i7, i8, i9, i10⟩
  have hE := (C.2.2.2.2.2.2.2.2.1.1 n (by omega)).2.2.2
  have hl : i < ((sL.getD n 0 : Nat) : Int) := by rw [l1, ← e1]; exact g1
  refine va_tb C.1 C.2.1 hE i10 (i := i32 i) (vpin hri g0 hl) (v := .int (i32 (sBt (n : Int) i))) ?_ d k
  have hcl : (i32 i).toNatClampNeg = i.toNat := by
    have := clampN hri g0
    dsimp only at this
    omega
  show Value.int ((sB.getD n []).getD (i32 i).toNatClampNeg 0) = _
  rw [hcl]
  unfold sBt
  rw [Int.toNat_natCast, i32_of]
theorem s_i2b (C : pCtx p s m args c cc nL own g A) (d : decode cc pc = .ok (.i2b, 1)) : i_i2b (pc + 1) Φ (pX p l e R s m args below meth c Q g nL A f wE k0) E L S w → pX p l e R s m args below meth c Q g nL A f wE k0 pc L S w := fun ⟨a, S', e, h⟩ => by
  subst e
  exact pX_st h (fun _ hs => ok_cons (ok_i (r32_of _)) (ok_tl hs)) (fun _ _ _ _ _ _ _ _ _ _ _ k => lv_i2b C.1 C.2.1 d rfl (by rw [List.map_cons, cV_0, pI2b, i32_of] at k; exact k))
theorem nn_fin : ∀ x : Fin 128, narrow .byte (.int (i32 (x.val : Int))) = .int (i32 (x.val : Int)) ∧ narrow .char (.int (i32 (x.val : Int))) = .int (i32 (x.val : Int)) := by decide +kernel
theorem nn_of {x : Int} (h0 : 0 ≤ x) (h1 : x ≤ 127) : narrow .byte (.int (i32 x)) = .int (i32 x) ∧ narrow .char (.int (i32 x)) = .int (i32 x) := by
  have h := nn_fin ⟨x.toNat, by omega⟩
  dsimp only at h
  rw [Int.toNat_of_nonneg h0] at h
  exact h
theorem s_bret {r : pV} (C : pCtx p s m args c cc nL own g A) (hr : meth.sig.returnType = some .byte) (hlk : meth.locks = false) (hA : A = va_A (pWs g.2.1 f.1 g.2.2 f.2) s.heap.size) (hq : pHq p l e R s m args below meth c Q g A f wE r) (d : decode cc pc = .ok (.ireturn, 1)) : i_nret Φ (pX p l e R s m args below meth c Q g nL A f wE (0, 0)) (fun r1 w1 => r1 = r ∧ w1 = wE) L S w → pX p l e R s m args below meth c Q g nL A f wE (0, 0) pc L S w := fun ⟨x, e1, h0, h1, e2, e3⟩ => by
  subst e1; subst e2; subst e3
  refine ⟨⟨Nat.le_refl _, Nat.le_refl _⟩, fun ad H locs ls hi => ?_⟩
  obtain ⟨i1, i2, i3, i4, i5, i6, i7, i8, i9, i10⟩ := hi
  refine hq _ _ _ _ _ (W.zret C.1 C.2.1 hr (nn_of h0 h1).1 (fun t ht hW => ⟨⟨ad, rfl, i1, ⟨i3, ok_hd i5⟩, by rw [ht]; exact i8, by rw [← hA]; exact i9⟩, by rw [← hA]; exact i10.F ht⟩) i10.2.2 d hlk)
theorem s_cret {r : pV} (C : pCtx p s m args c cc nL own g A) (hr : meth.sig.returnType = some .char) (hlk : meth.locks = false) (hA : A = va_A (pWs g.2.1 f.1 g.2.2 f.2) s.heap.size) (hq : pHq p l e R s m args below meth c Q g A f wE r) (d : decode cc pc = .ok (.ireturn, 1)) : i_nret Φ (pX p l e R s m args below meth c Q g nL A f wE (0, 0)) (fun r1 w1 => r1 = r ∧ w1 = wE) L S w → pX p l e R s m args below meth c Q g nL A f wE (0, 0) pc L S w := fun ⟨x, e1, h0, h1, e2, e3⟩ => by
  subst e1; subst e2; subst e3
  refine ⟨⟨Nat.le_refl _, Nat.le_refl _⟩, fun ad H locs ls hi => ?_⟩
  obtain ⟨i1, i2, i3, i4, i5, i6, i7, i8, i9, i10⟩ := hi
  refine hq _ _ _ _ _ (W.zret C.1 C.2.1 hr (nn_of h0 h1).2 (fun t ht hW => ⟨⟨ad, rfl, i1, ⟨i3, ok_hd i5⟩, by rw [ht]; exact i8, by rw [← hA]; exact i9⟩, by rw [← hA]; exact i10.F ht⟩) i10.2.2 d hlk)
theorem s_mmax (C : pCtx p s m args c cc nL own g A) {ix : Nat} (hm : pMx Φ 245 (fun a b => max a b)) (hR : wE.1.length - f.2.1.length + k0.1 ≤ R.cells ∧ nS wE - nS f.2 + k0.2 ≤ R.slots) (hF : 1 ≤ R.frames ∧ 21 ≤ R.locals) (hco : Cond.code yJ9_max_7cf53 cJ9_max_7cf53 2 (some .int) ∈ pTb) (hln : Cond.methodLink own ix yJ9_max_7cf53 ∈ pTb) (hst : Cond.static yJ9_max_7cf53 ∈ pTb) (hin : Cond.initialized yJ9_max_7cf53.cls ∈ pTb) (d : decode cc pc = .ok (.invokestatic ix, 3)) : i_inv 245 2 (pc + 3) Φ (pX p l e R s m args below meth c Q g nL A f wE k0) E L S w → pX p l e R s m args below meth c Q g nL A f wE k0 pc L S w := fun ⟨r, w1, hn, h8, hΦ, h7, h⟩ => by
  obtain ⟨a, b, e1, e2, e3⟩ := hm _ _ _ _ hΦ
  subst e2; subst e3
  have eS := split_take e1
  generalize S.drop 2 = S' at *
  have eS : S = (0, b) :: (0, a) :: S' := eS
  subst eS
  have h : pX p l e R s m args below meth c Q g nL A f wE k0 (pc + 3) L ((0, max a b) :: S') w1 := h
  have hb := h.1
  refine ⟨h.1, fun ad H locs ls hi => ?_⟩
  obtain ⟨i1, i2, i3, i4, i5, i6, i7, i8, i9, i10⟩ := hi
  have ha := (ok_hd (ok_tl i5)).1 rfl
  have hbb := (ok_hd i5).1 rfl
  dsimp only at ha hbb
  have hmx : r32 (max a b) := by unfold r32 at *; omega
  have k := h.2 ad H locs ls ⟨i1, i2, i3, i4, ok_cons (ok_i hmx) (ok_tl (ok_tl i5)), i6, i7, i8, i9, i10⟩
  rw [List.map_cons, cV_0] at k
  rw [List.map_cons, List.map_cons, cV_0, cV_0]
  refine va_mmax C.1 C.2.1 (by rw [C.2.2.1, ← i6]; exact i7.1.symm) C.2.2.2.1 (C.2.2.2.2.1 _ hln) (C.2.2.2.2.1 _ hst) (C.2.2.2.2.1 _ hin) (C.2.2.2.2.1 _ hco) hF.1 (by rw [cat_sum]; omega) (by omega) (by omega) d ?_
  have em : (if i32 a < i32 b then i32 b else i32 a) = i32 (max a b) := by
    by_cases z : a < b
    · first
      | rw [if_pos ((i32_lt ha hbb).mpr z), show max a b = b by omega]
      | rw [if_neg (fun y => by have := (i32_lt hbb ha).mp y; omega), show max a b = b by omega]
    · first
      | rw [if_neg (fun y => z ((i32_lt ha hbb).mp y)), show max a b = a by omega]
      | (by_cases y : b < a
         · rw [if_pos ((i32_lt hbb ha).mpr y), show max a b = a by omega]
         · rw [if_neg (fun u => y ((i32_lt hbb ha).mp u)), show max a b = a by omega])
  rw [em]
  exact k
theorem s_mmin (C : pCtx p s m args c cc nL own g A) {ix : Nat} (hm : pMx Φ 246 (fun a b => min a b)) (hR : wE.1.length - f.2.1.length + k0.1 ≤ R.cells ∧ nS wE - nS f.2 + k0.2 ≤ R.slots) (hF : 1 ≤ R.frames ∧ 21 ≤ R.locals) (hco : Cond.code yJ9_min_7cf53 cJ9_min_7cf53 2 (some .int) ∈ pTb) (hln : Cond.methodLink own ix yJ9_min_7cf53 ∈ pTb) (hst : Cond.static yJ9_min_7cf53 ∈ pTb) (hin : Cond.initialized yJ9_min_7cf53.cls ∈ pTb) (d : decode cc pc = .ok (.invokestatic ix, 3)) : i_inv 246 2 (pc + 3) Φ (pX p l e R s m args below meth c Q g nL A f wE k0) E L S w → pX p l e R s m args below meth c Q g nL A f wE k0 pc L S w := fun ⟨r, w1, hn, h8, hΦ, h7, h⟩ => by
  obtain ⟨a, b, e1, e2, e3⟩ := hm _ _ _ _ hΦ
  subst e2; subst e3
  have eS := split_take e1
  generalize S.drop 2 = S' at *
  have eS : S = (0, b) :: (0, a) :: S' := eS
  subst eS
  have h : pX p l e R s m args below meth c Q g nL A f wE k0 (pc + 3) L ((0, min a b) :: S') w1 := h
  have hb := h.1
  refine ⟨h.1, fun ad H locs ls hi => ?_⟩
  obtain ⟨i1, i2, i3, i4, i5, i6, i7, i8, i9, i10⟩ := hi
  have ha := (ok_hd (ok_tl i5)).1 rfl
  have hbb := (ok_hd i5).1 rfl
  dsimp only at ha hbb
  have hmx : r32 (min a b) := by unfold r32 at *; omega
  have k := h.2 ad H locs ls ⟨i1, i2, i3, i4, ok_cons (ok_i hmx) (ok_tl (ok_tl i5)), i6, i7, i8, i9, i10⟩
  rw [List.map_cons, cV_0] at k
  rw [List.map_cons, List.map_cons, cV_0, cV_0]
  refine va_mmin C.1 C.2.1 (by rw [C.2.2.1, ← i6]; exact i7.1.symm) C.2.2.2.1 (C.2.2.2.2.1 _ hln) (C.2.2.2.2.1 _ hst) (C.2.2.2.2.1 _ hin) (C.2.2.2.2.1 _ hco) hF.1 (by rw [cat_sum]; omega) (by omega) (by omega) d ?_
  have em : (if i32 b < i32 a then i32 b else i32 a) = i32 (min a b) := by
    by_cases z : a < b
    · first
      | rw [if_pos ((i32_lt ha hbb).mpr z), show min a b = a by omega]
      | rw [if_neg (fun y => by have := (i32_lt hbb ha).mp y; omega), show min a b = a by omega]
    · first
      | rw [if_neg (fun y => z ((i32_lt ha hbb).mp y)), show min a b = b by omega]
      | (by_cases y : b < a
         · rw [if_pos ((i32_lt hbb ha).mpr y), show min a b = b by omega]
         · rw [if_neg (fun u => y ((i32_lt hbb ha).mp u)), show min a b = a by omega])
  rw [em]
  exact k
theorem st_consS {ad : Nat → Nat} {z : Nat → Int → Nat} {S : List pV} {n : Nat} {x : Int} {as' : List pV} (h : (S.take n).reverse = (5, x) :: as') : S.map (cV ad z) = (as'.map (cV ad z)).reverse ++ .ref (z 5 x) :: (S.drop n).map (cV ad z) := by
  have e := congrArg (List.map (cV ad z)) (split_take h)
  rw [List.map_append, List.map_reverse, List.map_cons, cV_5, List.reverse_cons, List.append_assoc] at e
  exact e
theorem s_invS (C : pCtx p s m args c cc nL own g A) {μ n n1 fr lo ix maxL : Nat} {y : MethodName} {b : ByteArray} {rt : Option FieldType} (hc : pCon l g Φ μ y (pWd y b maxL rt) fr lo) (hR : wE.1.length - f.2.1.length + k0.1 ≤ R.cells ∧ nS wE - nS f.2 + k0.2 ≤ R.slots) (hF : fr + 1 ≤ R.frames ∧ 8 + (maxL + 11) + lo ≤ R.locals) (hn1 : n1 + 1 = n) (hcl : y.cls = "java/lang/String")
    (hco : Cond.code y b maxL rt ∈ pTb) (hln : Cond.methodLink own ix y ∈ pTb) (him : Cond.instanceMethod y ∈ pTb) (hse : Cond.selects y.cls y y ∈ pTb) (hin : Cond.initialized y.cls ∈ pTb) (hp : plain y n1) (d : decode cc pc = .ok (.invokevirtual ix, 3)) : i_invS μ n (pc + 3) Φ (pX p l e R s m args below meth c Q g nL A f wE k0) E L S w → pX p l e R s m args below meth c Q g nL A f wE k0 pc L S w := fun ⟨r, w1, k, as', hn, h8, ht, h0, h3, hΦ, h7, h⟩ => by
  obtain ⟨q, rfl⟩ := Int.eq_ofNat_of_zero_le h0
  exact pX_inv C hc hR (split_take ht) hΦ h7 h (fun ad H locs ls cells slots hsz hf hP hpre hM => ⟨_, va_runV (C := y.cls) (b := g.2.2 5 (q : Int)) (As := as'.map (cV ad g.2.2)) (rest := (S.drop n).map (cV ad g.2.2)) ⟨C.1, C.2.1, C.2.2.1, C.2.2.2.1, C.2.2.2.2.1⟩ hM
    ⟨callB_of n1 C.2.2.2.2.1 (pTb_good (pWd_in hco)) rfl rfl rfl (C.2.2.2.2.1 _ hin) (C.2.2.2.2.1 _ hln) hp hF, C.2.2.2.2.1 _ him, C.2.2.2.2.1 _ hse⟩ ⟨pPc_blind, by
      rw [hcl]
      obtain ⟨cell, h1, h2, h3, -⟩ := ((hpre { s with heap := H } rfl (State.WarmedH.refl s)).2.2.2.2.2.2.1.1 q (by omega)).1
      exact ⟨cell, h1, h2, h3⟩, fun U hU hW => by have := hpre U hU hW; rw [List.map_cons, cV_5] at this; exact this⟩ rfl (by have := len_cons hn ht; simp; omega) hsz (st_consS ht) (by rw [cat_sum]; show 2 * 0 + _ ≤ 8; omega) d hf⟩)
end PS

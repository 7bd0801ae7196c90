section PS
variable {p : Program} {l : Launch} {e : Env} {R : Room} {s : State} {m : MethodId} {args : Array Value} {below : List Frame} {meth : Method} {c : Code} {Q : State → Prop} {cc : ByteArray} {nL : Nat} {own : String} {g : pg} {A : Nat → Prop} {f : (Nat → Nat) × pW} {wE : pW} {k0 : Nat × Nat}
variable {Φ : pC} {pc nx : Nat} {L S : List pV} {w : pW} {r : pV}
/-- what the end of a body gives to its caller's question -/
def pHq (p : Program) (l : Launch) (e : Env) (R : Room) (s : State) (m : MethodId) (args : Array Value) (below : List Frame) (meth : Method) (c : Code) (Q : State → Prop) (g : pg) (A : Nat → Prop) (f : (Nat → Nat) × pW) (wE : pW) (r : pV) : Prop :=
  ∀ (H : Heap) (locs : List Loc) (cells slots : Nat) (gg : JFrame), W p l e R s m args below meth c H locs cells slots (MQ below (pQc g f.1 f.2 r wE s.heap.size) args s (wE.1.length - f.2.1.length) (nS wE - nS f.2) A) gg → W p l e R s m args below meth c H locs cells slots Q gg
theorem s_iret (C : pCtx p s m args c cc nL own g A) (hr : meth.sig.returnType = some .int) (hlk : meth.locks = false) (hA : A = va_A (pWs g.2.1 f.1 g.2.2 f.2) s.heap.size) (hq : pHq p l e R s m args below meth c Q g A f wE r) (d : decode cc pc = .ok (.ireturn, 1)) : i_iret Φ (pX p l e R s m args below meth c Q g nL A f wE (0, 0)) (fun r1 w1 => r1 = r ∧ w1 = wE) L S w → pX p l e R s m args below meth c Q g nL A f wE (0, 0) pc L S w := fun ⟨x, e1, e2, e3⟩ => by
  subst e1; subst e2; subst e3
  refine ⟨⟨Nat.le_refl _, Nat.le_refl _⟩, fun ad H locs ls hi => ?_⟩
  obtain ⟨i1, i2, i3, i4, i5, i6, i7, i8, i9, i10⟩ := hi
  refine hq _ _ _ _ _ (W.iret C.1 C.2.1 hr (fun t ht hW => ⟨⟨ad, rfl, i1, ⟨i3, ok_hd i5⟩, by rw [ht]; exact i8, by rw [← hA]; exact i9⟩, by rw [← hA]; exact i10.F ht⟩) i10.2.2 d hlk)
theorem zn {x : Int} (h : x = 0 ∨ x = 1) : narrow .boolean (.int (i32 x)) = .int (i32 x) := by rcases h with rfl | rfl <;> rfl
theorem s_zret (C : pCtx p s m args c cc nL own g A) (hr : meth.sig.returnType = some .boolean) (hlk : meth.locks = false) (hA : A = va_A (pWs g.2.1 f.1 g.2.2 f.2) s.heap.size) (hq : pHq p l e R s m args below meth c Q g A f wE r) (d : decode cc pc = .ok (.ireturn, 1)) : i_zret Φ (pX p l e R s m args below meth c Q g nL A f wE (0, 0)) (fun r1 w1 => r1 = r ∧ w1 = wE) L S w → pX p l e R s m args below meth c Q g nL A f wE (0, 0) pc L S w := fun ⟨x, e1, hx, e2, e3⟩ => by
  subst e1; subst e2; subst e3
  refine ⟨⟨Nat.le_refl _, Nat.le_refl _⟩, fun ad H locs ls hi => ?_⟩
  obtain ⟨i1, i2, i3, i4, i5, i6, i7, i8, i9, i10⟩ := hi
  refine hq _ _ _ _ _ (W.zret C.1 C.2.1 hr (zn hx) (fun t ht hW => ⟨⟨ad, rfl, i1, ⟨i3, ok_hd i5⟩, by rw [ht]; exact i8, by rw [← hA]; exact i9⟩, by rw [← hA]; exact i10.F ht⟩) i10.2.2 d hlk)
theorem s_lret (C : pCtx p s m args c cc nL own g A) (hr : meth.sig.returnType = some .long) (hlk : meth.locks = false) (hA : A = va_A (pWs g.2.1 f.1 g.2.2 f.2) s.heap.size) (hq : pHq p l e R s m args below meth c Q g A f wE r) (d : decode cc pc = .ok (.lreturn, 1)) : i_lret Φ (pX p l e R s m args below meth c Q g nL A f wE (0, 0)) (fun r1 w1 => r1 = r ∧ w1 = wE) L S w → pX p l e R s m args below meth c Q g nL A f wE (0, 0) pc L S w := fun ⟨x, e1, e2, e3⟩ => by
  subst e1; subst e2; subst e3
  refine ⟨⟨Nat.le_refl _, Nat.le_refl _⟩, fun ad H locs ls hi => ?_⟩
  obtain ⟨i1, i2, i3, i4, i5, i6, i7, i8, i9, i10⟩ := hi
  refine hq _ _ _ _ _ (W.lret C.1 C.2.1 hr (fun t ht hW => ⟨⟨ad, rfl, i1, ⟨i3, ok_hd i5⟩, by rw [ht]; exact i8, by rw [← hA]; exact i9⟩, by rw [← hA]; exact i10.F ht⟩) i10.2.2 d hlk)
theorem s_vret (C : pCtx p s m args c cc nL own g A) (hr : meth.sig.returnType = none) (hlk : meth.locks = false) (hA : A = va_A (pWs g.2.1 f.1 g.2.2 f.2) s.heap.size) (hq : pHq p l e R s m args below meth c Q g A f wE r) (d : decode cc pc = .ok (.return_, 1)) : i_vret Φ (pX p l e R s m args below meth c Q g nL A f wE (0, 0)) (fun r1 w1 => r1 = r ∧ w1 = wE) L S w → pX p l e R s m args below meth c Q g nL A f wE (0, 0) pc L S w := fun ⟨e1, e2, e3⟩ => by
  subst e1; subst e2; subst e3
  refine ⟨⟨Nat.le_refl _, Nat.le_refl _⟩, fun ad H locs ls hi => ?_⟩
  obtain ⟨i1, i2, i3, i4, i5, i6, i7, i8, i9, i10⟩ := hi
  refine hq _ _ _ _ _ (W.vret C.1 C.2.1 hr (fun t ht hW => ⟨⟨ad, rfl, i1, ⟨i3, ⟨fun q => absurd q (by simp), fun q => absurd q (by simp), fun q => absurd q (by simp)⟩⟩, by rw [ht]; exact i8, by rw [← hA]; exact i9⟩, by rw [← hA]; exact i10.F ht⟩) i10.2.2 d hlk)
theorem s_thr {th : List Nat} (ht : r = (7, 0) → ∀ pc L, pc ∈ th → pX p l e R s m args below meth c Q g nL A f wE (0, 0) pc L [] wE) (hm : pc ∈ th) : i_thr Φ (pX p l e R s m args below meth c Q g nL A f wE (0, 0)) (fun r1 w1 => r1 = r ∧ w1 = wE) L S w → pX p l e R s m args below meth c Q g nL A f wE (0, 0) pc L S w := fun ⟨e1, e2, e3⟩ => by
  subst e1; subst e3
  exact ht e2.symm pc L hm
end PS
/-- the tables of a method, by halves -/
theorem tr_node {Ok : Nat → pT → Prop} {a b : Nat → Option pT} {n : Nat} (ha : ∀ pc t, a pc = some t → Ok pc t) (hb : ∀ pc t, b pc = some t → Ok pc t) : ∀ pc t, cond (Nat.ble n pc) (a pc) (b pc) = some t → Ok pc t := by
  intro pc t h
  cases q : Nat.ble n pc with
  | true => rw [q] at h; exact ha pc t h
  | false => rw [q] at h; exact hb pc t h
theorem tr_leaf {Ok : Nat → pT → Prop} {n : Nat} {t0 : pT} (h0 : Ok n t0) : ∀ pc t, cond (Nat.beq pc n) (some t0) none = some t → Ok pc t := by
  intro pc t h
  cases q : Nat.beq pc n with
  | true => rw [q] at h; cases h; rw [Nat.eq_of_beq_eq_true q]; exact h0
  | false => rw [q] at h; cases h
/-- what a method's body owes: each of its instructions is true to the machine, at any call of it at depth d + 1 -/
def pBody (l : Launch) (g : pg) (Φ : pC) (code : Nat → Option pT) (y : MethodName) (cc : ByteArray) (nL : Nat) (rt : Option FieldType) (th : List Nat) (d : Nat) : Prop :=
  ∀ (p : Program) (e : Env) (R : Room) (s : State) (m : MethodId) (args : Array Value) (below : List Frame) (meth : Method) (c : Code) (Q : State → Prop) (A : Nat → Prop) (f : (Nat → Nat) × pW) (wE : pW) (r : pV),
    pCtx p s m args c cc nL y.cls g A → meth.sig.returnType = rt → meth.locks = false → meth.name = y.name → A = va_A (pWs g.2.1 f.1 g.2.2 f.2) s.heap.size → (wE.1.length - f.2.1.length ≤ R.cells ∧ nS wE - nS f.2 ≤ R.slots) → (R.frames = d + 1 ∧ R.locals = 64 * (d + 1)) →
    pHq p l e R s m args below meth c Q g A f wE r → (r = (7, 0) → ∀ pc L, pc ∈ th → pX p l e R s m args below meth c Q g nL A f wE (0, 0) pc L [] wE) →
    ∀ pc t, code pc = some t → ∀ L S w, t Φ (pX p l e R s m args below meth c Q g nL A f wE (0, 0)) (fun r1 w1 => r1 = r ∧ w1 = wE) L S w → pX p l e R s m args below meth c Q g nL A f wE (0, 0) pc L S w
theorem pEnt_len {n : Nat} {as : List pV} (h : (as.flatMap (fun v => if v.1 = 1 then [v, (9, 0)] else [v])).length ≤ n) : (pEnt n as).length = n := by
  simp only [pEnt, List.length_append, List.length_replicate]; omega
theorem sl_map {ad : Nat → Nat} {z : Nat → Int → Nat} (as : List pV) : (lg_sl (as.map (cV ad z))).length = (as.flatMap (fun v => if v.1 = 1 then [v, ((9, 0) : pV)] else [v])).length := by
  induction as with
  | nil => rfl
  | cons v t ih =>
    simp only [List.map_cons, lg_sl, List.flatMap_cons, List.length_append] at ih ⊢
    rw [cV_cat]
    have e1 : (if cat v = 2 then [Slot.val (cV ad z v), Slot.second] else [Slot.val (cV ad z v)]).length = (if v.1 = 1 then [v, ((9, 0) : pV)] else [v]).length := by
      unfold cat
      by_cases h : v.1 = 1
      · simp [h]
      · simp [h]
    rw [e1]
    exact congrArg _ ih
theorem ent_get {ad : Nat → Nat} {z : Nat → Int → Nat} : ∀ (as : List pV) (i j : Nat) (v : pV), (as.flatMap (fun v => if v.1 = 1 then [v, ((9, 0) : pV)] else [v]))[j]? = some v → v.1 ≠ 9 → (i + j, cV ad z v) ∈ lv_args i (as.map (cV ad z))
  | [], _, _, _, h, _ => by simp at h
  | u :: t, i, j, v, h, h9 => by
    rw [List.flatMap_cons] at h
    simp only [List.map_cons, lv_args, cV_cat]
    by_cases hu : u.1 = 1
    · rw [if_pos hu] at h
      have hc : cat u = 2 := by unfold cat; rw [if_pos hu]
      rw [if_pos hc]
      match j, h with
      | 0, h => simp at h; subst h; simp
      | 1, h => simp at h; subst h; exact absurd rfl h9
      | j + 2, h =>
        have h' : (t.flatMap (fun v => if v.1 = 1 then [v, ((9, 0) : pV)] else [v]))[j]? = some v := by simpa using h
        have := ent_get (ad := ad) (z := z) t (i + 2) j v h' h9
        rw [show i + (j + 2) = i + 2 + j by omega]
        exact List.mem_cons_of_mem _ this
    · rw [if_neg hu] at h
      have hc : ¬ cat u = 2 := by unfold cat; rw [if_neg hu]; decide
      rw [if_neg hc]
      match j, h with
      | 0, h => simp at h; subst h; simp
      | j + 1, h =>
        have h' : (t.flatMap (fun v => if v.1 = 1 then [v, ((9, 0) : pV)] else [v]))[j]? = some v := by simpa using h
        have := ent_get (ad := ad) (z := z) t (i + 1) j v h' h9
        rw [show i + (j + 1) = i + 1 + j by omega]
        exact List.mem_cons_of_mem _ this
theorem ent_lvL {ad : Nat → Nat} {z : Nat → Int → Nat} {n : Nat} {as : List pV} (h : (as.flatMap (fun v => if v.1 = 1 then [v, ((9, 0) : pV)] else [v])).length ≤ n) : lvL ad z (pEnt n as) ((lg_sl (as.map (cV ad z)) ++ List.replicate (n - (lg_sl (as.map (cV ad z))).length) Slot.unset).toArray) := by
  have hl := lv_entry (as.map (cV ad z)) (n := n) (by rw [sl_map]; exact h)
  refine ⟨by rw [pEnt_len h]; exact hl.1, hl.2.1, fun j v hv h9 => ?_⟩
  have hv' : (as.flatMap (fun v => if v.1 = 1 then [v, ((9, 0) : pV)] else [v]))[j]? = some v := by
    simp only [pEnt] at hv
    by_cases hj : j < (as.flatMap (fun v => if v.1 = 1 then [v, ((9, 0) : pV)] else [v])).length
    · rw [List.getElem?_append_left hj] at hv; exact hv
    · rw [List.getElem?_append_right (by omega)] at hv
      have := List.mem_of_getElem? hv
      rw [List.mem_replicate] at this
      rw [this.2] at h9; exact absurd rfl h9
  have := ent_get (ad := ad) (z := z) as 0 j v hv' h9
  rw [Nat.zero_add] at this
  exact hl.2.2 _ this
theorem ent_ok {n k : Nat} {as : List pV} (h : ∀ v ∈ as, okV k v) : ∀ v ∈ pEnt n as, okV k v := by
  intro v hv
  simp only [pEnt] at hv
  rcases List.mem_append.mp hv with q | q
  · obtain ⟨u, h1, h2⟩ := List.mem_flatMap.mp q
    split at h2
    · simp only [List.mem_cons, List.not_mem_nil, or_false] at h2
      rcases h2 with rfl | rfl
      · exact h v h1
      · exact ok_9
    · simp only [List.mem_cons, List.not_mem_nil, or_false] at h2
      rw [h2]; exact h u h1
  · rw [List.mem_replicate] at q; rw [q.2]; exact ok_9
/-- a method whose body is true keeps its contract one level higher -/
theorem pMeth {l : Launch} {g : pg} {d μ : Nat} {P : Nat → Nat × (Nat → Option pT)} {y : MethodName} {cc : ByteArray} {nL : Nat} {rt : Option FieldType} {code : Nat → Option pT} {th : List Nat} (hP : P μ = (nL, code)) (hy : plainName y.cls = true)
    (hB : pBody l g (pEv P d) code y cc nL rt th d) : pCon l g (pEv P (d + 1)) μ y (pWd y cc nL rt) (d + 1) (64 * (d + 1)) := by
  intro as w r w1 h h7
  have hlen := Nat.le_of_ble_eq_true h.2.1
  rw [hP] at hlen
  dsimp only at hlen
  refine ⟨h.1, fun ad sz okw oka => ?_⟩
  refine Met.ofW (cc := cc) (maxL := nL) (ret := rt) hy rfl ?_
  intro p e s m args below meth c s₁ B hml hv
  obtain ⟨hargs, hsz, hPw, hK, hD0, hG⟩ := hv
  subst hsz
  have hts := atoms_spec (ws := pWd y cc nL rt) B.pre
  have hown : s.vm.findClass y.cls = some m.cls := findClass_of_methodNamed B.named
  have C : pCtx p s m args c cc nL y.cls g (va_A (pWs g.2.1 ad g.2.2 w) s.heap.size) := ⟨B.exec, B.bytes, hml, hown, fun x hx => hts x (List.mem_cons_of_mem _ hx), hK, fun q h => Or.inr h, hG⟩
  have hb := hB p e { frames := d + 1, cells := w1.1.length - w.1.length, slots := nS w1 - nS w, locals := 64 * (d + 1) } s m args below meth c (MQ below (pQc g ad w r w1 s.heap.size) args s (w1.1.length - w.1.length) (nS w1 - nS w) (va_A (pWs g.2.1 ad g.2.2 w) s.heap.size)) (va_A (pWs g.2.1 ad g.2.2 w) s.heap.size) (ad, w) w1 r C B.returns B.notSynchronized (name_of_methodNamed B.named B.method).1 rfl ⟨Nat.le_refl _, Nat.le_refl _⟩ ⟨rfl, rfl⟩ (fun _ _ _ _ _ k => k) (fun q => absurd (by rw [q]) h7)
  have h2 := h.2.2
  rw [hP] at h2
  have hx := h2 (pX p l e { frames := d + 1, cells := w1.1.length - w.1.length, slots := nS w1 - nS w, locals := 64 * (d + 1) } s m args below meth c (MQ below (pQc g ad w r w1 s.heap.size) args s (w1.1.length - w.1.length) (nS w1 - nS w) (va_A (pWs g.2.1 ad g.2.2 w) s.heap.size)) g nL (va_A (pWs g.2.1 ad g.2.2 w) s.heap.size) (ad, w) w1 (0, 0)) (fun pc L S w2 ⟨t, ht, q⟩ => hb pc t ht L S w2 q)
  have hk := hx.2 ad s.heap [] ((lg_sl (as.map (cV ad g.2.2)) ++ List.replicate (nL - (lg_sl (as.map (cV ad g.2.2))).length) Slot.unset).toArray) ⟨fun _ _ => rfl, ⟨Nat.le_refl _, Nat.le_refl _⟩, okw, ent_ok oka, fun v hv => by simp at hv, pEnt_len hlen, ent_lvL hlen, hPw, hD0.self, va_S.rf⟩
  rw [Nat.sub_self, Nat.sub_self] at hk
  rw [hargs, lg_entry_eq]
  rw [hargs] at hk
  exact hk
theorem rr {a : Int} (h : (decide (-2147483648 ≤ a) && decide (a < 2147483648)) = true) : r32 a := by
  rw [Bool.and_eq_true] at h; exact ⟨of_decide_eq_true h.1, of_decide_eq_true h.2⟩
theorem rrl {a : Int} (h : (decide (-9223372036854775808 ≤ a) && decide (a < 9223372036854775808)) = true) : r64 a := by
  rw [Bool.and_eq_true] at h; exact ⟨of_decide_eq_true h.1, of_decide_eq_true h.2⟩
theorem pRoom {R : Room} {d n : Nat} (hF : R.frames = d + 1 ∧ R.locals = 64 * (d + 1)) (hn : Nat.ble n 45 = true) : d + 1 ≤ R.frames ∧ 8 + (n + 11) + 64 * d ≤ R.locals := by
  have := Nat.le_of_ble_eq_true hn
  rw [hF.1, hF.2]; exact ⟨Nat.le_refl _, by omega⟩
theorem pl_ok {ws : List Cond} (h : ws.all (fun w => decide (w ∈ lw_tbl) && goodWord w) = true) : ∀ w ∈ ws, w ∈ pTb := fun w hw => by
  have h1 := List.all_eq_true.mp h w hw
  rw [Bool.and_eq_true] at h1
  exact List.mem_filter.mpr ⟨of_decide_eq_true h1.1, h1.2⟩

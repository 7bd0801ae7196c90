/-! THE LAW'S HELPERS, which catch what a call throws. Written by tools/hlp.py. -/
section PS
variable {p : Program} {l : Launch} {e : Env} {R : Room} {s : State} {m : MethodId} {args : Array Value} {below : List Frame} {meth : Method} {c : Code} {Q : State → Prop} {cc : ByteArray} {nL : Nat} {own : String} {g : pg} {A : Nat → Prop} {f : (Nat → Nat) × pW} {wE : pW} {k0 : Nat × Nat}
variable {Φ : pC} {E : pE} {pc nx : Nat} {L S : List pV} {w : pW}
/-- a call that throws: what the caller does with it -/
theorem s_invX (C : pCtx p s m args c cc nL own g A) {μ n n1 fr lo ix maxL ci N : Nat} {y : MethodName} {b : ByteArray} {rt : Option FieldType} {T : u_T} (hc : pConX l g Φ μ y (pWd y b maxL rt) fr lo) (hR : wE.1.length - f.2.1.length + 1 ≤ R.cells ∧ nS wE - nS f.2 + 6 ≤ R.slots) (hF : fr + 1 ≤ R.frames ∧ 8 + (maxL + 11) + lo ≤ R.locals) (hn1 : n1 + 1 = n) (hcl : vwCl[ci]? = some (y.cls, T, N))
    (hco : Cond.code y b maxL rt ∈ pTb) (hln : Cond.methodLink own ix y ∈ pTb) (him : Cond.instanceMethod y ∈ pTb) (hse : Cond.selects y.cls y y ∈ pTb) (hin : Cond.initialized y.cls ∈ pTb) (hp : plain y n1) (d : decode cc pc = .ok (.invokevirtual ix, 3))
    {as' : List pV} {o N' : Nat} {x : Int} (hn : n ≤ S.length) (h8 : ((S.drop n).map cat).sum ≤ 8) (ht : (S.take n).reverse = (o + 16, x) :: as') (hs : w.1[o]? = some (ci + 4, N')) (hΦ : Φ μ ((o + 16, x) :: as') w (7, 0) wE)
    (hk : ∀ (ad : Nat → Nat) (H : Heap) (locs : List Loc) (ls : Array Slot) (q : Addr) (ce : Cell), pInv s g nL A f ad H locs ls L [] wE → H[q]? = some ce → ce.vm = .none → s.vm.findClass NSE = some ce.cls → vx_W p l e R s m args below meth c H locs (wE.1.length - f.2.1.length + 1) (nS wE - nS f.2 + 6) Q (F0 m pc ls ((S.drop n).map (cV ad g.2.2))) q) :
    pX p l e R s m args below meth c Q g nL A f wE (0, 0) pc L S w := by
  obtain ⟨⟨b1, b2⟩, hM⟩ := hc _ w wE hΦ
  refine ⟨⟨b1, b2⟩, fun ad H locs ls hi => ?_⟩
  obtain ⟨i1, i2, i3, i4, i5, i6, i7, i8, i9, i10⟩ := hi
  have hS' : S = ((o + 16, x) :: as').reverse ++ S.drop n := split_take ht
  have oka : ∀ v ∈ (o + 16, x) :: as', okV w.1.length v := fun v hv => i5 v (by rw [hS']; exact List.mem_append_left _ (List.mem_reverse.mpr hv))
  have okS : ∀ v ∈ S.drop n, okV w.1.length v := fun v hv => i5 v (by rw [hS']; exact List.mem_append_right _ hv)
  have hsub := pA_sub i9 i10 C.2.2.2.2.2.2.1
  have hpre : ∀ U : State, U.heap = H → s.WarmedH U.vm → pPc g ad ((o + 16, x) :: as') w H.size (((o + 16, x) :: as').map (cV ad g.2.2)).toArray U := fun U hU hW =>
    ⟨rfl, by rw [hU], by rw [hU]; exact i8, va_K.moved hW.alike C.2.2.2.2.2.1, i9.weaken (fun _ _ _ _ => trivial), by rw [hU]; exact (((C.2.2.2.2.2.2.2).kept i10.2.1).narrow hsub).moved hW⟩
  have hr := vx_runV (cells := w.1.length - f.2.1.length + 0) (slots := nS w - nS f.2 + 0) (locs := locs) (meth := meth) (p := p) (e := e) (below := below) (m := m) (c := c) (C := y.cls) (b := ad o) (As := as'.map (cV ad g.2.2)) (rest := (S.drop n).map (cV ad g.2.2)) (g := F0 m pc ls (S.map (cV ad g.2.2))) ⟨C.1, C.2.1, C.2.2.1, C.2.2.2.1, C.2.2.2.2.1⟩ (hM ad H.size i3 oka)
    ⟨callB_of n1 C.2.2.2.2.1 (pTb_good (pWd_in hco)) rfl rfl rfl (C.2.2.2.2.1 _ hin) (C.2.2.2.2.1 _ hln) hp hF, C.2.2.2.2.1 _ him, C.2.2.2.2.1 _ hse⟩ ⟨pPc_blind, va_recv (q := (y.cls, T, N)) C.2.2.2.2.2.1 i8 (q0 := o) (fs := (List.range N').map (fun j => fV ad g.2.2 w ci o j)) hcl (by rw [pWs_get hs, pCell_o]), fun U hU hW => by have := hpre U hU hW; rw [List.map_cons, cV_r] at this; exact this⟩ rfl (by have := len_cons hn ht; simp; omega) (by rw [← i6]; exact i7.1) (st_cons ht) (by rw [cat_sum]; show 2 * 0 + _ ≤ 8; omega) d ⟨by have := i2.1; omega, by have := i2.2; omega⟩
  intro T0 hT X
  rcases hr T0 hT X with ⟨v, st₀, t, T', L', h0, X', hL, e1, e2, hfalse, st⟩ | ⟨q, st₀, t, T', L', E0, ce, h0, X', hL, e1, e2, ⟨hE, ⟨ad', ha, hok, hP, hD⟩, hz, hkk⟩, hce, hcv, hcl0, st⟩
  · exact hfalse.elim
  · subst hE
    rw [h0] at hz hkk
    have c1 : w.1.length - f.2.1.length + 0 + (wE.1.length - w.1.length + 1) = wE.1.length - f.2.1.length + 1 := by have := i2.1; omega
    have c2 : nS w - nS f.2 + 0 + (nS wE - nS w + 6) = nS wE - nS f.2 + 6 := by have := i2.2; omega
    rw [c1, c2] at X'
    obtain ⟨t2, a1, b1'⟩ := hk ad' T'.heap (locs ++ L') ls q ce ⟨fun k hk => (ha k (by have := i2.1; omega)).trans (i1 k hk), ⟨by have := i2.1; omega, by have := i2.2; omega⟩, hok, fun v hv => ok_mono (i4 v hv) b1, fun v hv => by simp at hv, i6, lvL_ext i4 ha i7, by rw [e1]; exact hP, hD.weaken (fun k q _ z => hsub q.1 z),
      ⟨Nat.le_trans i10.1 (by rw [e1]; exact hz), fun q h1 h2 => by rw [e1, hkk q (Nat.lt_of_lt_of_le h1 i10.1) (fun z => h2 (hsub q z))]; exact i10.2.1 q h1 h2, fun q hq => by
        rcases List.mem_append.mp hq with h | h
        · exact i10.2.2 q h
        · exact hsub _ (hL q h)⟩⟩ (by rw [e1]; exact hce) hcv hcl0 T' rfl X'
    rw [map_ext okS ha] at a1
    exact ⟨t2, st.trans a1, b1'⟩
end PS
def pWdH (y : MethodName) (cc : ByteArray) (nL : Nat) (hh : List (Nat × Nat × Nat × Nat)) : List Cond := .codeWith y cc nL (some .int) hh :: pTb
theorem pWdH_in {y : MethodName} {b : ByteArray} {n : Nat} {hh : List (Nat × Nat × Nat × Nat)} (h : Cond.codeWith y b n (some .int) hh ∈ pTb) : ∀ w ∈ pWdH y b n hh, w ∈ pTb := fun w hw => by
  rcases List.mem_cons.mp hw with rfl | hw
  · exact h
  · exact hw
/-- what a helper does to these arguments in this world: k more cells and slots than the world tells -/
def pConH (l : Launch) (g : pg) (y : MethodName) (ws : List Cond) (fr lo : Nat) (as : List pV) (w : pW) (r : pV) (w1 : pW) (k : Nat × Nat) : Prop :=
  (w.1.length ≤ w1.1.length ∧ nS w ≤ nS w1) ∧ ∀ (ad : Nat → Nat) (sz : Nat), pOkW w → (∀ v ∈ as, okV w.1.length v) →
    Met l y ws { frames := fr, cells := w1.1.length - w.1.length + k.1, slots := nS w1 - nS w + k.2, locals := lo } (pPc g ad as w sz) (pQc g ad w r w1 sz) (w1.1.length - w.1.length + k.1) (nS w1 - nS w + k.2) (va_A (pWs g.2.1 ad g.2.2 w) sz)
theorem pMethH {l : Launch} {g : pg} {y : MethodName} {cc : ByteArray} {nL fr lo : Nat} {hh : List (Nat × Nat × Nat × Nat)} {as : List pV} {w : pW} {r : pV} {w1 : pW} {k : Nat × Nat} (hy : plainName y.cls = true) (hlen : (as.flatMap (fun v => if v.1 = 1 then [v, ((9, 0) : pV)] else [v])).length ≤ nL) (hbd : w.1.length ≤ w1.1.length ∧ nS w ≤ nS w1)
    (body : ∀ (p : Program) (e : Env) (s : State) (m : MethodId) (args : Array Value) (below : List Frame) (meth : Method) (c : Code) (ad : Nat → Nat), pCtx p s m args c cc nL y.cls g (va_A (pWs g.2.1 ad g.2.2 w) s.heap.size) → meth.sig.returnType = some .int → meth.locks = false → c.exceptionTable.toList = tableOf hh →
      pX p l e { frames := fr, cells := w1.1.length - w.1.length + k.1, slots := nS w1 - nS w + k.2, locals := lo } s m args below meth c (MQ below (pQc g ad w r w1 s.heap.size) args s (w1.1.length - w.1.length + k.1) (nS w1 - nS w + k.2) (va_A (pWs g.2.1 ad g.2.2 w) s.heap.size)) g nL (va_A (pWs g.2.1 ad g.2.2 w) s.heap.size) (ad, w) w1 (0, 0) 0 (pEnt nL as) [] w) : pConH l g y (pWdH y cc nL hh) fr lo as w r w1 k := by
  refine ⟨hbd, fun ad sz okw oka => ?_⟩
  refine va_MetW (cc := cc) (maxL := nL) (ret := some .int) (hh := hh) hy rfl ?_
  intro p e s m args below meth c s₁ B hml hv
  obtain ⟨hargs, hsz, hPw, hK, hD0, hG⟩ := hv
  subst hsz
  have hts := atoms_spec (ws := pWdH y cc nL hh) B.pre
  have hown : s.vm.findClass y.cls = some m.cls := findClass_of_methodNamed B.named
  have C : pCtx p s m args c cc nL y.cls g (va_A (pWs g.2.1 ad g.2.2 w) s.heap.size) := ⟨B.exec, B.bytes, hml, hown, fun x hx => hts x (List.mem_cons_of_mem _ hx), hK, fun q h => Or.inr h, hG⟩
  have hx := body p e s m args below meth c ad C B.returns B.notSynchronized (vx_table (x := y) B (hts _ List.mem_cons_self))
  have hk := hx.2 ad s.heap [] ((lg_sl (as.map (cV ad g.2.2)) ++ List.replicate (nL - (lg_sl (as.map (cV ad g.2.2))).length) Slot.unset).toArray) ⟨fun _ _ => rfl, ⟨Nat.le_refl _, Nat.le_refl _⟩, okw, ent_ok oka, fun v hv => by simp at hv, pEnt_len hlen, ent_lvL hlen, hPw, hD0.self, va_S.rf⟩
  rw [Nat.sub_self, Nat.sub_self] at hk
  rw [hargs, lg_entry_eq]
  rw [hargs] at hk
  exact hk
section PS
variable {p : Program} {l : Launch} {e : Env} {R : Room} {s : State} {m : MethodId} {args : Array Value} {below : List Frame} {meth : Method} {c : Code} {Q : State → Prop} {cc : ByteArray} {nL : Nat} {own : String} {g : pg} {A : Nat → Prop} {f : (Nat → Nat) × pW} {wE : pW} {k0 : Nat × Nat}
variable {Φ : pC} {E : pE} {pc nx : Nat} {L S : List pV} {w : pW}
/-- the law calls a helper -/
theorem s_invH (C : pCtx p s m args c cc nL own g A) {n fr lo ix nLh : Nat} {y : MethodName} {cb : ByteArray} {hh : List (Nat × Nat × Nat × Nat)} {r : pV} {w1 : pW} {k : Nat × Nat} (hc : pConH l g y (pWdH y cb nLh hh) fr lo (S.take n).reverse w r w1 k) (hR : wE.1.length - f.2.1.length + (k0.1 + k.1) ≤ R.cells ∧ nS wE - nS f.2 + (k0.2 + k.2) ≤ R.slots) (hF : fr + 1 ≤ R.frames ∧ 8 + (nLh + 11) + lo ≤ R.locals)
    (hco : Cond.codeWith y cb nLh (some .int) hh ∈ pTb) (hln : Cond.methodLink own ix y ∈ pTb) (hst : Cond.static y ∈ pTb) (hin : Cond.initialized y.cls ∈ pTb) (hp : plain y n) (d : decode cc pc = .ok (.invokestatic ix, 3)) (hn : n ≤ S.length) (h8 : ((S.drop n).map cat).sum ≤ 8) (h : pX p l e R s m args below meth c Q g nL A f wE (k0.1 + k.1, k0.2 + k.2) (pc + 3) L (pRet r (S.drop n)) w1) :
    pX p l e R s m args below meth c Q g nL A f wE k0 pc L S w := by
  obtain ⟨⟨b1, b2⟩, hM⟩ := hc
  have hb := h.1
  refine ⟨⟨by omega, by omega⟩, fun ad H locs ls hi => ?_⟩
  obtain ⟨i1, i2, i3, i4, i5, i6, i7, i8, i9, i10⟩ := hi
  have hS' : S = (S.take n).reverse.reverse ++ S.drop n := split_take rfl
  have oka : ∀ v ∈ (S.take n).reverse, okV w.1.length v := fun v hv => i5 v (List.mem_of_mem_take (List.mem_reverse.mp hv))
  have okS : ∀ v ∈ S.drop n, okV w.1.length v := fun v hv => i5 v (List.mem_of_mem_drop hv)
  have hsub := pA_sub i9 i10 C.2.2.2.2.2.2.1
  have hpre : ∀ U : State, U.heap = H → s.WarmedH U.vm → pPc g ad (S.take n).reverse w H.size ((S.take n).reverse.map (cV ad g.2.2)).toArray U := fun U hU hW =>
    ⟨rfl, by rw [hU], by rw [hU]; exact i8, va_K.moved hW.alike C.2.2.2.2.2.1, i9.weaken (fun _ _ _ _ => trivial), by rw [hU]; exact (((C.2.2.2.2.2.2.2).kept i10.2.1).narrow hsub).moved hW⟩
  have hr := vx_runSW (cells := w.1.length - f.2.1.length + k0.1) (slots := nS w - nS f.2 + k0.2) (locs := locs) (meth := meth) (p := p) (e := e) (below := below) (m := m) (c := c) (As := (S.take n).reverse.map (cV ad g.2.2)) (rest := (S.drop n).map (cV ad g.2.2)) (g := F0 m pc ls (S.map (cV ad g.2.2))) ⟨C.1, C.2.1, C.2.2.1, C.2.2.2.1, C.2.2.2.2.1⟩ (hM ad H.size i3 oka)
    ⟨⟨rfl, rfl, hF.1, hF.2, pay_in C.2.2.2.2.1 (pTb_good (pWdH_in hco)), List.mem_cons_self⟩, C.2.2.2.2.1 _ hco, C.2.2.2.2.1 _ hin, ⟨hp.1, hp.2.1⟩, fun sig h => by
      have h2 := hp.2.2
      rw [h] at h2
      exact (Option.some.inj h2).symm, C.2.2.2.2.1 _ hln, C.2.2.2.2.1 _ hst⟩ ⟨pPc_blind, fun U hU hW => hpre U hU hW⟩ rfl (by simp; omega) (by rw [← i6]; exact i7.1) (by rw [← List.map_reverse, ← List.map_append, ← split_take rfl]) (by rw [cat_sum]; show 2 * 0 + _ ≤ 8; omega) d ⟨by have := i2.1; omega, by have := i2.2; omega⟩
  refine pX_call hr i10 hsub (fun ad' H1 locs1 ha ok1 okr p1 p2 p3 => ?_)
  have kk := h.2 ad' H1 locs1 ls ⟨fun k hk => (ha k (by have := i2.1; omega)).trans (i1 k hk), ⟨by have := i2.1; omega, by have := i2.2; omega⟩, ok1, fun v hv => ok_mono (i4 v hv) b1, fun v hv => by
    unfold pRet at hv
    split at hv
    · exact ok_mono (okS v hv) b1
    · rcases List.mem_cons.mp hv with rfl | hv
      · exact okr
      · exact ok_mono (okS v hv) b1, i6, lvL_ext i4 ha i7, p1, p2, p3⟩
  rw [pRet_map, map_ext okS ha] at kk
  have c1 : w1.1.length - f.2.1.length + (k0.1 + k.1) = w.1.length - f.2.1.length + k0.1 + (w1.1.length - w.1.length + k.1) := by have := i2.1; omega
  have c2 : nS w1 - nS f.2 + (k0.2 + k.2) = nS w - nS f.2 + k0.2 + (nS w1 - nS w + k.2) := by have := i2.2; omega
  rw [← c1, ← c2]
  exact kk
/-- the handler: the exception is put away, 1 is returned -/
theorem s_hand (C : pCtx p s m args c cc nL own g A) {ad0 : Nat → Nat} {w0 : pW} {t0 t1 hp j pc : Nat} {rest : List Value} (hf : f = (ad0, w0)) (hA : A = va_A (pWs g.2.1 ad0 g.2.2 w0) s.heap.size) (hQ : Q = MQ below (pQc g ad0 w0 (0, 1) wE s.heap.size) args s (wE.1.length - w0.1.length + 1) (nS wE - nS w0 + 6) A) (hrt : meth.sig.returnType = some .int) (hlk : meth.locks = false) (hx : c.exceptionTable.toList = [⟨t0, t1, hp, 13⟩]) (hcov : covers ⟨t0, t1, hp, 13⟩ pc = true) (hlink : Cond.classLink own 13 NSE ∈ pTb) (hj : j < nL)
    (d0 : decode cc hp = .ok (.astore j, 2)) (d2 : decode cc (hp + 2) = .ok (.iconst 1, 1)) (d3 : decode cc (hp + 3) = .ok (.ireturn, 1)) {ad : Nat → Nat} {H : Heap} {locs : List Loc} {ls : Array Slot} {q : Addr} {ce : Cell} (hi : pInv s g nL A f ad H locs ls L [] wE) (hce : H[q]? = some ce) (hcv : ce.vm = .none) (hcl : s.vm.findClass NSE = some ce.cls) :
    vx_W p l e R s m args below meth c H locs (wE.1.length - f.2.1.length + 1) (nS wE - nS f.2 + 6) Q (F0 m pc ls rest) q := by
  subst hf
  obtain ⟨i1, i2, i3, i4, i5, i6, i7, i8, i9, i10⟩ := hi
  refine vx_catch (own := own) (name := NSE) (E := NSE) C.2.2.2.1 [] ⟨t0, t1, hp, 13⟩ [] (by rw [hx]; rfl) (fun z hz => nomatch hz) hcov (by simp) (C.2.2.2.2.1 _ hlink) (C.2.2.2.2.2.2.2.2.2.2.2.2.2.2.2.2.use rfl) hce hcv hcl ?_
  refine lv_astore C.1 C.2.1 d0 i7.has (by rw [i6]; exact hj) rfl (fun ls' _ => lv_iconst C.1 C.2.1 d2 rfl ?_)
  rw [hQ]
  exact W.iret C.1 C.2.1 hrt (fun t ht hW => ⟨⟨ad, rfl, i1, ⟨i3, ok_i (by unfold r32; omega)⟩, by rw [ht]; exact i8, by rw [← hA]; exact i9⟩, by rw [← hA]; exact i10.F ht⟩) i10.2.2 d3 hlk
end PS
theorem wL_k13 : Cond.classLink RL 13 NSE ∈ pTb := pwi (tk5 (List.mem_of_getElem? (i := 73) rfl)) rfl
theorem wL_m_meet : Cond.methodLink RL 7 yX9_meet ∈ pTb := pwi (tk5 (List.mem_of_getElem? (i := 74) rfl)) rfl
theorem wL_h_meet : Cond.methodLink RL 72 yL_meet ∈ pTb := pwi (tk5 (List.mem_of_getElem? (i := 70) rfl)) rfl
theorem wL_s_meet : Cond.static yL_meet ∈ pTb := pwi (tk5 (List.mem_of_getElem? (i := 71) rfl)) rfl
theorem wL_c_meet : Cond.codeWith yL_meet cL_meet 6 (some .int) [(0, 12, 15, 13)] ∈ pTb := pwi (tk5 (List.mem_of_getElem? (i := 72) rfl)) rfl
set_option maxRecDepth 100000 in
set_option maxHeartbeats 4000000 in
theorem hr_meet {l : Launch} {g : pg} {d : Nat} {a b c v : Int} {w w1 : pW} (h0 : w.1[0]? = some (13, 11)) (h1 : w1.1[122]? = some (1, 1)) (h : Ev (d + 1) 8 [(16, 0), (0, a), (0, b), (0, c)] w (0, v) w1) : pConH l g yL_meet (pWdH yL_meet cL_meet 6 [(0, 12, 15, 13)]) (d + 2) (64 * (d + 2)) [(16, 0), (0, a), (0, b), (0, c), (138, 0)] w (0, 0) (w1.1, w1.2.1, up2 w1.2.2 122 0 v) (0, 0) := by
  have hb := (((pAll (l := l) (g := g) (d + 1)).1 8 rfl (by decide) (by decide)) _ _ _ _ h (by simp)).1
  refine pMethH (by decide +kernel) (by simp) hb ?_
  intro p e s m args below meth cd ad C hrt hlk hx
  have HK : pX p l e { frames := d + 2, cells := w1.1.length - w.1.length + 0, slots := nS w1 - nS w + 0, locals := 64 * (d + 2) } s m args below meth cd (MQ below (pQc g ad w (0, 0) (w1.1, w1.2.1, up2 w1.2.2 122 0 v) s.heap.size) args s (w1.1.length - w.1.length + 0) (nS w1 - nS w + 0) (va_A (pWs g.2.1 ad g.2.2 w) s.heap.size)) g 6 (va_A (pWs g.2.1 ad g.2.2 w) s.heap.size) (ad, w) (w1.1, w1.2.1, up2 w1.2.2 122 0 v) (0, 0) 7 [(16, 0), (0, a), (0, b), (0, c), (138, 0), (9, 0)] [(0, c), (0, b), (0, a), (16, 0), (0, 0), (138, 0)] w := by
    refine s_invv (Φ := Ev (d + 1)) (E := fun _ _ => False) (y := yX9_meet) (b := cX9_meet) (maxL := 4) (rt := some .int) (fr := d + 1) (lo := 64 * (d + 1)) (n := 4) (n1 := 3) C ((pAll (l := l) (g := g) (d + 1)).1 8 rfl (by decide) (by decide)) ⟨Nat.le_refl _, Nat.le_refl _⟩ ⟨Nat.le_refl _, by show 8 + (4 + 11) + 64 * (d + 1) ≤ 64 * (d + 2); omega⟩ rfl (ci := 9) rfl (pwi (tk5 (List.mem_of_getElem? (i := 77) rfl)) rfl) wL_m_meet (pwi (tk5 (List.mem_of_getElem? (i := 75) rfl)) rfl) (pwi (tk5 (List.mem_of_getElem? (i := 76) rfl)) rfl) (pwi (tk1 (List.mem_of_getElem? (i := 1) rfl)) rfl) ⟨by decide, by decide, by decide +kernel⟩ (show decode cL_meet 7 = .ok (.invokevirtual 7, 3) by decide +kernel) ⟨(0, v), w1, 0, 0, [(0, a), (0, b), (0, c)], 11, by simp, by simp [cat], rfl, h0, h, by simp, ?_⟩
    refine s_i2l (Φ := Ev (d + 1)) (E := fun _ _ => False) C (show decode cL_meet 10 = .ok (.i2l, 1) by decide +kernel) ⟨v, _, rfl, ?_⟩
    refine s_last (Φ := Ev (d + 1)) (E := fun _ _ => False) C (show decode cL_meet 11 = .ok (.lastore, 1) by decide +kernel) ⟨v, 0, 122, 0, 1, _, rfl, h1, by decide, by decide, ?_⟩
    refine s_goto (Φ := Ev (d + 1)) (E := fun _ _ => False) (tg := 19) C (show decode cL_meet 12 = .ok (.goto 7, 3) by decide +kernel) rfl ?_
    refine s_iconst (Φ := Ev (d + 1)) (E := fun _ _ => False) C (show decode cL_meet 19 = .ok (.iconst 0, 1) by decide +kernel) (by unfold r32; omega) ?_
    exact s_iret (Φ := Ev (d + 1)) (r := (0, 0)) C hrt hlk rfl (fun _ _ _ _ _ k => k) (show decode cL_meet 20 = .ok (.ireturn, 1) by decide +kernel) ⟨0, rfl, rfl, rfl⟩
  exact s_aload C (show decode cL_meet 0 = .ok (.aload 4, 2) by decide +kernel) (Φ := Ev (d + 1)) (E := fun _ _ => False) ⟨138, 0, rfl, by decide, by decide, (s_iconst (Φ := Ev (d + 1)) (E := fun _ _ => False) C (show decode cL_meet 2 = .ok (.iconst 0, 1) by decide +kernel) (by unfold r32; omega) (s_aload_n (Φ := Ev (d + 1)) (E := fun _ _ => False) C (show decode cL_meet 3 = .ok (.aload_n 0, 1) by decide +kernel) rfl ⟨16, 0, rfl, by decide, by decide, (s_iload_n (Φ := Ev (d + 1)) (E := fun _ _ => False) C (show decode cL_meet 4 = .ok (.iload_n 1, 1) by decide +kernel) rfl ⟨a, rfl, (s_iload_n (Φ := Ev (d + 1)) (E := fun _ _ => False) C (show decode cL_meet 5 = .ok (.iload_n 2, 1) by decide +kernel) rfl ⟨b, rfl, (s_iload_n (Φ := Ev (d + 1)) (E := fun _ _ => False) C (show decode cL_meet 6 = .ok (.iload_n 3, 1) by decide +kernel) rfl ⟨c, rfl, HK⟩)⟩)⟩)⟩))⟩
set_option maxRecDepth 100000 in
set_option maxHeartbeats 4000000 in
theorem ht_meet {l : Launch} {g : pg} (hl : l.stackTraces = false) {d : Nat} (hd : 10 ≤ d) {a b c : Int} {w w1 : pW} (h0 : w.1[0]? = some (13, 11)) (h : Ev (d + 1) 8 [(16, 0), (0, a), (0, b), (0, c)] w (7, 0) w1) : pConH l g yL_meet (pWdH yL_meet cL_meet 6 [(0, 12, 15, 13)]) (d + 2) (64 * (d + 2)) [(16, 0), (0, a), (0, b), (0, c), (138, 0)] w (0, 1) w1 (1, 6) := by
  have hb := (cx_X9_meet (g := g) hl hd _ _ _ h).1
  refine pMethH (by decide +kernel) (by simp) hb ?_
  intro p e s m args below meth cd ad C hrt hlk hx
  have HK : pX p l e { frames := d + 2, cells := w1.1.length - w.1.length + 1, slots := nS w1 - nS w + 6, locals := 64 * (d + 2) } s m args below meth cd (MQ below (pQc g ad w (0, 1) w1 s.heap.size) args s (w1.1.length - w.1.length + 1) (nS w1 - nS w + 6) (va_A (pWs g.2.1 ad g.2.2 w) s.heap.size)) g 6 (va_A (pWs g.2.1 ad g.2.2 w) s.heap.size) (ad, w) w1 (0, 0) 7 [(16, 0), (0, a), (0, b), (0, c), (138, 0), (9, 0)] [(0, c), (0, b), (0, a), (16, 0), (0, 0), (138, 0)] w := by
    refine s_invX (Φ := Ev (d + 1)) (y := yX9_meet) (b := cX9_meet) (maxL := 4) (rt := some .int) (fr := d + 1) (lo := 64 * (d + 1)) (n := 4) (n1 := 3) C (cx_X9_meet hl hd) ⟨Nat.le_refl _, Nat.le_refl _⟩ ⟨Nat.le_refl _, by show 8 + (4 + 11) + 64 * (d + 1) ≤ 64 * (d + 2); omega⟩ rfl (ci := 9) rfl (pwi (tk5 (List.mem_of_getElem? (i := 77) rfl)) rfl) wL_m_meet (pwi (tk5 (List.mem_of_getElem? (i := 75) rfl)) rfl) (pwi (tk5 (List.mem_of_getElem? (i := 76) rfl)) rfl) (pwi (tk1 (List.mem_of_getElem? (i := 1) rfl)) rfl) ⟨by decide, by decide, by decide +kernel⟩ (show decode cL_meet 7 = .ok (.invokevirtual 7, 3) by decide +kernel) (o := 0) (N' := 11) (x := 0) (as' := [(0, a), (0, b), (0, c)]) (by simp) (by simp [cat]) rfl h0 h ?_
    intro ad1 H locs ls q ce hi hce hcv hcl
    exact s_hand C rfl rfl rfl hrt hlk hx rfl wL_k13 (j := 5) (by decide) (show decode cL_meet 15 = .ok (.astore 5, 2) by decide +kernel) (show decode cL_meet 17 = .ok (.iconst 1, 1) by decide +kernel) (show decode cL_meet 18 = .ok (.ireturn, 1) by decide +kernel) hi hce hcv hcl
  exact s_aload C (show decode cL_meet 0 = .ok (.aload 4, 2) by decide +kernel) (Φ := Ev (d + 1)) (E := fun _ _ => False) ⟨138, 0, rfl, by decide, by decide, (s_iconst (Φ := Ev (d + 1)) (E := fun _ _ => False) C (show decode cL_meet 2 = .ok (.iconst 0, 1) by decide +kernel) (by unfold r32; omega) (s_aload_n (Φ := Ev (d + 1)) (E := fun _ _ => False) C (show decode cL_meet 3 = .ok (.aload_n 0, 1) by decide +kernel) rfl ⟨16, 0, rfl, by decide, by decide, (s_iload_n (Φ := Ev (d + 1)) (E := fun _ _ => False) C (show decode cL_meet 4 = .ok (.iload_n 1, 1) by decide +kernel) rfl ⟨a, rfl, (s_iload_n (Φ := Ev (d + 1)) (E := fun _ _ => False) C (show decode cL_meet 5 = .ok (.iload_n 2, 1) by decide +kernel) rfl ⟨b, rfl, (s_iload_n (Φ := Ev (d + 1)) (E := fun _ _ => False) C (show decode cL_meet 6 = .ok (.iload_n 3, 1) by decide +kernel) rfl ⟨c, rfl, HK⟩)⟩)⟩)⟩))⟩
theorem wL_m_seat : Cond.methodLink RL 28 yX9_seat ∈ pTb := pwi (tk6 (List.mem_of_getElem? (i := 43) rfl)) rfl
theorem wL_h_seat : Cond.methodLink RL 119 yL_seat ∈ pTb := pwi (tk6 (List.mem_of_getElem? (i := 40) rfl)) rfl
theorem wL_s_seat : Cond.static yL_seat ∈ pTb := pwi (tk6 (List.mem_of_getElem? (i := 41) rfl)) rfl
theorem wL_c_seat : Cond.codeWith yL_seat cL_seat 6 (some .int) [(0, 12, 15, 13)] ∈ pTb := pwi (tk6 (List.mem_of_getElem? (i := 42) rfl)) rfl
set_option maxRecDepth 100000 in
set_option maxHeartbeats 4000000 in
theorem hr_seat {l : Launch} {g : pg} {d : Nat} {a b c v : Int} {w w1 : pW} (h0 : w.1[0]? = some (13, 11)) (h1 : w1.1[122]? = some (1, 1)) (h : Ev (d + 1) 19 [(16, 0), (0, a), (0, b), (0, c)] w (0, v) w1) : pConH l g yL_seat (pWdH yL_seat cL_seat 6 [(0, 12, 15, 13)]) (d + 2) (64 * (d + 2)) [(16, 0), (0, a), (0, b), (0, c), (138, 0)] w (0, 0) (w1.1, w1.2.1, up2 w1.2.2 122 0 v) (0, 0) := by
  have hb := (((pAll (l := l) (g := g) (d + 1)).1 19 rfl (by decide) (by decide)) _ _ _ _ h (by simp)).1
  refine pMethH (by decide +kernel) (by simp) hb ?_
  intro p e s m args below meth cd ad C hrt hlk hx
  have HK : pX p l e { frames := d + 2, cells := w1.1.length - w.1.length + 0, slots := nS w1 - nS w + 0, locals := 64 * (d + 2) } s m args below meth cd (MQ below (pQc g ad w (0, 0) (w1.1, w1.2.1, up2 w1.2.2 122 0 v) s.heap.size) args s (w1.1.length - w.1.length + 0) (nS w1 - nS w + 0) (va_A (pWs g.2.1 ad g.2.2 w) s.heap.size)) g 6 (va_A (pWs g.2.1 ad g.2.2 w) s.heap.size) (ad, w) (w1.1, w1.2.1, up2 w1.2.2 122 0 v) (0, 0) 7 [(16, 0), (0, a), (0, b), (0, c), (138, 0), (9, 0)] [(0, c), (0, b), (0, a), (16, 0), (0, 0), (138, 0)] w := by
    refine s_invv (Φ := Ev (d + 1)) (E := fun _ _ => False) (y := yX9_seat) (b := cX9_seat) (maxL := 4) (rt := some .int) (fr := d + 1) (lo := 64 * (d + 1)) (n := 4) (n1 := 3) C ((pAll (l := l) (g := g) (d + 1)).1 19 rfl (by decide) (by decide)) ⟨Nat.le_refl _, Nat.le_refl _⟩ ⟨Nat.le_refl _, by show 8 + (4 + 11) + 64 * (d + 1) ≤ 64 * (d + 2); omega⟩ rfl (ci := 9) rfl (pwi (tk6 (List.mem_of_getElem? (i := 46) rfl)) rfl) wL_m_seat (pwi (tk6 (List.mem_of_getElem? (i := 44) rfl)) rfl) (pwi (tk6 (List.mem_of_getElem? (i := 45) rfl)) rfl) (pwi (tk1 (List.mem_of_getElem? (i := 1) rfl)) rfl) ⟨by decide, by decide, by decide +kernel⟩ (show decode cL_seat 7 = .ok (.invokevirtual 28, 3) by decide +kernel) ⟨(0, v), w1, 0, 0, [(0, a), (0, b), (0, c)], 11, by simp, by simp [cat], rfl, h0, h, by simp, ?_⟩
    refine s_i2l (Φ := Ev (d + 1)) (E := fun _ _ => False) C (show decode cL_seat 10 = .ok (.i2l, 1) by decide +kernel) ⟨v, _, rfl, ?_⟩
    refine s_last (Φ := Ev (d + 1)) (E := fun _ _ => False) C (show decode cL_seat 11 = .ok (.lastore, 1) by decide +kernel) ⟨v, 0, 122, 0, 1, _, rfl, h1, by decide, by decide, ?_⟩
    refine s_goto (Φ := Ev (d + 1)) (E := fun _ _ => False) (tg := 19) C (show decode cL_seat 12 = .ok (.goto 7, 3) by decide +kernel) rfl ?_
    refine s_iconst (Φ := Ev (d + 1)) (E := fun _ _ => False) C (show decode cL_seat 19 = .ok (.iconst 0, 1) by decide +kernel) (by unfold r32; omega) ?_
    exact s_iret (Φ := Ev (d + 1)) (r := (0, 0)) C hrt hlk rfl (fun _ _ _ _ _ k => k) (show decode cL_seat 20 = .ok (.ireturn, 1) by decide +kernel) ⟨0, rfl, rfl, rfl⟩
  exact s_aload C (show decode cL_seat 0 = .ok (.aload 4, 2) by decide +kernel) (Φ := Ev (d + 1)) (E := fun _ _ => False) ⟨138, 0, rfl, by decide, by decide, (s_iconst (Φ := Ev (d + 1)) (E := fun _ _ => False) C (show decode cL_seat 2 = .ok (.iconst 0, 1) by decide +kernel) (by unfold r32; omega) (s_aload_n (Φ := Ev (d + 1)) (E := fun _ _ => False) C (show decode cL_seat 3 = .ok (.aload_n 0, 1) by decide +kernel) rfl ⟨16, 0, rfl, by decide, by decide, (s_iload_n (Φ := Ev (d + 1)) (E := fun _ _ => False) C (show decode cL_seat 4 = .ok (.iload_n 1, 1) by decide +kernel) rfl ⟨a, rfl, (s_iload_n (Φ := Ev (d + 1)) (E := fun _ _ => False) C (show decode cL_seat 5 = .ok (.iload_n 2, 1) by decide +kernel) rfl ⟨b, rfl, (s_iload_n (Φ := Ev (d + 1)) (E := fun _ _ => False) C (show decode cL_seat 6 = .ok (.iload_n 3, 1) by decide +kernel) rfl ⟨c, rfl, HK⟩)⟩)⟩)⟩))⟩
set_option maxRecDepth 100000 in
set_option maxHeartbeats 4000000 in
theorem ht_seat {l : Launch} {g : pg} (hl : l.stackTraces = false) {d : Nat} (hd : 10 ≤ d) {a b c : Int} {w w1 : pW} (h0 : w.1[0]? = some (13, 11)) (h : Ev (d + 1) 19 [(16, 0), (0, a), (0, b), (0, c)] w (7, 0) w1) : pConH l g yL_seat (pWdH yL_seat cL_seat 6 [(0, 12, 15, 13)]) (d + 2) (64 * (d + 2)) [(16, 0), (0, a), (0, b), (0, c), (138, 0)] w (0, 1) w1 (1, 6) := by
  have hb := (cx_X9_seat (g := g) hl hd _ _ _ h).1
  refine pMethH (by decide +kernel) (by simp) hb ?_
  intro p e s m args below meth cd ad C hrt hlk hx
  have HK : pX p l e { frames := d + 2, cells := w1.1.length - w.1.length + 1, slots := nS w1 - nS w + 6, locals := 64 * (d + 2) } s m args below meth cd (MQ below (pQc g ad w (0, 1) w1 s.heap.size) args s (w1.1.length - w.1.length + 1) (nS w1 - nS w + 6) (va_A (pWs g.2.1 ad g.2.2 w) s.heap.size)) g 6 (va_A (pWs g.2.1 ad g.2.2 w) s.heap.size) (ad, w) w1 (0, 0) 7 [(16, 0), (0, a), (0, b), (0, c), (138, 0), (9, 0)] [(0, c), (0, b), (0, a), (16, 0), (0, 0), (138, 0)] w := by
    refine s_invX (Φ := Ev (d + 1)) (y := yX9_seat) (b := cX9_seat) (maxL := 4) (rt := some .int) (fr := d + 1) (lo := 64 * (d + 1)) (n := 4) (n1 := 3) C (cx_X9_seat hl hd) ⟨Nat.le_refl _, Nat.le_refl _⟩ ⟨Nat.le_refl _, by show 8 + (4 + 11) + 64 * (d + 1) ≤ 64 * (d + 2); omega⟩ rfl (ci := 9) rfl (pwi (tk6 (List.mem_of_getElem? (i := 46) rfl)) rfl) wL_m_seat (pwi (tk6 (List.mem_of_getElem? (i := 44) rfl)) rfl) (pwi (tk6 (List.mem_of_getElem? (i := 45) rfl)) rfl) (pwi (tk1 (List.mem_of_getElem? (i := 1) rfl)) rfl) ⟨by decide, by decide, by decide +kernel⟩ (show decode cL_seat 7 = .ok (.invokevirtual 28, 3) by decide +kernel) (o := 0) (N' := 11) (x := 0) (as' := [(0, a), (0, b), (0, c)]) (by simp) (by simp [cat]) rfl h0 h ?_
    intro ad1 H locs ls q ce hi hce hcv hcl
    exact s_hand C rfl rfl rfl hrt hlk hx rfl wL_k13 (j := 5) (by decide) (show decode cL_seat 15 = .ok (.astore 5, 2) by decide +kernel) (show decode cL_seat 17 = .ok (.iconst 1, 1) by decide +kernel) (show decode cL_seat 18 = .ok (.ireturn, 1) by decide +kernel) hi hce hcv hcl
  exact s_aload C (show decode cL_seat 0 = .ok (.aload 4, 2) by decide +kernel) (Φ := Ev (d + 1)) (E := fun _ _ => False) ⟨138, 0, rfl, by decide, by decide, (s_iconst (Φ := Ev (d + 1)) (E := fun _ _ => False) C (show decode cL_seat 2 = .ok (.iconst 0, 1) by decide +kernel) (by unfold r32; omega) (s_aload_n (Φ := Ev (d + 1)) (E := fun _ _ => False) C (show decode cL_seat 3 = .ok (.aload_n 0, 1) by decide +kernel) rfl ⟨16, 0, rfl, by decide, by decide, (s_iload_n (Φ := Ev (d + 1)) (E := fun _ _ => False) C (show decode cL_seat 4 = .ok (.iload_n 1, 1) by decide +kernel) rfl ⟨a, rfl, (s_iload_n (Φ := Ev (d + 1)) (E := fun _ _ => False) C (show decode cL_seat 5 = .ok (.iload_n 2, 1) by decide +kernel) rfl ⟨b, rfl, (s_iload_n (Φ := Ev (d + 1)) (E := fun _ _ => False) C (show decode cL_seat 6 = .ok (.iload_n 3, 1) by decide +kernel) rfl ⟨c, rfl, HK⟩)⟩)⟩)⟩))⟩
theorem wL_m_joined : Cond.methodLink RL 15 yX9_joined ∈ pTb := pwi (tk5 (List.mem_of_getElem? (i := 155) rfl)) rfl
theorem wL_h_joined : Cond.methodLink RL 93 yL_joined ∈ pTb := pwi (tk5 (List.mem_of_getElem? (i := 152) rfl)) rfl
theorem wL_s_joined : Cond.static yL_joined ∈ pTb := pwi (tk5 (List.mem_of_getElem? (i := 153) rfl)) rfl
theorem wL_c_joined : Cond.codeWith yL_joined cL_joined 5 (some .int) [(0, 10, 13, 13)] ∈ pTb := pwi (tk5 (List.mem_of_getElem? (i := 154) rfl)) rfl
set_option maxRecDepth 100000 in
set_option maxHeartbeats 4000000 in
theorem hr_joined {l : Launch} {g : pg} {d : Nat} {a b v : Int} {w w1 : pW} (h0 : w.1[0]? = some (13, 11)) (h1 : w1.1[122]? = some (1, 1)) (h : Ev (d + 1) 12 [(16, 0), (0, a), (0, b)] w (0, v) w1) : pConH l g yL_joined (pWdH yL_joined cL_joined 5 [(0, 10, 13, 13)]) (d + 2) (64 * (d + 2)) [(16, 0), (0, a), (0, b), (138, 0)] w (0, 0) (w1.1, w1.2.1, up2 w1.2.2 122 0 v) (0, 0) := by
  have hb := (((pAll (l := l) (g := g) (d + 1)).1 12 rfl (by decide) (by decide)) _ _ _ _ h (by simp)).1
  refine pMethH (by decide +kernel) (by simp) hb ?_
  intro p e s m args below meth cd ad C hrt hlk hx
  have HK : pX p l e { frames := d + 2, cells := w1.1.length - w.1.length + 0, slots := nS w1 - nS w + 0, locals := 64 * (d + 2) } s m args below meth cd (MQ below (pQc g ad w (0, 0) (w1.1, w1.2.1, up2 w1.2.2 122 0 v) s.heap.size) args s (w1.1.length - w.1.length + 0) (nS w1 - nS w + 0) (va_A (pWs g.2.1 ad g.2.2 w) s.heap.size)) g 5 (va_A (pWs g.2.1 ad g.2.2 w) s.heap.size) (ad, w) (w1.1, w1.2.1, up2 w1.2.2 122 0 v) (0, 0) 5 [(16, 0), (0, a), (0, b), (138, 0), (9, 0)] [(0, b), (0, a), (16, 0), (0, 0), (138, 0)] w := by
    refine s_invv (Φ := Ev (d + 1)) (E := fun _ _ => False) (y := yX9_joined) (b := cX9_joined) (maxL := 3) (rt := some .int) (fr := d + 1) (lo := 64 * (d + 1)) (n := 3) (n1 := 2) C ((pAll (l := l) (g := g) (d + 1)).1 12 rfl (by decide) (by decide)) ⟨Nat.le_refl _, Nat.le_refl _⟩ ⟨Nat.le_refl _, by show 8 + (3 + 11) + 64 * (d + 1) ≤ 64 * (d + 2); omega⟩ rfl (ci := 9) rfl (pwi (tk5 (List.mem_of_getElem? (i := 158) rfl)) rfl) wL_m_joined (pwi (tk5 (List.mem_of_getElem? (i := 156) rfl)) rfl) (pwi (tk5 (List.mem_of_getElem? (i := 157) rfl)) rfl) (pwi (tk1 (List.mem_of_getElem? (i := 1) rfl)) rfl) ⟨by decide, by decide, by decide +kernel⟩ (show decode cL_joined 5 = .ok (.invokevirtual 15, 3) by decide +kernel) ⟨(0, v), w1, 0, 0, [(0, a), (0, b)], 11, by simp, by simp [cat], rfl, h0, h, by simp, ?_⟩
    refine s_i2l (Φ := Ev (d + 1)) (E := fun _ _ => False) C (show decode cL_joined 8 = .ok (.i2l, 1) by decide +kernel) ⟨v, _, rfl, ?_⟩
    refine s_last (Φ := Ev (d + 1)) (E := fun _ _ => False) C (show decode cL_joined 9 = .ok (.lastore, 1) by decide +kernel) ⟨v, 0, 122, 0, 1, _, rfl, h1, by decide, by decide, ?_⟩
    refine s_goto (Φ := Ev (d + 1)) (E := fun _ _ => False) (tg := 17) C (show decode cL_joined 10 = .ok (.goto 7, 3) by decide +kernel) rfl ?_
    refine s_iconst (Φ := Ev (d + 1)) (E := fun _ _ => False) C (show decode cL_joined 17 = .ok (.iconst 0, 1) by decide +kernel) (by unfold r32; omega) ?_
    exact s_iret (Φ := Ev (d + 1)) (r := (0, 0)) C hrt hlk rfl (fun _ _ _ _ _ k => k) (show decode cL_joined 18 = .ok (.ireturn, 1) by decide +kernel) ⟨0, rfl, rfl, rfl⟩
  exact s_aload_n C (show decode cL_joined 0 = .ok (.aload_n 3, 1) by decide +kernel) rfl (Φ := Ev (d + 1)) (E := fun _ _ => False) ⟨138, 0, rfl, by decide, by decide, (s_iconst (Φ := Ev (d + 1)) (E := fun _ _ => False) C (show decode cL_joined 1 = .ok (.iconst 0, 1) by decide +kernel) (by unfold r32; omega) (s_aload_n (Φ := Ev (d + 1)) (E := fun _ _ => False) C (show decode cL_joined 2 = .ok (.aload_n 0, 1) by decide +kernel) rfl ⟨16, 0, rfl, by decide, by decide, (s_iload_n (Φ := Ev (d + 1)) (E := fun _ _ => False) C (show decode cL_joined 3 = .ok (.iload_n 1, 1) by decide +kernel) rfl ⟨a, rfl, (s_iload_n (Φ := Ev (d + 1)) (E := fun _ _ => False) C (show decode cL_joined 4 = .ok (.iload_n 2, 1) by decide +kernel) rfl ⟨b, rfl, HK⟩)⟩)⟩))⟩
set_option maxRecDepth 100000 in
set_option maxHeartbeats 4000000 in
theorem ht_joined {l : Launch} {g : pg} (hl : l.stackTraces = false) {d : Nat} (hd : 10 ≤ d) {a b : Int} {w w1 : pW} (h0 : w.1[0]? = some (13, 11)) (h : Ev (d + 1) 12 [(16, 0), (0, a), (0, b)] w (7, 0) w1) : pConH l g yL_joined (pWdH yL_joined cL_joined 5 [(0, 10, 13, 13)]) (d + 2) (64 * (d + 2)) [(16, 0), (0, a), (0, b), (138, 0)] w (0, 1) w1 (1, 6) := by
  have hb := (cx_X9_joined (g := g) hl hd _ _ _ h).1
  refine pMethH (by decide +kernel) (by simp) hb ?_
  intro p e s m args below meth cd ad C hrt hlk hx
  have HK : pX p l e { frames := d + 2, cells := w1.1.length - w.1.length + 1, slots := nS w1 - nS w + 6, locals := 64 * (d + 2) } s m args below meth cd (MQ below (pQc g ad w (0, 1) w1 s.heap.size) args s (w1.1.length - w.1.length + 1) (nS w1 - nS w + 6) (va_A (pWs g.2.1 ad g.2.2 w) s.heap.size)) g 5 (va_A (pWs g.2.1 ad g.2.2 w) s.heap.size) (ad, w) w1 (0, 0) 5 [(16, 0), (0, a), (0, b), (138, 0), (9, 0)] [(0, b), (0, a), (16, 0), (0, 0), (138, 0)] w := by
    refine s_invX (Φ := Ev (d + 1)) (y := yX9_joined) (b := cX9_joined) (maxL := 3) (rt := some .int) (fr := d + 1) (lo := 64 * (d + 1)) (n := 3) (n1 := 2) C (cx_X9_joined hl hd) ⟨Nat.le_refl _, Nat.le_refl _⟩ ⟨Nat.le_refl _, by show 8 + (3 + 11) + 64 * (d + 1) ≤ 64 * (d + 2); omega⟩ rfl (ci := 9) rfl (pwi (tk5 (List.mem_of_getElem? (i := 158) rfl)) rfl) wL_m_joined (pwi (tk5 (List.mem_of_getElem? (i := 156) rfl)) rfl) (pwi (tk5 (List.mem_of_getElem? (i := 157) rfl)) rfl) (pwi (tk1 (List.mem_of_getElem? (i := 1) rfl)) rfl) ⟨by decide, by decide, by decide +kernel⟩ (show decode cL_joined 5 = .ok (.invokevirtual 15, 3) by decide +kernel) (o := 0) (N' := 11) (x := 0) (as' := [(0, a), (0, b)]) (by simp) (by simp [cat]) rfl h0 h ?_
    intro ad1 H locs ls q ce hi hce hcv hcl
    exact s_hand C rfl rfl rfl hrt hlk hx rfl wL_k13 (j := 4) (by decide) (show decode cL_joined 13 = .ok (.astore 4, 2) by decide +kernel) (show decode cL_joined 15 = .ok (.iconst 1, 1) by decide +kernel) (show decode cL_joined 16 = .ok (.ireturn, 1) by decide +kernel) hi hce hcv hcl
  exact s_aload_n C (show decode cL_joined 0 = .ok (.aload_n 3, 1) by decide +kernel) rfl (Φ := Ev (d + 1)) (E := fun _ _ => False) ⟨138, 0, rfl, by decide, by decide, (s_iconst (Φ := Ev (d + 1)) (E := fun _ _ => False) C (show decode cL_joined 1 = .ok (.iconst 0, 1) by decide +kernel) (by unfold r32; omega) (s_aload_n (Φ := Ev (d + 1)) (E := fun _ _ => False) C (show decode cL_joined 2 = .ok (.aload_n 0, 1) by decide +kernel) rfl ⟨16, 0, rfl, by decide, by decide, (s_iload_n (Φ := Ev (d + 1)) (E := fun _ _ => False) C (show decode cL_joined 3 = .ok (.iload_n 1, 1) by decide +kernel) rfl ⟨a, rfl, (s_iload_n (Φ := Ev (d + 1)) (E := fun _ _ => False) C (show decode cL_joined 4 = .ok (.iload_n 2, 1) by decide +kernel) rfl ⟨b, rfl, HK⟩)⟩)⟩))⟩
theorem wL_m_look : Cond.methodLink RL 19 yX9_look ∈ pTb := pwi (tk5 (List.mem_of_getElem? (i := 170) rfl)) rfl
theorem wL_h_look : Cond.methodLink RL 97 yL_look ∈ pTb := pwi (tk5 (List.mem_of_getElem? (i := 167) rfl)) rfl
theorem wL_s_look : Cond.static yL_look ∈ pTb := pwi (tk5 (List.mem_of_getElem? (i := 168) rfl)) rfl
theorem wL_c_look : Cond.codeWith yL_look cL_look 5 (some .int) [(0, 10, 13, 13)] ∈ pTb := pwi (tk5 (List.mem_of_getElem? (i := 169) rfl)) rfl
set_option maxRecDepth 100000 in
set_option maxHeartbeats 4000000 in
theorem hr_look {l : Launch} {g : pg} {d : Nat} {a b v : Int} {w w1 : pW} (h0 : w.1[0]? = some (13, 11)) (h1 : w1.1[122]? = some (1, 1)) (h : Ev (d + 1) 13 [(16, 0), (0, a), (0, b)] w (0, v) w1) : pConH l g yL_look (pWdH yL_look cL_look 5 [(0, 10, 13, 13)]) (d + 2) (64 * (d + 2)) [(16, 0), (0, a), (0, b), (138, 0)] w (0, 0) (w1.1, w1.2.1, up2 w1.2.2 122 0 v) (0, 0) := by
  have hb := (((pAll (l := l) (g := g) (d + 1)).1 13 rfl (by decide) (by decide)) _ _ _ _ h (by simp)).1
  refine pMethH (by decide +kernel) (by simp) hb ?_
  intro p e s m args below meth cd ad C hrt hlk hx
  have HK : pX p l e { frames := d + 2, cells := w1.1.length - w.1.length + 0, slots := nS w1 - nS w + 0, locals := 64 * (d + 2) } s m args below meth cd (MQ below (pQc g ad w (0, 0) (w1.1, w1.2.1, up2 w1.2.2 122 0 v) s.heap.size) args s (w1.1.length - w.1.length + 0) (nS w1 - nS w + 0) (va_A (pWs g.2.1 ad g.2.2 w) s.heap.size)) g 5 (va_A (pWs g.2.1 ad g.2.2 w) s.heap.size) (ad, w) (w1.1, w1.2.1, up2 w1.2.2 122 0 v) (0, 0) 5 [(16, 0), (0, a), (0, b), (138, 0), (9, 0)] [(0, b), (0, a), (16, 0), (0, 0), (138, 0)] w := by
    refine s_invv (Φ := Ev (d + 1)) (E := fun _ _ => False) (y := yX9_look) (b := cX9_look) (maxL := 3) (rt := some .int) (fr := d + 1) (lo := 64 * (d + 1)) (n := 3) (n1 := 2) C ((pAll (l := l) (g := g) (d + 1)).1 13 rfl (by decide) (by decide)) ⟨Nat.le_refl _, Nat.le_refl _⟩ ⟨Nat.le_refl _, by show 8 + (3 + 11) + 64 * (d + 1) ≤ 64 * (d + 2); omega⟩ rfl (ci := 9) rfl (pwi (tk5 (List.mem_of_getElem? (i := 173) rfl)) rfl) wL_m_look (pwi (tk5 (List.mem_of_getElem? (i := 171) rfl)) rfl) (pwi (tk5 (List.mem_of_getElem? (i := 172) rfl)) rfl) (pwi (tk1 (List.mem_of_getElem? (i := 1) rfl)) rfl) ⟨by decide, by decide, by decide +kernel⟩ (show decode cL_look 5 = .ok (.invokevirtual 19, 3) by decide +kernel) ⟨(0, v), w1, 0, 0, [(0, a), (0, b)], 11, by simp, by simp [cat], rfl, h0, h, by simp, ?_⟩
    refine s_i2l (Φ := Ev (d + 1)) (E := fun _ _ => False) C (show decode cL_look 8 = .ok (.i2l, 1) by decide +kernel) ⟨v, _, rfl, ?_⟩
    refine s_last (Φ := Ev (d + 1)) (E := fun _ _ => False) C (show decode cL_look 9 = .ok (.lastore, 1) by decide +kernel) ⟨v, 0, 122, 0, 1, _, rfl, h1, by decide, by decide, ?_⟩
    refine s_goto (Φ := Ev (d + 1)) (E := fun _ _ => False) (tg := 17) C (show decode cL_look 10 = .ok (.goto 7, 3) by decide +kernel) rfl ?_
    refine s_iconst (Φ := Ev (d + 1)) (E := fun _ _ => False) C (show decode cL_look 17 = .ok (.iconst 0, 1) by decide +kernel) (by unfold r32; omega) ?_
    exact s_iret (Φ := Ev (d + 1)) (r := (0, 0)) C hrt hlk rfl (fun _ _ _ _ _ k => k) (show decode cL_look 18 = .ok (.ireturn, 1) by decide +kernel) ⟨0, rfl, rfl, rfl⟩
  exact s_aload_n C (show decode cL_look 0 = .ok (.aload_n 3, 1) by decide +kernel) rfl (Φ := Ev (d + 1)) (E := fun _ _ => False) ⟨138, 0, rfl, by decide, by decide, (s_iconst (Φ := Ev (d + 1)) (E := fun _ _ => False) C (show decode cL_look 1 = .ok (.iconst 0, 1) by decide +kernel) (by unfold r32; omega) (s_aload_n (Φ := Ev (d + 1)) (E := fun _ _ => False) C (show decode cL_look 2 = .ok (.aload_n 0, 1) by decide +kernel) rfl ⟨16, 0, rfl, by decide, by decide, (s_iload_n (Φ := Ev (d + 1)) (E := fun _ _ => False) C (show decode cL_look 3 = .ok (.iload_n 1, 1) by decide +kernel) rfl ⟨a, rfl, (s_iload_n (Φ := Ev (d + 1)) (E := fun _ _ => False) C (show decode cL_look 4 = .ok (.iload_n 2, 1) by decide +kernel) rfl ⟨b, rfl, HK⟩)⟩)⟩))⟩
set_option maxRecDepth 100000 in
set_option maxHeartbeats 4000000 in
theorem ht_look {l : Launch} {g : pg} (hl : l.stackTraces = false) {d : Nat} (hd : 10 ≤ d) {a b : Int} {w w1 : pW} (h0 : w.1[0]? = some (13, 11)) (h : Ev (d + 1) 13 [(16, 0), (0, a), (0, b)] w (7, 0) w1) : pConH l g yL_look (pWdH yL_look cL_look 5 [(0, 10, 13, 13)]) (d + 2) (64 * (d + 2)) [(16, 0), (0, a), (0, b), (138, 0)] w (0, 1) w1 (1, 6) := by
  have hb := (cx_X9_look (g := g) hl hd _ _ _ h).1
  refine pMethH (by decide +kernel) (by simp) hb ?_
  intro p e s m args below meth cd ad C hrt hlk hx
  have HK : pX p l e { frames := d + 2, cells := w1.1.length - w.1.length + 1, slots := nS w1 - nS w + 6, locals := 64 * (d + 2) } s m args below meth cd (MQ below (pQc g ad w (0, 1) w1 s.heap.size) args s (w1.1.length - w.1.length + 1) (nS w1 - nS w + 6) (va_A (pWs g.2.1 ad g.2.2 w) s.heap.size)) g 5 (va_A (pWs g.2.1 ad g.2.2 w) s.heap.size) (ad, w) w1 (0, 0) 5 [(16, 0), (0, a), (0, b), (138, 0), (9, 0)] [(0, b), (0, a), (16, 0), (0, 0), (138, 0)] w := by
    refine s_invX (Φ := Ev (d + 1)) (y := yX9_look) (b := cX9_look) (maxL := 3) (rt := some .int) (fr := d + 1) (lo := 64 * (d + 1)) (n := 3) (n1 := 2) C (cx_X9_look hl hd) ⟨Nat.le_refl _, Nat.le_refl _⟩ ⟨Nat.le_refl _, by show 8 + (3 + 11) + 64 * (d + 1) ≤ 64 * (d + 2); omega⟩ rfl (ci := 9) rfl (pwi (tk5 (List.mem_of_getElem? (i := 173) rfl)) rfl) wL_m_look (pwi (tk5 (List.mem_of_getElem? (i := 171) rfl)) rfl) (pwi (tk5 (List.mem_of_getElem? (i := 172) rfl)) rfl) (pwi (tk1 (List.mem_of_getElem? (i := 1) rfl)) rfl) ⟨by decide, by decide, by decide +kernel⟩ (show decode cL_look 5 = .ok (.invokevirtual 19, 3) by decide +kernel) (o := 0) (N' := 11) (x := 0) (as' := [(0, a), (0, b)]) (by simp) (by simp [cat]) rfl h0 h ?_
    intro ad1 H locs ls q ce hi hce hcv hcl
    exact s_hand C rfl rfl rfl hrt hlk hx rfl wL_k13 (j := 4) (by decide) (show decode cL_look 13 = .ok (.astore 4, 2) by decide +kernel) (show decode cL_look 15 = .ok (.iconst 1, 1) by decide +kernel) (show decode cL_look 16 = .ok (.ireturn, 1) by decide +kernel) hi hce hcv hcl
  exact s_aload_n C (show decode cL_look 0 = .ok (.aload_n 3, 1) by decide +kernel) rfl (Φ := Ev (d + 1)) (E := fun _ _ => False) ⟨138, 0, rfl, by decide, by decide, (s_iconst (Φ := Ev (d + 1)) (E := fun _ _ => False) C (show decode cL_look 1 = .ok (.iconst 0, 1) by decide +kernel) (by unfold r32; omega) (s_aload_n (Φ := Ev (d + 1)) (E := fun _ _ => False) C (show decode cL_look 2 = .ok (.aload_n 0, 1) by decide +kernel) rfl ⟨16, 0, rfl, by decide, by decide, (s_iload_n (Φ := Ev (d + 1)) (E := fun _ _ => False) C (show decode cL_look 3 = .ok (.iload_n 1, 1) by decide +kernel) rfl ⟨a, rfl, (s_iload_n (Φ := Ev (d + 1)) (E := fun _ _ => False) C (show decode cL_look 4 = .ok (.iload_n 2, 1) by decide +kernel) rfl ⟨b, rfl, HK⟩)⟩)⟩))⟩
theorem wL_m_of : Cond.methodLink RL 22 yX9_of ∈ pTb := pwi (tk5 (List.mem_of_getElem? (i := 228) rfl)) rfl
theorem wL_h_of : Cond.methodLink RL 100 yL_of ∈ pTb := pwi (tk5 (List.mem_of_getElem? (i := 225) rfl)) rfl
theorem wL_s_of : Cond.static yL_of ∈ pTb := pwi (tk5 (List.mem_of_getElem? (i := 226) rfl)) rfl
theorem wL_c_of : Cond.codeWith yL_of cL_of 5 (some .int) [(0, 10, 13, 13)] ∈ pTb := pwi (tk5 (List.mem_of_getElem? (i := 227) rfl)) rfl
set_option maxRecDepth 100000 in
set_option maxHeartbeats 4000000 in
theorem hr_of {l : Launch} {g : pg} {d : Nat} {a b v : Int} {w w1 : pW} (h0 : w.1[0]? = some (13, 11)) (h1 : w1.1[122]? = some (1, 1)) (h : Ev (d + 1) 14 [(16, 0), (0, a), (0, b)] w (0, v) w1) : pConH l g yL_of (pWdH yL_of cL_of 5 [(0, 10, 13, 13)]) (d + 2) (64 * (d + 2)) [(16, 0), (0, a), (0, b), (138, 0)] w (0, 0) (w1.1, w1.2.1, up2 w1.2.2 122 0 v) (0, 0) := by
  have hb := (((pAll (l := l) (g := g) (d + 1)).1 14 rfl (by decide) (by decide)) _ _ _ _ h (by simp)).1
  refine pMethH (by decide +kernel) (by simp) hb ?_
  intro p e s m args below meth cd ad C hrt hlk hx
  have HK : pX p l e { frames := d + 2, cells := w1.1.length - w.1.length + 0, slots := nS w1 - nS w + 0, locals := 64 * (d + 2) } s m args below meth cd (MQ below (pQc g ad w (0, 0) (w1.1, w1.2.1, up2 w1.2.2 122 0 v) s.heap.size) args s (w1.1.length - w.1.length + 0) (nS w1 - nS w + 0) (va_A (pWs g.2.1 ad g.2.2 w) s.heap.size)) g 5 (va_A (pWs g.2.1 ad g.2.2 w) s.heap.size) (ad, w) (w1.1, w1.2.1, up2 w1.2.2 122 0 v) (0, 0) 5 [(16, 0), (0, a), (0, b), (138, 0), (9, 0)] [(0, b), (0, a), (16, 0), (0, 0), (138, 0)] w := by
    refine s_invv (Φ := Ev (d + 1)) (E := fun _ _ => False) (y := yX9_of) (b := cX9_of) (maxL := 3) (rt := some .int) (fr := d + 1) (lo := 64 * (d + 1)) (n := 3) (n1 := 2) C ((pAll (l := l) (g := g) (d + 1)).1 14 rfl (by decide) (by decide)) ⟨Nat.le_refl _, Nat.le_refl _⟩ ⟨Nat.le_refl _, by show 8 + (3 + 11) + 64 * (d + 1) ≤ 64 * (d + 2); omega⟩ rfl (ci := 9) rfl (pwi (tk5 (List.mem_of_getElem? (i := 231) rfl)) rfl) wL_m_of (pwi (tk5 (List.mem_of_getElem? (i := 229) rfl)) rfl) (pwi (tk5 (List.mem_of_getElem? (i := 230) rfl)) rfl) (pwi (tk1 (List.mem_of_getElem? (i := 1) rfl)) rfl) ⟨by decide, by decide, by decide +kernel⟩ (show decode cL_of 5 = .ok (.invokevirtual 22, 3) by decide +kernel) ⟨(0, v), w1, 0, 0, [(0, a), (0, b)], 11, by simp, by simp [cat], rfl, h0, h, by simp, ?_⟩
    refine s_i2l (Φ := Ev (d + 1)) (E := fun _ _ => False) C (show decode cL_of 8 = .ok (.i2l, 1) by decide +kernel) ⟨v, _, rfl, ?_⟩
    refine s_last (Φ := Ev (d + 1)) (E := fun _ _ => False) C (show decode cL_of 9 = .ok (.lastore, 1) by decide +kernel) ⟨v, 0, 122, 0, 1, _, rfl, h1, by decide, by decide, ?_⟩
    refine s_goto (Φ := Ev (d + 1)) (E := fun _ _ => False) (tg := 17) C (show decode cL_of 10 = .ok (.goto 7, 3) by decide +kernel) rfl ?_
    refine s_iconst (Φ := Ev (d + 1)) (E := fun _ _ => False) C (show decode cL_of 17 = .ok (.iconst 0, 1) by decide +kernel) (by unfold r32; omega) ?_
    exact s_iret (Φ := Ev (d + 1)) (r := (0, 0)) C hrt hlk rfl (fun _ _ _ _ _ k => k) (show decode cL_of 18 = .ok (.ireturn, 1) by decide +kernel) ⟨0, rfl, rfl, rfl⟩
  exact s_aload_n C (show decode cL_of 0 = .ok (.aload_n 3, 1) by decide +kernel) rfl (Φ := Ev (d + 1)) (E := fun _ _ => False) ⟨138, 0, rfl, by decide, by decide, (s_iconst (Φ := Ev (d + 1)) (E := fun _ _ => False) C (show decode cL_of 1 = .ok (.iconst 0, 1) by decide +kernel) (by unfold r32; omega) (s_aload_n (Φ := Ev (d + 1)) (E := fun _ _ => False) C (show decode cL_of 2 = .ok (.aload_n 0, 1) by decide +kernel) rfl ⟨16, 0, rfl, by decide, by decide, (s_iload_n (Φ := Ev (d + 1)) (E := fun _ _ => False) C (show decode cL_of 3 = .ok (.iload_n 1, 1) by decide +kernel) rfl ⟨a, rfl, (s_iload_n (Φ := Ev (d + 1)) (E := fun _ _ => False) C (show decode cL_of 4 = .ok (.iload_n 2, 1) by decide +kernel) rfl ⟨b, rfl, HK⟩)⟩)⟩))⟩
set_option maxRecDepth 100000 in
set_option maxHeartbeats 4000000 in
theorem ht_of {l : Launch} {g : pg} (hl : l.stackTraces = false) {d : Nat} (hd : 10 ≤ d) {a b : Int} {w w1 : pW} (h0 : w.1[0]? = some (13, 11)) (h : Ev (d + 1) 14 [(16, 0), (0, a), (0, b)] w (7, 0) w1) : pConH l g yL_of (pWdH yL_of cL_of 5 [(0, 10, 13, 13)]) (d + 2) (64 * (d + 2)) [(16, 0), (0, a), (0, b), (138, 0)] w (0, 1) w1 (1, 6) := by
  have hb := (cx_X9_of (g := g) hl hd _ _ _ h).1
  refine pMethH (by decide +kernel) (by simp) hb ?_
  intro p e s m args below meth cd ad C hrt hlk hx
  have HK : pX p l e { frames := d + 2, cells := w1.1.length - w.1.length + 1, slots := nS w1 - nS w + 6, locals := 64 * (d + 2) } s m args below meth cd (MQ below (pQc g ad w (0, 1) w1 s.heap.size) args s (w1.1.length - w.1.length + 1) (nS w1 - nS w + 6) (va_A (pWs g.2.1 ad g.2.2 w) s.heap.size)) g 5 (va_A (pWs g.2.1 ad g.2.2 w) s.heap.size) (ad, w) w1 (0, 0) 5 [(16, 0), (0, a), (0, b), (138, 0), (9, 0)] [(0, b), (0, a), (16, 0), (0, 0), (138, 0)] w := by
    refine s_invX (Φ := Ev (d + 1)) (y := yX9_of) (b := cX9_of) (maxL := 3) (rt := some .int) (fr := d + 1) (lo := 64 * (d + 1)) (n := 3) (n1 := 2) C (cx_X9_of hl hd) ⟨Nat.le_refl _, Nat.le_refl _⟩ ⟨Nat.le_refl _, by show 8 + (3 + 11) + 64 * (d + 1) ≤ 64 * (d + 2); omega⟩ rfl (ci := 9) rfl (pwi (tk5 (List.mem_of_getElem? (i := 231) rfl)) rfl) wL_m_of (pwi (tk5 (List.mem_of_getElem? (i := 229) rfl)) rfl) (pwi (tk5 (List.mem_of_getElem? (i := 230) rfl)) rfl) (pwi (tk1 (List.mem_of_getElem? (i := 1) rfl)) rfl) ⟨by decide, by decide, by decide +kernel⟩ (show decode cL_of 5 = .ok (.invokevirtual 22, 3) by decide +kernel) (o := 0) (N' := 11) (x := 0) (as' := [(0, a), (0, b)]) (by simp) (by simp [cat]) rfl h0 h ?_
    intro ad1 H locs ls q ce hi hce hcv hcl
    exact s_hand C rfl rfl rfl hrt hlk hx rfl wL_k13 (j := 4) (by decide) (show decode cL_of 13 = .ok (.astore 4, 2) by decide +kernel) (show decode cL_of 15 = .ok (.iconst 1, 1) by decide +kernel) (show decode cL_of 16 = .ok (.ireturn, 1) by decide +kernel) hi hce hcv hcl
  exact s_aload_n C (show decode cL_of 0 = .ok (.aload_n 3, 1) by decide +kernel) rfl (Φ := Ev (d + 1)) (E := fun _ _ => False) ⟨138, 0, rfl, by decide, by decide, (s_iconst (Φ := Ev (d + 1)) (E := fun _ _ => False) C (show decode cL_of 1 = .ok (.iconst 0, 1) by decide +kernel) (by unfold r32; omega) (s_aload_n (Φ := Ev (d + 1)) (E := fun _ _ => False) C (show decode cL_of 2 = .ok (.aload_n 0, 1) by decide +kernel) rfl ⟨16, 0, rfl, by decide, by decide, (s_iload_n (Φ := Ev (d + 1)) (E := fun _ _ => False) C (show decode cL_of 3 = .ok (.iload_n 1, 1) by decide +kernel) rfl ⟨a, rfl, (s_iload_n (Φ := Ev (d + 1)) (E := fun _ _ => False) C (show decode cL_of 4 = .ok (.iload_n 2, 1) by decide +kernel) rfl ⟨b, rfl, HK⟩)⟩)⟩))⟩
theorem wL_m_cobble : Cond.methodLink RL 25 yX9_cobble ∈ pTb := pwi (tk6 (List.mem_of_getElem? (i := 5) rfl)) rfl
theorem wL_h_cobble : Cond.methodLink RL 112 yL_cobble ∈ pTb := pwi (tk6 (List.mem_of_getElem? (i := 2) rfl)) rfl
theorem wL_s_cobble : Cond.static yL_cobble ∈ pTb := pwi (tk6 (List.mem_of_getElem? (i := 3) rfl)) rfl
theorem wL_c_cobble : Cond.codeWith yL_cobble cL_cobble 5 (some .int) [(0, 10, 13, 13)] ∈ pTb := pwi (tk6 (List.mem_of_getElem? (i := 4) rfl)) rfl
set_option maxRecDepth 100000 in
set_option maxHeartbeats 4000000 in
theorem hr_cobble {l : Launch} {g : pg} {d : Nat} {a b v : Int} {w w1 : pW} (h0 : w.1[0]? = some (13, 11)) (h1 : w1.1[122]? = some (1, 1)) (h : Ev (d + 1) 17 [(16, 0), (0, a), (0, b)] w (0, v) w1) : pConH l g yL_cobble (pWdH yL_cobble cL_cobble 5 [(0, 10, 13, 13)]) (d + 2) (64 * (d + 2)) [(16, 0), (0, a), (0, b), (138, 0)] w (0, 0) (w1.1, w1.2.1, up2 w1.2.2 122 0 v) (0, 0) := by
  have hb := (((pAll (l := l) (g := g) (d + 1)).1 17 rfl (by decide) (by decide)) _ _ _ _ h (by simp)).1
  refine pMethH (by decide +kernel) (by simp) hb ?_
  intro p e s m args below meth cd ad C hrt hlk hx
  have HK : pX p l e { frames := d + 2, cells := w1.1.length - w.1.length + 0, slots := nS w1 - nS w + 0, locals := 64 * (d + 2) } s m args below meth cd (MQ below (pQc g ad w (0, 0) (w1.1, w1.2.1, up2 w1.2.2 122 0 v) s.heap.size) args s (w1.1.length - w.1.length + 0) (nS w1 - nS w + 0) (va_A (pWs g.2.1 ad g.2.2 w) s.heap.size)) g 5 (va_A (pWs g.2.1 ad g.2.2 w) s.heap.size) (ad, w) (w1.1, w1.2.1, up2 w1.2.2 122 0 v) (0, 0) 5 [(16, 0), (0, a), (0, b), (138, 0), (9, 0)] [(0, b), (0, a), (16, 0), (0, 0), (138, 0)] w := by
    refine s_invv (Φ := Ev (d + 1)) (E := fun _ _ => False) (y := yX9_cobble) (b := cX9_cobble) (maxL := 4) (rt := some .int) (fr := d + 1) (lo := 64 * (d + 1)) (n := 3) (n1 := 2) C ((pAll (l := l) (g := g) (d + 1)).1 17 rfl (by decide) (by decide)) ⟨Nat.le_refl _, Nat.le_refl _⟩ ⟨Nat.le_refl _, by show 8 + (4 + 11) + 64 * (d + 1) ≤ 64 * (d + 2); omega⟩ rfl (ci := 9) rfl (pwi (tk6 (List.mem_of_getElem? (i := 8) rfl)) rfl) wL_m_cobble (pwi (tk6 (List.mem_of_getElem? (i := 6) rfl)) rfl) (pwi (tk6 (List.mem_of_getElem? (i := 7) rfl)) rfl) (pwi (tk1 (List.mem_of_getElem? (i := 1) rfl)) rfl) ⟨by decide, by decide, by decide +kernel⟩ (show decode cL_cobble 5 = .ok (.invokevirtual 25, 3) by decide +kernel) ⟨(0, v), w1, 0, 0, [(0, a), (0, b)], 11, by simp, by simp [cat], rfl, h0, h, by simp, ?_⟩
    refine s_i2l (Φ := Ev (d + 1)) (E := fun _ _ => False) C (show decode cL_cobble 8 = .ok (.i2l, 1) by decide +kernel) ⟨v, _, rfl, ?_⟩
    refine s_last (Φ := Ev (d + 1)) (E := fun _ _ => False) C (show decode cL_cobble 9 = .ok (.lastore, 1) by decide +kernel) ⟨v, 0, 122, 0, 1, _, rfl, h1, by decide, by decide, ?_⟩
    refine s_goto (Φ := Ev (d + 1)) (E := fun _ _ => False) (tg := 17) C (show decode cL_cobble 10 = .ok (.goto 7, 3) by decide +kernel) rfl ?_
    refine s_iconst (Φ := Ev (d + 1)) (E := fun _ _ => False) C (show decode cL_cobble 17 = .ok (.iconst 0, 1) by decide +kernel) (by unfold r32; omega) ?_
    exact s_iret (Φ := Ev (d + 1)) (r := (0, 0)) C hrt hlk rfl (fun _ _ _ _ _ k => k) (show decode cL_cobble 18 = .ok (.ireturn, 1) by decide +kernel) ⟨0, rfl, rfl, rfl⟩
  exact s_aload_n C (show decode cL_cobble 0 = .ok (.aload_n 3, 1) by decide +kernel) rfl (Φ := Ev (d + 1)) (E := fun _ _ => False) ⟨138, 0, rfl, by decide, by decide, (s_iconst (Φ := Ev (d + 1)) (E := fun _ _ => False) C (show decode cL_cobble 1 = .ok (.iconst 0, 1) by decide +kernel) (by unfold r32; omega) (s_aload_n (Φ := Ev (d + 1)) (E := fun _ _ => False) C (show decode cL_cobble 2 = .ok (.aload_n 0, 1) by decide +kernel) rfl ⟨16, 0, rfl, by decide, by decide, (s_iload_n (Φ := Ev (d + 1)) (E := fun _ _ => False) C (show decode cL_cobble 3 = .ok (.iload_n 1, 1) by decide +kernel) rfl ⟨a, rfl, (s_iload_n (Φ := Ev (d + 1)) (E := fun _ _ => False) C (show decode cL_cobble 4 = .ok (.iload_n 2, 1) by decide +kernel) rfl ⟨b, rfl, HK⟩)⟩)⟩))⟩
set_option maxRecDepth 100000 in
set_option maxHeartbeats 4000000 in
theorem ht_cobble {l : Launch} {g : pg} (hl : l.stackTraces = false) {d : Nat} (hd : 10 ≤ d) {a b : Int} {w w1 : pW} (h0 : w.1[0]? = some (13, 11)) (h : Ev (d + 1) 17 [(16, 0), (0, a), (0, b)] w (7, 0) w1) : pConH l g yL_cobble (pWdH yL_cobble cL_cobble 5 [(0, 10, 13, 13)]) (d + 2) (64 * (d + 2)) [(16, 0), (0, a), (0, b), (138, 0)] w (0, 1) w1 (1, 6) := by
  have hb := (cx_X9_cobble (g := g) hl hd _ _ _ h).1
  refine pMethH (by decide +kernel) (by simp) hb ?_
  intro p e s m args below meth cd ad C hrt hlk hx
  have HK : pX p l e { frames := d + 2, cells := w1.1.length - w.1.length + 1, slots := nS w1 - nS w + 6, locals := 64 * (d + 2) } s m args below meth cd (MQ below (pQc g ad w (0, 1) w1 s.heap.size) args s (w1.1.length - w.1.length + 1) (nS w1 - nS w + 6) (va_A (pWs g.2.1 ad g.2.2 w) s.heap.size)) g 5 (va_A (pWs g.2.1 ad g.2.2 w) s.heap.size) (ad, w) w1 (0, 0) 5 [(16, 0), (0, a), (0, b), (138, 0), (9, 0)] [(0, b), (0, a), (16, 0), (0, 0), (138, 0)] w := by
    refine s_invX (Φ := Ev (d + 1)) (y := yX9_cobble) (b := cX9_cobble) (maxL := 4) (rt := some .int) (fr := d + 1) (lo := 64 * (d + 1)) (n := 3) (n1 := 2) C (cx_X9_cobble hl hd) ⟨Nat.le_refl _, Nat.le_refl _⟩ ⟨Nat.le_refl _, by show 8 + (4 + 11) + 64 * (d + 1) ≤ 64 * (d + 2); omega⟩ rfl (ci := 9) rfl (pwi (tk6 (List.mem_of_getElem? (i := 8) rfl)) rfl) wL_m_cobble (pwi (tk6 (List.mem_of_getElem? (i := 6) rfl)) rfl) (pwi (tk6 (List.mem_of_getElem? (i := 7) rfl)) rfl) (pwi (tk1 (List.mem_of_getElem? (i := 1) rfl)) rfl) ⟨by decide, by decide, by decide +kernel⟩ (show decode cL_cobble 5 = .ok (.invokevirtual 25, 3) by decide +kernel) (o := 0) (N' := 11) (x := 0) (as' := [(0, a), (0, b)]) (by simp) (by simp [cat]) rfl h0 h ?_
    intro ad1 H locs ls q ce hi hce hcv hcl
    exact s_hand C rfl rfl rfl hrt hlk hx rfl wL_k13 (j := 4) (by decide) (show decode cL_cobble 13 = .ok (.astore 4, 2) by decide +kernel) (show decode cL_cobble 15 = .ok (.iconst 1, 1) by decide +kernel) (show decode cL_cobble 16 = .ok (.ireturn, 1) by decide +kernel) hi hce hcv hcl
  exact s_aload_n C (show decode cL_cobble 0 = .ok (.aload_n 3, 1) by decide +kernel) rfl (Φ := Ev (d + 1)) (E := fun _ _ => False) ⟨138, 0, rfl, by decide, by decide, (s_iconst (Φ := Ev (d + 1)) (E := fun _ _ => False) C (show decode cL_cobble 1 = .ok (.iconst 0, 1) by decide +kernel) (by unfold r32; omega) (s_aload_n (Φ := Ev (d + 1)) (E := fun _ _ => False) C (show decode cL_cobble 2 = .ok (.aload_n 0, 1) by decide +kernel) rfl ⟨16, 0, rfl, by decide, by decide, (s_iload_n (Φ := Ev (d + 1)) (E := fun _ _ => False) C (show decode cL_cobble 3 = .ok (.iload_n 1, 1) by decide +kernel) rfl ⟨a, rfl, (s_iload_n (Φ := Ev (d + 1)) (E := fun _ _ => False) C (show decode cL_cobble 4 = .ok (.iload_n 2, 1) by decide +kernel) rfl ⟨b, rfl, HK⟩)⟩)⟩))⟩

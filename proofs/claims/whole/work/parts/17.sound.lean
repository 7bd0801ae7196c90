/-- a callee's start and end in the words of the pure machine -/
def rV (ad : Nat → Nat) (z : Nat → Int → Nat) (r : pV) : Option Value := if r.1 = 8 then none else some (cV ad z r)
def pPc (g : pg) (ad : Nat → Nat) (as : List pV) (w : pW) (sz : Nat) : Array Value → State → Prop :=
  va_Pc (as.map (cV ad g.2.2)) (fun U => U.heap.size = sz ∧ va_P g.1 vwCl (pWs g.2.1 ad g.2.2 w) U.heap ∧ va_K g.1 vwCl (pTys g.2.1) U ∧ va_D (fun _ => True) (pWs g.2.1 ad g.2.2 w) ∧ pG g.2.2 (va_A (pWs g.2.1 ad g.2.2 w) sz) U U.heap)
def pQc (g : pg) (ad : Nat → Nat) (w : pW) (r : pV) (w' : pW) (sz : Nat) : Array Value → State → Outcome → State → Prop := fun _ st oc t =>
  (∃ ad' : Nat → Nat, oc = .returned (rV ad' g.2.2 r) ∧ (∀ k, k < w.1.length → ad' k = ad k) ∧ (pOkW w' ∧ okV w'.1.length r) ∧ va_P g.1 vwCl (pWs g.2.1 ad' g.2.2 w') t.heap ∧ va_D (va_A (pWs g.2.1 ad g.2.2 w) sz) (pWs g.2.1 ad' g.2.2 w')) ∧ va_F (va_A (pWs g.2.1 ad g.2.2 w) sz) st t
theorem pPc_blind {g : pg} {ad : Nat → Nat} {as : List pV} {w : pW} {sz : Nat} : FrameBlind (pPc g ad as w sz) := fun a U gg mk q => by
  obtain ⟨q0, q1, qP, qK, qD, qG⟩ := q
  exact ⟨q0, q1, qP, va_K.moved (u := U) (U := U.calling gg mk a) (Vm.Alike.refl U.vm) qK, qD, qG.moved (State.WarmedH.refl U)⟩
def pCon (l : Launch) (g : pg) (Φ : pC) (μ : Nat) (y : MethodName) (ws : List Cond) (fr lo : Nat) : Prop :=
  ∀ (as : List pV) (w : pW) (r : pV) (w1 : pW), Φ μ as w r w1 → r.1 ≠ 7 → (w.1.length ≤ w1.1.length ∧ nS w ≤ nS w1) ∧ ∀ (ad : Nat → Nat) (sz : Nat), pOkW w → (∀ v ∈ as, okV w.1.length v) →
    Met l y ws { frames := fr, cells := w1.1.length - w.1.length, slots := nS w1 - nS w, locals := lo } (pPc g ad as w sz) (pQc g ad w r w1 sz) (w1.1.length - w.1.length) (nS w1 - nS w) (va_A (pWs g.2.1 ad g.2.2 w) sz)
section PS
variable {p : Program} {l : Launch} {e : Env} {R : Room} {s : State} {m : MethodId} {args : Array Value} {below : List Frame} {meth : Method} {c : Code} {Q : State → Prop} {cc : ByteArray} {nL : Nat} {own : String} {g : pg} {A : Nat → Prop} {f : (Nat → Nat) × pW} {wE : pW} {k0 : Nat × Nat}
variable {Φ : pC} {E : pE} {pc nx : Nat} {L S : List pV} {w : pW}
theorem rV_some {ad : Nat → Nat} {z : Nat → Int → Nat} {r : pV} (h : r.1 ≠ 8) : rV ad z r = some (cV ad z r) := by unfold rV; rw [if_neg h]
theorem pRet_map {ad : Nat → Nat} {z : Nat → Int → Nat} {r : pV} {S : List pV} : (pRet r S).map (cV ad z) = (rV ad z r).toList ++ S.map (cV ad z) := by
  unfold pRet rV
  split <;> rfl
theorem pA_sub {ad : Nat → Nat} {H : Heap} {locs : List Loc} (hD : va_D A (pWs g.2.1 ad g.2.2 w)) (hS : va_S A s.heap H locs) (hA : ∀ q, s.heap.size ≤ q → A q) : ∀ q, va_A (pWs g.2.1 ad g.2.2 w) H.size q → A q := by
  intro q h
  rcases h with ⟨k, e, h⟩ | h
  · exact hD.2 k (q, e) h
  · exact hA q (Nat.le_trans hS.1 h)
/-- a callee has run: the walk goes on in the world that it left -/
theorem pX_call {ad : Nat → Nat} {H : Heap} {locs : List Loc} {ls : Array Slot} {cells slots mc ms : Nat} {r : pV} {w1 : pW} {av : Array Value} {st0 rest : List Value}
    (hr : va_Run p l e R s m args below meth c H locs cells slots mc ms (F0 m pc ls st0) rest (pQc g ad w r w1 H.size av) (va_A (pWs g.2.1 ad g.2.2 w) H.size)) (hS : va_S A s.heap H locs) (hsub : ∀ q, va_A (pWs g.2.1 ad g.2.2 w) H.size q → A q)
    (kk : ∀ (ad' : Nat → Nat) (H1 : Heap) (locs1 : List Loc), (∀ k, k < w.1.length → ad' k = ad k) → pOkW w1 → okV w1.1.length r → va_P g.1 vwCl (pWs g.2.1 ad' g.2.2 w1) H1 → va_D A (pWs g.2.1 ad' g.2.2 w1) → va_S A s.heap H1 locs1 → W p l e R s m args below meth c H1 locs1 (cells + mc) (slots + ms) Q (F0 m (pc + 3) ls ((rV ad' g.2.2 r).toList ++ rest))) : W p l e R s m args below meth c H locs cells slots Q (F0 m pc ls st0) := by
  intro T hT X
  obtain ⟨v, st₀, t, T', L', h0, X', hL, e1, e2, ⟨⟨ad', hv, ha, ⟨hok, hokr⟩, hP, hD⟩, hz, hk⟩, st⟩ := hr T hT X
  cases hv
  rw [h0] at hz hk
  obtain ⟨t2, a1, b1⟩ := kk ad' T'.heap (locs ++ L') ha hok hokr (by rw [e1]; exact hP) (hD.weaken (fun k q _ z => hsub q.1 z))
    ⟨Nat.le_trans hS.1 (by rw [e1]; exact hz), fun q h1 h2 => by rw [e1, hk q (Nat.lt_of_lt_of_le h1 hS.1) (fun z => h2 (hsub q z))]; exact hS.2.1 q h1 h2, fun q hq => by
      rcases List.mem_append.mp hq with h | h
      · exact hS.2.2 q h
      · exact hsub _ (hL q h)⟩ T' rfl X'
  exact ⟨t2, st t2 a1, b1⟩
/-- an invoke instruction, whatever its kind -/
theorem pX_inv (C : pCtx p s m args c cc nL own g A) {μ fr lo : Nat} {y : MethodName} {ws : List Cond} (hc : pCon l g Φ μ y ws fr lo) (hR : wE.1.length - f.2.1.length + k0.1 ≤ R.cells ∧ nS wE - nS f.2 + k0.2 ≤ R.slots) {as S' : List pV} {r : pV} {w1 : pW} (hS' : S = as.reverse ++ S') (hΦ : Φ μ as w r w1) (h7 : r.1 ≠ 7) (h : pX p l e R s m args below meth c Q g nL A f wE k0 (pc + 3) L (pRet r S') w1)
    (hrun : ∀ (ad : Nat → Nat) (H : Heap) (locs : List Loc) (ls : Array Slot) (cells slots : Nat), ls.size = nL → cells + (w1.1.length - w.1.length) ≤ R.cells ∧ slots + (nS w1 - nS w) ≤ R.slots → va_P g.1 vwCl (pWs g.2.1 ad g.2.2 w) H → (∀ U : State, U.heap = H → s.WarmedH U.vm → pPc g ad as w H.size (as.map (cV ad g.2.2)).toArray U) →
      Met l y ws { frames := fr, cells := w1.1.length - w.1.length, slots := nS w1 - nS w, locals := lo } (pPc g ad as w H.size) (pQc g ad w r w1 H.size) (w1.1.length - w.1.length) (nS w1 - nS w) (va_A (pWs g.2.1 ad g.2.2 w) H.size) →
      ∃ av : Array Value, va_Run p l e R s m args below meth c H locs cells slots (w1.1.length - w.1.length) (nS w1 - nS w) (F0 m pc ls (S.map (cV ad g.2.2))) (S'.map (cV ad g.2.2)) (pQc g ad w r w1 H.size av) (va_A (pWs g.2.1 ad g.2.2 w) H.size)) :
    pX p l e R s m args below meth c Q g nL A f wE k0 pc L S w := by
  obtain ⟨⟨b1, b2⟩, hM⟩ := hc as w r w1 hΦ h7
  have hb := h.1
  refine ⟨⟨by omega, by omega⟩, fun ad H locs ls hi => ?_⟩
  obtain ⟨i1, i2, i3, i4, i5, i6, i7, i8, i9, i10⟩ := hi
  have oka : ∀ v ∈ as, okV w.1.length v := fun v hv => i5 v (by rw [hS']; exact List.mem_append_left _ (List.mem_reverse.mpr hv))
  have okS : ∀ v ∈ S', okV w.1.length v := fun v hv => i5 v (by rw [hS']; exact List.mem_append_right _ hv)
  have hsub := pA_sub i9 i10 C.2.2.2.2.2.2.1
  have hpre : ∀ U : State, U.heap = H → s.WarmedH U.vm → pPc g ad as w H.size (as.map (cV ad g.2.2)).toArray U := fun U hU hW =>
    ⟨rfl, by rw [hU], by rw [hU]; exact i8, va_K.moved hW.alike C.2.2.2.2.2.1, i9.weaken (fun _ _ _ _ => trivial), by rw [hU]; exact (((C.2.2.2.2.2.2.2).kept i10.2.1).narrow hsub).moved hW⟩
  obtain ⟨av, hr⟩ := hrun ad H locs ls (w.1.length - f.2.1.length + k0.1) (nS w - nS f.2 + k0.2) (by rw [← i6]; exact i7.1) ⟨by omega, by omega⟩ i8 hpre (hM ad H.size i3 oka)
  refine pX_call hr i10 hsub (fun ad' H1 locs1 ha ok1 okr p1 p2 p3 => ?_)
  have k := h.2 ad' H1 locs1 ls ⟨fun k hk => (ha k (by omega)).trans (i1 k hk), ⟨by omega, by omega⟩, ok1, fun v hv => ok_mono (i4 v hv) b1, fun v hv => by
    unfold pRet at hv
    split at hv
    · exact ok_mono (okS v hv) b1
    · rcases List.mem_cons.mp hv with rfl | hv
      · exact okr
      · exact ok_mono (okS v hv) b1, i6, lvL_ext i4 ha i7, p1, p2, p3⟩
  rw [pRet_map, map_ext okS ha] at k
  rw [show w1.1.length - f.2.1.length + k0.1 = w.1.length - f.2.1.length + k0.1 + (w1.1.length - w.1.length) by omega, show nS w1 - nS f.2 + k0.2 = nS w - nS f.2 + k0.2 + (nS w1 - nS w) by omega] at k
  exact k
theorem split_take {S : List pV} {n : Nat} {as : List pV} (h : (S.take n).reverse = as) : S = as.reverse ++ S.drop n := by rw [← h, List.reverse_reverse, List.take_append_drop]
theorem cat_sum {ad : Nat → Nat} {z : Nat → Int → Nat} {S : List pV} : ((S.map (cV ad z)).map (fun v => v.category)).sum = (S.map cat).sum := by
  rw [List.map_map]; congr 1; exact List.map_congr_left (fun v _ => cV_cat v)
theorem pTb_good {ws : List Cond} (h : ∀ w ∈ ws, w ∈ pTb) : GoodIn pTb ws := fun w hw => ⟨h w hw, good_of_word (List.mem_filter.mp (h w hw)).2⟩
/-- the words of a method: its code, and all good words of the tables -/
def pWd (y : MethodName) (b : ByteArray) (n : Nat) (rt : Option FieldType) : List Cond := .code y b n rt :: pTb
theorem pWd_in {y : MethodName} {b : ByteArray} {n : Nat} {rt : Option FieldType} (h : Cond.code y b n rt ∈ pTb) : ∀ w ∈ pWd y b n rt, w ∈ pTb := fun w hw => by
  rcases List.mem_cons.mp hw with rfl | hw
  · exact h
  · exact hw
def plain (y : MethodName) (n : Nat) : Prop := y.cls ≠ "java/lang/invoke/MethodHandle" ∧ y.cls ≠ "java/lang/invoke/VarHandle" ∧ (parseMethodDescriptor y.desc).map (fun d => d.parameters.length) = some n
theorem s_invs (C : pCtx p s m args c cc nL own g A) {μ n fr lo ix maxL : Nat} {y : MethodName} {b : ByteArray} {rt : Option FieldType} (hc : pCon l g Φ μ y (pWd y b maxL rt) fr lo) (hR : wE.1.length - f.2.1.length + k0.1 ≤ R.cells ∧ nS wE - nS f.2 + k0.2 ≤ R.slots) (hF : fr + 1 ≤ R.frames ∧ 8 + (maxL + 11) + lo ≤ R.locals)
    (hco : Cond.code y b maxL rt ∈ pTb) (hln : Cond.methodLink own ix y ∈ pTb) (hst : Cond.static y ∈ pTb) (hin : Cond.initialized y.cls ∈ pTb) (hp : plain y n) (d : decode cc pc = .ok (.invokestatic ix, 3)) : i_inv μ n (pc + 3) Φ (pX p l e R s m args below meth c Q g nL A f wE k0) E L S w → pX p l e R s m args below meth c Q g nL A f wE k0 pc L S w := fun ⟨r, w1, hn, h8, hΦ, h7, h⟩ =>
  pX_inv C hc hR (split_take rfl) hΦ h7 h (fun ad H locs ls cells slots hsz hf hP hpre hM => ⟨_, va_runS (As := (S.take n).reverse.map (cV ad g.2.2)) (rest := (S.drop n).map (cV ad g.2.2)) ⟨C.1, C.2.1, C.2.2.1, C.2.2.2.1, C.2.2.2.2.1⟩ hM
    ⟨callB_of n C.2.2.2.2.1 (pTb_good (pWd_in hco)) rfl rfl rfl (C.2.2.2.2.1 _ hin) (C.2.2.2.2.1 _ hln) hp hF, C.2.2.2.2.1 _ hst⟩ ⟨pPc_blind, fun U hU hW => hpre U hU hW⟩ rfl (by simp; omega) hsz (by rw [← List.map_reverse, ← List.map_append, ← split_take rfl]) (by rw [cat_sum]; show 2 * 0 + _ ≤ 8; omega) d hf⟩)
theorem s_invsN (C : pCtx p s m args c cc nL own g A) {μ n fr lo ix maxL : Nat} {y : MethodName} {b : ByteArray} {rt : Option FieldType} {host : String} (hc : pCon l g Φ μ y (pWd y b maxL rt) fr lo) (hR : wE.1.length - f.2.1.length + k0.1 ≤ R.cells ∧ nS wE - nS f.2 + k0.2 ≤ R.slots) (hF : fr + 1 ≤ R.frames ∧ 8 + (maxL + 11) + lo ≤ R.locals)
    (hco : Cond.code y b maxL rt ∈ pTb) (hln : (own, ix, y, host) ∈ pNest) (hst : Cond.static y ∈ pTb) (hin : Cond.initialized y.cls ∈ pTb) (hp : plain y n) (d : decode cc pc = .ok (.invokestatic ix, 3)) : i_inv μ n (pc + 3) Φ (pX p l e R s m args below meth c Q g nL A f wE k0) E L S w → pX p l e R s m args below meth c Q g nL A f wE k0 pc L S w := fun ⟨r, w1, hn, h8, hΦ, h7, h⟩ =>
  pX_inv C hc hR (split_take rfl) hΦ h7 h (fun ad H locs ls cells slots hsz hf hP hpre hM => ⟨_, va_runSN (As := (S.take n).reverse.map (cV ad g.2.2)) (rest := (S.drop n).map (cV ad g.2.2)) ⟨C.1, C.2.1, C.2.2.1, C.2.2.2.1, C.2.2.2.2.1⟩ hM
    ⟨va_cnB (host := host) n C.2.2.2.2.1 (pTb_good (pWd_in hco)) rfl rfl rfl (C.2.2.2.2.2.2.2.1 _ hln) (C.2.2.2.2.1 _ hin) hp hF, C.2.2.2.2.1 _ hst, trivial⟩ ⟨pPc_blind, fun U hU hW => hpre U hU hW⟩ rfl (by simp; omega) hsz (by rw [← List.map_reverse, ← List.map_append, ← split_take rfl]) (by rw [cat_sum]; show 2 * 0 + _ ≤ 8; omega) d hf⟩)
theorem st_cons {ad : Nat → Nat} {z : Nat → Int → Nat} {S : List pV} {n o : Nat} {x : Int} {as' : List pV} (h : (S.take n).reverse = (o + 16, x) :: as') : S.map (cV ad z) = (as'.map (cV ad z)).reverse ++ .ref (ad o) :: (S.drop n).map (cV ad z) := by
  have e := congrArg (List.map (cV ad z)) (split_take h)
  rw [List.map_append, List.map_reverse, List.map_cons, cV_r, List.reverse_cons, List.append_assoc] at e
  exact e
theorem len_cons {S : List pV} {n : Nat} {v : pV} {as' : List pV} (hn : n ≤ S.length) (h : (S.take n).reverse = v :: as') : as'.length + 1 = n := by
  have := congrArg List.length h
  simp at this; omega
theorem s_invv (C : pCtx p s m args c cc nL own g A) {μ n n1 fr lo ix maxL ci N : Nat} {y : MethodName} {b : ByteArray} {rt : Option FieldType} {T : u_T} (hc : pCon l g Φ μ y (pWd y b maxL rt) fr lo) (hR : wE.1.length - f.2.1.length + k0.1 ≤ R.cells ∧ nS wE - nS f.2 + k0.2 ≤ R.slots) (hF : fr + 1 ≤ R.frames ∧ 8 + (maxL + 11) + lo ≤ R.locals) (hn1 : n1 + 1 = n) (hcl : vwCl[ci]? = some (y.cls, T, N))
    (hco : Cond.code y b maxL rt ∈ pTb) (hln : Cond.methodLink own ix y ∈ pTb) (him : Cond.instanceMethod y ∈ pTb) (hse : Cond.selects y.cls y y ∈ pTb) (hin : Cond.initialized y.cls ∈ pTb) (hp : plain y n1) (d : decode cc pc = .ok (.invokevirtual ix, 3)) : i_invv μ n ci (pc + 3) Φ (pX p l e R s m args below meth c Q g nL A f wE k0) E L S w → pX p l e R s m args below meth c Q g nL A f wE k0 pc L S w := fun ⟨r, w1, o, x, as', N', hn, h8, ht, hs, hΦ, h7, h⟩ =>
  pX_inv C hc hR (split_take ht) hΦ h7 h (fun ad H locs ls cells slots hsz hf hP hpre hM => ⟨_, va_runV (C := y.cls) (b := ad o) (As := as'.map (cV ad g.2.2)) (rest := (S.drop n).map (cV ad g.2.2)) ⟨C.1, C.2.1, C.2.2.1, C.2.2.2.1, C.2.2.2.2.1⟩ hM
    ⟨callB_of n1 C.2.2.2.2.1 (pTb_good (pWd_in hco)) rfl rfl rfl (C.2.2.2.2.1 _ hin) (C.2.2.2.2.1 _ hln) hp hF, C.2.2.2.2.1 _ him, C.2.2.2.2.1 _ hse⟩ ⟨pPc_blind, va_recv (q := (y.cls, T, N)) C.2.2.2.2.2.1 hP (q0 := o) (fs := (List.range N').map (fun j => fV ad g.2.2 w ci o j)) hcl (by rw [pWs_get hs, pCell_o]), fun U hU hW => by have := hpre U hU hW; rw [List.map_cons, cV_r] at this; exact this⟩ rfl (by have := len_cons hn ht; simp; omega) hsz (st_cons ht) (by rw [cat_sum]; show 2 * 0 + _ ≤ 8; omega) d hf⟩)
theorem s_invi (C : pCtx p s m args c cc nL own g A) {μ n n1 fr lo ix maxL : Nat} {y : MethodName} {b : ByteArray} (hc : pCon l g Φ μ y (pWd y b maxL none) fr lo) (hR : wE.1.length - f.2.1.length + k0.1 ≤ R.cells ∧ nS wE - nS f.2 + k0.2 ≤ R.slots) (hF : fr + 1 ≤ R.frames ∧ 8 + (maxL + 11) + lo ≤ R.locals) (hn1 : n1 + 1 = n) (hyn : y.name = "<init>")
    (hco : Cond.code y b maxL none ∈ pTb) (hln : Cond.methodLink own ix y ∈ pTb) (him : Cond.instanceMethod y ∈ pTb) (hin : Cond.initialized y.cls ∈ pTb) (hp : plain y n1) (d : decode cc pc = .ok (.invokespecial ix, 3)) : i_invi μ n (pc + 3) Φ (pX p l e R s m args below meth c Q g nL A f wE k0) E L S w → pX p l e R s m args below meth c Q g nL A f wE k0 pc L S w := fun ⟨r, w1, o, x, as', hn, h8, ht, hΦ, h7, h⟩ =>
  pX_inv C hc hR (split_take ht) hΦ h7 h (fun ad H locs ls cells slots hsz hf hP hpre hM => ⟨_, va_runI (b := ad o) (As := as'.map (cV ad g.2.2)) (rest := (S.drop n).map (cV ad g.2.2)) ⟨C.1, C.2.1, C.2.2.1, C.2.2.2.1, C.2.2.2.2.1⟩ hM
    ⟨callB_of n1 C.2.2.2.2.1 (pTb_good (pWd_in hco)) rfl rfl rfl (C.2.2.2.2.1 _ hin) (C.2.2.2.2.1 _ hln) hp hF, hyn, C.2.2.2.2.1 _ him⟩ ⟨pPc_blind, fun U hU hW => by have := hpre U hU hW; rw [List.map_cons, cV_r] at this; exact this⟩ rfl (by have := len_cons hn ht; simp; omega) hsz (st_cons ht) (by rw [cat_sum]; show 2 * 0 + _ ≤ 8; omega) d hf⟩)
theorem s_inviN (C : pCtx p s m args c cc nL own g A) {μ n n1 fr lo ix maxL : Nat} {y : MethodName} {b : ByteArray} {host : String} (hc : pCon l g Φ μ y (pWd y b maxL none) fr lo) (hR : wE.1.length - f.2.1.length + k0.1 ≤ R.cells ∧ nS wE - nS f.2 + k0.2 ≤ R.slots) (hF : fr + 1 ≤ R.frames ∧ 8 + (maxL + 11) + lo ≤ R.locals) (hn1 : n1 + 1 = n) (hyn : y.name = "<init>")
    (hco : Cond.code y b maxL none ∈ pTb) (hln : (own, ix, y, host) ∈ pNest) (him : Cond.instanceMethod y ∈ pTb) (hin : Cond.initialized y.cls ∈ pTb) (hp : plain y n1) (d : decode cc pc = .ok (.invokespecial ix, 3)) : i_invi μ n (pc + 3) Φ (pX p l e R s m args below meth c Q g nL A f wE k0) E L S w → pX p l e R s m args below meth c Q g nL A f wE k0 pc L S w := fun ⟨r, w1, o, x, as', hn, h8, ht, hΦ, h7, h⟩ =>
  pX_inv C hc hR (split_take ht) hΦ h7 h (fun ad H locs ls cells slots hsz hf hP hpre hM => ⟨_, va_runIN (b := ad o) (As := as'.map (cV ad g.2.2)) (rest := (S.drop n).map (cV ad g.2.2)) ⟨C.1, C.2.1, C.2.2.1, C.2.2.2.1, C.2.2.2.2.1⟩ hM
    ⟨va_cnB (host := host) n1 C.2.2.2.2.1 (pTb_good (pWd_in hco)) rfl rfl rfl (C.2.2.2.2.2.2.2.1 _ hln) (C.2.2.2.2.1 _ hin) hp hF, hyn, C.2.2.2.2.1 _ him⟩ ⟨pPc_blind, fun U hU hW => by have := hpre U hU hW; rw [List.map_cons, cV_r] at this; exact this⟩ rfl (by have := len_cons hn ht; simp; omega) hsz (st_cons ht) (by rw [cat_sum]; show 2 * 0 + _ ≤ 8; omega) d hf⟩)
end PS

/-! THE PURE MACHINE IS TRUE TO THE MACHINE: what a pure state stands for in a heap, and each instruction's step -/
def cV (ad : Nat → Nat) (z : Nat → Int → Nat) (v : pV) : Value :=
  if v.1 = 0 then .int (i32 v.2) else if v.1 = 1 then .long (i64 v.2) else if v.1 = 2 then .null else if v.1 < 16 then .ref (z v.1 v.2) else .ref (ad (v.1 - 16))
theorem cV_0 {ad : Nat → Nat} {z : Nat → Int → Nat} {x : Int} : cV ad z (0, x) = .int (i32 x) := rfl
theorem cV_1 {ad : Nat → Nat} {z : Nat → Int → Nat} {x : Int} : cV ad z (1, x) = .long (i64 x) := rfl
theorem cV_r {ad : Nat → Nat} {z : Nat → Int → Nat} {o : Nat} {x : Int} : cV ad z (o + 16, x) = .ref (ad o) := by
  unfold cV
  rw [if_neg (by simp), if_neg (by simp), if_neg (by simp), if_neg (by simp)]
  simp
theorem cV_cat {ad : Nat → Nat} {z : Nat → Int → Nat} (v : pV) : (cV ad z v).category = cat v := by
  unfold cV cat
  repeat' split
  all_goals first | rfl | omega
theorem cV_ref {ad : Nat → Nat} {z : Nat → Int → Nat} {v : pV} (h : 2 ≤ v.1) : cV ad z v = .null ∨ ∃ a, cV ad z v = .ref a := by
  unfold cV
  rw [if_neg (by omega), if_neg (by omega)]
  repeat' split
  · exact Or.inl rfl
  · exact Or.inr ⟨_, rfl⟩
  · exact Or.inr ⟨_, rfl⟩
def okV (n : Nat) (v : pV) : Prop := (v.1 = 0 → r32 v.2) ∧ (v.1 = 1 → r64 v.2) ∧ (16 ≤ v.1 → v.1 < n + 16)
def tyOf (ci : Nat) : Nat → FieldType := match ci with
  | 0 => tyX0 | 1 => tyX1 | 2 => tyX2 | 3 => tyX3 | 4 => tyX4 | 5 => tyX5 | 6 => tyX6 | 7 => tyX7 | 8 => tyX8 | 9 => tyX9 | _ => tyX10
def pF (ci j : Nat) : Nat := match tyOf ci j with
  | .int => 0 | .long => 1 | _ => 2
def fV (ad : Nat → Nat) (z : Nat → Int → Nat) (w : pW) (ci k j : Nat) : Value := if pF ci j = 0 then .int (i32 (w.2.2 k j)) else if pF ci j = 1 then .long (i64 (w.2.2 k j)) else cV ad z (w.2.1 k j, 0)
def pCell (cA : Nat → ClassId) (ad : Nat → Nat) (z : Nat → Int → Nat) (w : pW) (k : Nat) (q : Nat × Nat) : va_E :=
  if q.1 < 4 then (if q.1 = 1 then .inl (cA 1, q.2, .inr (.inl (fun j => i64 (w.2.2 k j)))) else .inl (cA q.1, q.2, .inl (fun j => i32 (w.2.2 k j))))
  else .inr (q.1 - 4, (List.range q.2).map (fun j => fV ad z w (q.1 - 4) k j))
def pWs (cA : Nat → ClassId) (ad : Nat → Nat) (z : Nat → Int → Nat) (w : pW) : va_W := (List.range w.1.length).map (fun k => (ad k, pCell cA ad z w k (w.1.getD k (0, 0))))
theorem pWs_len {cA : Nat → ClassId} {ad : Nat → Nat} {z : Nat → Int → Nat} {w : pW} : (pWs cA ad z w).length = w.1.length := by simp [pWs]
theorem pWs_get {cA : Nat → ClassId} {ad : Nat → Nat} {z : Nat → Int → Nat} {w : pW} {k : Nat} {q : Nat × Nat} (h : w.1[k]? = some q) : (pWs cA ad z w)[k]? = some (ad k, pCell cA ad z w k q) := by
  have hl : k < w.1.length := (List.getElem?_eq_some_iff.mp h).1
  simp [pWs, List.getElem?_map, List.getElem?_range hl, List.getD, h]
theorem pWs_none {cA : Nat → ClassId} {ad : Nat → Nat} {z : Nat → Int → Nat} {w : pW} {k : Nat} (h : w.1.length ≤ k) : (pWs cA ad z w)[k]? = none := by
  rw [List.getElem?_eq_none_iff, pWs_len]; exact h
theorem pWs_set {cA : Nat → ClassId} {ad : Nat → Nat} {z : Nat → Int → Nat} {w w' : pW} {k : Nat} {q : Nat × Nat} (h1 : w'.1 = w.1) (hk : w.1[k]? = some q)
    (ho : ∀ k', k' ≠ k → (∀ j, w'.2.1 k' j = w.2.1 k' j) ∧ ∀ j, w'.2.2 k' j = w.2.2 k' j) : (pWs cA ad z w).set k (ad k, pCell cA ad z w' k q) = pWs cA ad z w' := by
  have hl : k < w.1.length := (List.getElem?_eq_some_iff.mp hk).1
  apply List.ext_getElem?
  intro j
  by_cases hj : j = k
  · subst hj
    rw [List.getElem?_set_self (by rw [pWs_len]; exact hl), pWs_get (w := w') (by rw [h1]; exact hk)]
  · rw [List.getElem?_set_ne (Ne.symm hj)]
    by_cases hl2 : j < w.1.length
    · have hq := List.getElem?_eq_getElem hl2
      rw [pWs_get hq, pWs_get (w := w') (by rw [h1]; exact hq)]
      obtain ⟨e1, e2⟩ := ho j hj
      simp only [pCell, fV, e1, e2]
    · rw [pWs_none (by omega), pWs_none (by rw [h1]; omega)]
def pTys (cA : Nat → ClassId) : List (ClassId × FieldType) := [(cA 0, .int), (cA 1, .long), (cA 2, .char), (cA 3, .boolean)]
def pkd (w : pW) (k j : Nat) : Nat := match w.1[k]? with
  | some (t, _) => if t < 4 then (if t = 1 then 1 else 0) else pF (t - 4) j
  | none => 2
def pOkW (w : pW) : Prop := ∀ k j : Nat, (pkd w k j = 0 → r32 (w.2.2 k j)) ∧ (pkd w k j = 1 → r64 (w.2.2 k j)) ∧ 2 ≤ w.2.1 k j ∧ (16 ≤ w.2.1 k j → w.2.1 k j < w.1.length + 16)
def lvL (ad : Nat → Nat) (z : Nat → Int → Nat) (L : List pV) (ls : Array Slot) : Prop := ls.size = L.length ∧ lv_wf ls ∧ ∀ (j : Nat) (v : pV), L[j]? = some v → v.1 ≠ 9 → ls[j]? = some (.val (cV ad z v))
def pTb : List Cond := lw_tbl.filter goodWord
/-- what else the methods stand on: the links between nest mates; texts -/
def pNest : List (String × Nat × MethodName × String) := [("FlintHeap", 11, ⟨"FlintHeap$Pieces", "<init>", "()V"⟩, "FlintHeap"), ("FlintHeap", 18, ⟨"FlintHeap$Faces", "<init>", "()V"⟩, "FlintHeap"), ("FlintHeap", 25, ⟨"FlintHeap$Joins", "<init>", "()V"⟩, "FlintHeap"), ("FlintHeap$Faces", 37, ⟨"FlintHeap", "byteOf", "(JI)I"⟩, "FlintHeap"), ("FlintHeap$Faces", 42, ⟨"FlintHeap", "modEight", "(I)I"⟩, "FlintHeap"), ("FlintHeap$Faces", 52, ⟨"FlintHeap", "apart", "(II)I"⟩, "FlintHeap"), ("FlintHeap$Ground", 90, ⟨"FlintHeap", "apart", "(II)I"⟩, "FlintHeap"), ("FlintHeap$Groups", 98, ⟨"FlintHeap", "modEight", "(I)I"⟩, "FlintHeap"), ("FlintHeap$Judge", 17, ⟨"FlintHeap$Rules", "<init>", "()V"⟩, "FlintHeap"), ("FlintHeap$Judge", 96, ⟨"FlintHeap", "apart", "(II)I"⟩, "FlintHeap"), ("FlintHeap$Reader", 51, ⟨"FlintHeap", "byteOf", "(JI)I"⟩, "FlintHeap"), ("FlintHeap$Reader", 55, ⟨"FlintHeap", "within", "(III)Z"⟩, "FlintHeap"), ("FlintHeap$Rules", 65, ⟨"FlintHeap", "within", "(III)Z"⟩, "FlintHeap")]
/-- the words of the class that throw -/
def pTxt : List (String × Nat × String) := [("FlintHeap", 160, "no two such faces"), ("FlintHeap", 176, "no such thing of a meeting"), ("FlintHeap", 205, "no such join"), ("FlintHeap", 219, "no such thing of a join"), ("FlintHeap", 221, "no such piece"), ("FlintHeap", 254, "no such thing of a piece"), ("FlintHeap", 256, "no such face"), ("FlintHeap", 275, "no such thing of a face"), ("FlintHeap", 308, "no such thing of a cobble"), ("FlintHeap", 313, "no such seat")]
/-- the constructors of what is thrown -/
def pDec : List MethodName := [⟨"java/lang/RuntimeException", "<init>", "(Ljava/lang/String;)V"⟩, ⟨"java/lang/Exception", "<init>", "(Ljava/lang/String;)V"⟩, ⟨"java/lang/Throwable", "<init>", "(Ljava/lang/String;)V"⟩]
def pGS (z : Nat → Int → Nat) (A : Nat → Prop) (U : State) (H : Heap) : Prop :=
  vk_S 3 sL sB (fun i => z 5 (i : Int)) (fun i => z 6 (i : Int)) A U H ∧ (vk_R "FlintHeap$Reader" 29 "let bar doubt stone when and or not " (z 5 0) U ∧ vk_R "FlintHeap$Reader" 35 "gap small great far layers burnt breaks colour grain spots fire size " (z 5 1) U ∧ vk_R "FlintHeap$Reader" 144 "()<=+-*;" (z 5 2) U) ∧
  va_Z "java/lang/String" "COMPACT_STRINGS" "Z" (.int 1) A U H ∧ (va_Z "jdk/internal/util/Preconditions" "SIOOBE_FORMATTER" "Ljava/util/function/BiFunction;" .null A U H ∨ va_Z "jdk/internal/util/Preconditions" "SIOOBE_FORMATTER" "Ljava/util/function/BiFunction;" (.ref (z 4 0)) A U H) ∧
  (∀ q ∈ pTxt, ∃ sa, vk_R q.1 q.2.1 q.2.2 sa U) ∧ vx_Zq Bundle.tN "UNASSIGNED_STACK" Bundle.steD A U H ∧ vx_Zq Bundle.tN "SUPPRESSED_SENTINEL" Bundle.listD A U H ∧ (∀ x ∈ pDec, va_Nw (.declares x) U) ∧ va_Nw (.castable "java/util/NoSuchElementException" "java/util/NoSuchElementException") U
def pG (z : Nat → Int → Nat) (A : Nat → Prop) (U : State) (H : Heap) : Prop := (∀ q ∈ pNest, va_Nw (.methodLinkNest q.1 q.2.1 q.2.2.1 q.2.2.2) U) ∧ pGS z A U H
theorem pGS.moved {z : Nat → Int → Nat} {A : Nat → Prop} {s U : State} {H : Heap} (hW : s.WarmedH U.vm) (h : pGS z A s H) : pGS z A U H := by
  obtain ⟨a1, ⟨a2, a3, a4⟩, a5, a6, a7, a8, a9, a10, a11⟩ := h
  exact ⟨a1.moved hW.alike, ⟨a2.warm hW, a3.warm hW, a4.warm hW⟩, a5.moved hW.alike, a6.imp (fun q => q.moved hW.alike) (fun q => q.moved hW.alike), fun q hq => (a7 q hq).imp (fun _ h => h.warm hW), a8.moved hW.alike, a9.moved hW.alike, fun x hx => va_Nw.warmD hW (a10 x hx), va_Nw.warmC hW a11⟩
theorem pGS.kept {z : Nat → Int → Nat} {A : Nat → Prop} {U : State} {H H1 : Heap} (hk : ∀ a : Nat, a < H.size → ¬ A a → H1[a]? = H[a]?) (h : pGS z A U H) : pGS z A U H1 := by
  obtain ⟨a1, a2, a5, a6, a7, a8, a9, a10⟩ := h
  exact ⟨a1.kept hk, a2, a5.kept hk, a6.imp (fun q => q.kept hk) (fun q => q.kept hk), a7, a8.kept hk, a9.kept hk, a10⟩
theorem pGS.narrow {z : Nat → Int → Nat} {A B : Nat → Prop} {U : State} {H : Heap} (hAB : ∀ q, B q → A q) (h : pGS z A U H) : pGS z B U H := by
  obtain ⟨a1, a2, a5, a6, a7, a8, a9, a10⟩ := h
  exact ⟨a1.narrow hAB, a2, a5.narrow hAB, a6.imp (fun q => q.narrow hAB) (fun q => q.narrow hAB), a7, a8.narrow hAB, a9.narrow hAB, a10⟩
theorem pG.moved {z : Nat → Int → Nat} {A : Nat → Prop} {s U : State} {H : Heap} (hW : s.WarmedH U.vm) (h : pG z A s H) : pG z A U H := ⟨fun q hq => va_Nw.warmM hW (h.1 q hq), h.2.moved hW⟩
theorem pG.kept {z : Nat → Int → Nat} {A : Nat → Prop} {U : State} {H H1 : Heap} (hk : ∀ a : Nat, a < H.size → ¬ A a → H1[a]? = H[a]?) (h : pG z A U H) : pG z A U H1 := ⟨h.1, h.2.kept hk⟩
theorem pG.narrow {z : Nat → Int → Nat} {A B : Nat → Prop} {U : State} {H : Heap} (hAB : ∀ q, B q → A q) (h : pG z A U H) : pG z B U H := ⟨h.1, h.2.narrow hAB⟩
abbrev pg : Type := va_G × (Nat → ClassId) × (Nat → Int → Nat)
def pCtx (p : Program) (s : State) (m : MethodId) (args : Array Value) (c : Code) (cc : ByteArray) (nL : Nat) (own : String) (g : pg) (A : Nat → Prop) : Prop :=
  p.tables.exec = Jvm.exec ∧ c.code = cc ∧ c.maxLocals = nL ∧ s.vm.findClass own = some m.cls ∧ (∀ w ∈ pTb, w.before args s = true) ∧ va_K g.1 vwCl (pTys g.2.1) s ∧ (∀ q, s.heap.size ≤ q → A q) ∧ pG g.2.2 A s s.heap
def pInv (s : State) (g : pg) (nL : Nat) (A : Nat → Prop) (f : (Nat → Nat) × pW) (ad : Nat → Nat) (H : Heap) (locs : List Loc) (ls : Array Slot) (L S : List pV) (w : pW) : Prop :=
  (∀ k, k < f.2.1.length → ad k = f.1 k) ∧ (f.2.1.length ≤ w.1.length ∧ nS f.2 ≤ nS w) ∧ pOkW w ∧ (∀ v ∈ L, okV w.1.length v) ∧ (∀ v ∈ S, okV w.1.length v) ∧ L.length = nL ∧ lvL ad g.2.2 L ls ∧ va_P g.1 vwCl (pWs g.2.1 ad g.2.2 w) H ∧ va_D A (pWs g.2.1 ad g.2.2 w) ∧ va_S A s.heap H locs
def pX (p : Program) (l : Launch) (e : Env) (R : Room) (s : State) (m : MethodId) (args : Array Value) (below : List Frame) (meth : Method) (c : Code) (Q : State → Prop) (g : pg) (nL : Nat) (A : Nat → Prop) (f : (Nat → Nat) × pW) (wE : pW) (k0 : Nat × Nat) : pK := fun pc L S w =>
  (w.1.length ≤ wE.1.length ∧ nS w ≤ nS wE) ∧ ∀ (ad : Nat → Nat) (H : Heap) (locs : List Loc) (ls : Array Slot), pInv s g nL A f ad H locs ls L S w →
    W p l e R s m args below meth c H locs (w.1.length - f.2.1.length + k0.1) (nS w - nS f.2 + k0.2) Q (F0 m pc ls (S.map (cV ad g.2.2)))
section PS
variable {p : Program} {l : Launch} {e : Env} {R : Room} {s : State} {m : MethodId} {args : Array Value} {below : List Frame} {meth : Method} {c : Code} {Q : State → Prop} {cc : ByteArray} {nL : Nat} {own : String} {g : pg} {A : Nat → Prop} {f : (Nat → Nat) × pW} {wE : pW} {k0 : Nat × Nat}
variable {Φ : pC} {E : pE} {pc nx : Nat} {L S : List pV} {w : pW}
/-- a step that moves only the stack -/
theorem pX_st {S' : List pV} (h : pX p l e R s m args below meth c Q g nL A f wE k0 nx L S' w)
    (ho : (∀ v ∈ L, okV w.1.length v) → (∀ v ∈ S, okV w.1.length v) → ∀ v ∈ S', okV w.1.length v)
    (hw : ∀ (ad : Nat → Nat) (H : Heap) (locs : List Loc) (ls : Array Slot) (cells slots : Nat), lvL ad g.2.2 L ls → (∀ v ∈ S, okV w.1.length v) → va_P g.1 vwCl (pWs g.2.1 ad g.2.2 w) H → va_S A s.heap H locs → pOkW w → W p l e R s m args below meth c H locs cells slots Q (F0 m nx ls (S'.map (cV ad g.2.2))) → W p l e R s m args below meth c H locs cells slots Q (F0 m pc ls (S.map (cV ad g.2.2)))) :
    pX p l e R s m args below meth c Q g nL A f wE k0 pc L S w := by
  refine ⟨h.1, fun ad H locs ls hi => ?_⟩
  obtain ⟨i1, i2, i3, i4, i5, i6, i7, i8, i9, i10⟩ := hi
  exact hw ad H locs ls _ _ i7 i5 i8 i10 i3 (h.2 ad H locs ls ⟨i1, i2, i3, i4, ho i4 i5, i6, i7, i8, i9, i10⟩)
theorem ok_tl {n : Nat} {v : pV} {S : List pV} (h : ∀ u ∈ v :: S, okV n u) : ∀ u ∈ S, okV n u := fun u hu => h u (List.mem_cons_of_mem _ hu)
theorem ok_hd {n : Nat} {v : pV} {S : List pV} (h : ∀ u ∈ v :: S, okV n u) : okV n v := h v List.mem_cons_self
theorem ok_cons {n : Nat} {v : pV} {S : List pV} (h : okV n v) (hs : ∀ u ∈ S, okV n u) : ∀ u ∈ v :: S, okV n u := fun u hu => by
  rcases List.mem_cons.mp hu with rfl | hu
  · exact h
  · exact hs u hu
theorem ok_i {n : Nat} {x : Int} (h : r32 x) : okV n (0, x) := ⟨fun _ => h, fun q => absurd q (by simp), fun q => absurd q (by simp)⟩
theorem ok_l {n : Nat} {x : Int} (h : r64 x) : okV n (1, x) := ⟨fun q => absurd q (by simp), fun _ => h, fun q => absurd q (by simp)⟩
theorem ok_r {n o : Nat} {x : Int} (h : o < n) : okV n (o + 16, x) := ⟨fun q => absurd q (by simp), fun q => absurd q (by simp), fun _ => by simp; omega⟩
theorem r64_32 {x : Int} (h : r32 x) : r64 x := by unfold r32 at h; unfold r64; omega
theorem s_iconst (C : pCtx p s m args c cc nL own g A) {a : Int} (d : decode cc pc = .ok (.iconst a, 1)) (hr : r32 a) : i_push (0, a) (pc + 1) Φ (pX p l e R s m args below meth c Q g nL A f wE k0) E L S w → pX p l e R s m args below meth c Q g nL A f wE k0 pc L S w := fun h =>
  pX_st h (fun _ hs => ok_cons (ok_i hr) hs) (fun _ _ _ _ _ _ _ _ _ _ _ k => lv_iconst C.1 C.2.1 d rfl k)
theorem s_bipush (C : pCtx p s m args c cc nL own g A) {a : Int} (d : decode cc pc = .ok (.bipush a, 2)) (hr : r32 a) (ha : (Int8.ofInt a).toInt32 = i32 a) : i_push (0, a) (pc + 2) Φ (pX p l e R s m args below meth c Q g nL A f wE k0) E L S w → pX p l e R s m args below meth c Q g nL A f wE k0 pc L S w := fun h =>
  pX_st h (fun _ hs => ok_cons (ok_i hr) hs) (fun _ _ _ _ _ _ _ _ _ _ _ k => lv_bipush C.1 C.2.1 d ha k)
theorem s_sipush (C : pCtx p s m args c cc nL own g A) {a : Int} (d : decode cc pc = .ok (.sipush a, 3)) (hr : r32 a) (ha : (Int16.ofInt a).toInt32 = i32 a) : i_push (0, a) (pc + 3) Φ (pX p l e R s m args below meth c Q g nL A f wE k0) E L S w → pX p l e R s m args below meth c Q g nL A f wE k0 pc L S w := fun h =>
  pX_st h (fun _ hs => ok_cons (ok_i hr) hs) (fun _ _ _ _ _ _ _ _ _ _ _ k => lv_sipush C.1 C.2.1 d ha k)
theorem s_lconst (C : pCtx p s m args c cc nL own g A) {a : Int} {n : Fin 2} (d : decode cc pc = .ok (.lconst n, 1)) (hr : r64 a) (ha : Int64.ofNat (n : Nat) = i64 a) : i_push (1, a) (pc + 1) Φ (pX p l e R s m args below meth c Q g nL A f wE k0) E L S w → pX p l e R s m args below meth c Q g nL A f wE k0 pc L S w := fun h =>
  pX_st h (fun _ hs => ok_cons (ok_l hr) hs) (fun _ _ _ _ _ _ _ _ _ _ _ k => lv_lconst C.1 C.2.1 d ha k)
theorem s_ldc (C : pCtx p s m args c cc nL own g A) {a : Int} {ix : Nat} (d : decode cc pc = .ok (.ldc ix, 2)) (hw : Cond.constant own ix (i32 a) ∈ pTb) (hr : r32 a) : i_push (0, a) (pc + 2) Φ (pX p l e R s m args below meth c Q g nL A f wE k0) E L S w → pX p l e R s m args below meth c Q g nL A f wE k0 pc L S w := fun h =>
  pX_st h (fun _ hs => ok_cons (ok_i hr) hs) (fun _ _ _ _ _ _ _ _ _ _ _ k => lv_ldc C.1 C.2.1 C.2.2.2.1 (C.2.2.2.2.1 _ hw) d k)
theorem s_ldc2 (C : pCtx p s m args c cc nL own g A) {a : Int} {ix : Nat} (d : decode cc pc = .ok (.ldc2_w ix, 3)) (hw : Cond.constantLong own ix (i64 a) ∈ pTb) (hr : r64 a) : i_push (1, a) (pc + 3) Φ (pX p l e R s m args below meth c Q g nL A f wE k0) E L S w → pX p l e R s m args below meth c Q g nL A f wE k0 pc L S w := fun h =>
  pX_st h (fun _ hs => ok_cons (ok_l hr) hs) (fun _ _ _ _ _ _ _ _ _ _ _ k => lv_ldc2 C.1 C.2.1 C.2.2.2.1 (C.2.2.2.2.1 _ hw) d k)
theorem s_iload_n (C : pCtx p s m args c cc nL own g A) {i : Fin 4} {j : Nat} (d : decode cc pc = .ok (.iload_n i, 1)) (hj : (i : Nat) = j) : i_iload j (pc + 1) Φ (pX p l e R s m args below meth c Q g nL A f wE k0) E L S w → pX p l e R s m args below meth c Q g nL A f wE k0 pc L S w := fun ⟨x, hx, h⟩ =>
  pX_st h (fun hl hs => ok_cons (hl _ (List.mem_of_getElem? hx)) hs) (fun _ _ _ _ _ _ hl _ _ _ _ k => lv_iload_n C.1 C.2.1 d hj (hl.2.2 _ _ hx (by simp)) k)
theorem s_iload (C : pCtx p s m args c cc nL own g A) {j : Nat} (d : decode cc pc = .ok (.iload j, 2)) : i_iload j (pc + 2) Φ (pX p l e R s m args below meth c Q g nL A f wE k0) E L S w → pX p l e R s m args below meth c Q g nL A f wE k0 pc L S w := fun ⟨x, hx, h⟩ =>
  pX_st h (fun hl hs => ok_cons (hl _ (List.mem_of_getElem? hx)) hs) (fun _ _ _ _ _ _ hl _ _ _ _ k => lv_iload C.1 C.2.1 d (hl.2.2 _ _ hx (by simp)) k)
theorem s_lload_n (C : pCtx p s m args c cc nL own g A) {i : Fin 4} {j : Nat} (d : decode cc pc = .ok (.lload_n i, 1)) (hj : (i : Nat) = j) : i_lload j (pc + 1) Φ (pX p l e R s m args below meth c Q g nL A f wE k0) E L S w → pX p l e R s m args below meth c Q g nL A f wE k0 pc L S w := fun ⟨x, hx, h⟩ =>
  pX_st h (fun hl hs => ok_cons (hl _ (List.mem_of_getElem? hx)) hs) (fun _ _ _ _ _ _ hl _ _ _ _ k => lv_lload_n C.1 C.2.1 d hj (hl.2.2 _ _ hx (by simp)) k)
theorem s_lload (C : pCtx p s m args c cc nL own g A) {j : Nat} (d : decode cc pc = .ok (.lload j, 2)) : i_lload j (pc + 2) Φ (pX p l e R s m args below meth c Q g nL A f wE k0) E L S w → pX p l e R s m args below meth c Q g nL A f wE k0 pc L S w := fun ⟨x, hx, h⟩ =>
  pX_st h (fun hl hs => ok_cons (hl _ (List.mem_of_getElem? hx)) hs) (fun _ _ _ _ _ _ hl _ _ _ _ k => lv_lload C.1 C.2.1 d (hl.2.2 _ _ hx (by simp)) k)
theorem s_aload_n (C : pCtx p s m args c cc nL own g A) {i : Fin 4} {j : Nat} (d : decode cc pc = .ok (.aload_n i, 1)) (hj : (i : Nat) = j) : i_aload j (pc + 1) Φ (pX p l e R s m args below meth c Q g nL A f wE k0) E L S w → pX p l e R s m args below meth c Q g nL A f wE k0 pc L S w := fun ⟨n, x, hx, h2, h9, h⟩ =>
  pX_st h (fun hl hs => ok_cons (hl _ (List.mem_of_getElem? hx)) hs) (fun ad _ _ _ _ _ hl _ _ _ _ k => by
    have hg := hl.2.2 _ _ hx h9
    rw [List.map_cons] at k
    rcases cV_ref (ad := ad) (z := g.2.2) (v := (n, x)) h2 with e | ⟨a, e⟩
    · rw [e] at hg k; exact lv_aload_nN C.1 C.2.1 d hj hg k
    · rw [e] at hg k; exact lv_aload_n C.1 C.2.1 d hj hg k)
theorem s_aload (C : pCtx p s m args c cc nL own g A) {j : Nat} (d : decode cc pc = .ok (.aload j, 2)) : i_aload j (pc + 2) Φ (pX p l e R s m args below meth c Q g nL A f wE k0) E L S w → pX p l e R s m args below meth c Q g nL A f wE k0 pc L S w := fun ⟨n, x, hx, h2, h9, h⟩ =>
  pX_st h (fun hl hs => ok_cons (hl _ (List.mem_of_getElem? hx)) hs) (fun ad _ _ _ _ _ hl _ _ _ _ k => by
    have hg := hl.2.2 _ _ hx h9
    rw [List.map_cons] at k
    rcases cV_ref (ad := ad) (z := g.2.2) (v := (n, x)) h2 with e | ⟨a, e⟩
    · rw [e] at hg k; exact lv_aloadN C.1 C.2.1 d hg k
    · rw [e] at hg k; exact lv_aload C.1 C.2.1 d hg k)
theorem kill_len (L : List pV) (i : Nat) : (kill L i).length = L.length := by
  unfold kill
  repeat' split
  all_goals simp
theorem setL_len (L : List pV) (i : Nat) (v : pV) : (setL L i v).length = L.length := by simp [setL, kill_len]
theorem setL2_len (L : List pV) (i : Nat) (v : pV) : (setL2 L i v).length = L.length := by simp [setL2, kill_len]
theorem kill_get {L : List pV} {i j : Nat} {u : pV} (h : (kill L i)[j]? = some u) (h9 : u.1 ≠ 9) : L[j]? = some u ∧ (j + 1 = i → u.1 ≠ 1) := by
  cases i with
  | zero => exact ⟨h, fun q => absurd q (by omega)⟩
  | succ i =>
    simp only [kill] at h
    split at h
    · rename_i x hx
      by_cases hj : i = j
      · subst hj
        rw [List.getElem?_set_self (List.getElem?_eq_some_iff.mp hx).1] at h
        cases h; exact absurd rfl h9
      · rw [List.getElem?_set_ne hj] at h
        exact ⟨h, fun q => absurd q (by omega)⟩
    · rename_i hx
      refine ⟨h, fun q q1 => ?_⟩
      have : j = i := by omega
      subst this
      obtain ⟨a, b⟩ := u
      simp only at q1
      subst q1
      exact hx b h
theorem setL_get {L : List pV} {i j : Nat} {v u : pV} (hi : i < L.length) (h : (setL L i v)[j]? = some u) (h9 : u.1 ≠ 9) : (j = i ∧ u = v) ∨ (j ≠ i ∧ L[j]? = some u ∧ (j + 1 = i → u.1 ≠ 1)) := by
  unfold setL at h
  by_cases hj : i = j
  · subst hj
    rw [List.getElem?_set_self (by rw [kill_len]; exact hi)] at h
    cases h; exact Or.inl ⟨rfl, rfl⟩
  · rw [List.getElem?_set_ne hj] at h
    exact Or.inr ⟨Ne.symm hj, kill_get h h9⟩
theorem setL2_get {L : List pV} {i j : Nat} {v u : pV} (hi : i + 1 < L.length) (h : (setL2 L i v)[j]? = some u) (h9 : u.1 ≠ 9) : (j = i ∧ u = v) ∨ (j ≠ i ∧ j ≠ i + 1 ∧ L[j]? = some u ∧ (j + 1 = i → u.1 ≠ 1)) := by
  unfold setL2 at h
  by_cases hj1 : i + 1 = j
  · subst hj1
    rw [List.getElem?_set_self (by simp [kill_len]; exact hi)] at h
    cases h; exact absurd rfl h9
  rw [List.getElem?_set_ne hj1] at h
  by_cases hj : i = j
  · subst hj
    rw [List.getElem?_set_self (by rw [kill_len]; omega)] at h
    cases h; exact Or.inl ⟨rfl, rfl⟩
  · rw [List.getElem?_set_ne hj] at h
    exact Or.inr ⟨Ne.symm hj, Ne.symm hj1, kill_get h h9⟩
def lvOf (ad : Nat → Nat) (z : Nat → Int → Nat) (L : List pV) : List (Nat × Value) := (List.range L.length).filterMap (fun j => (L[j]?).bind (fun v => if v.1 = 9 then none else some (j, cV ad z v)))
theorem lvOf_mem {ad : Nat → Nat} {z : Nat → Int → Nat} {L : List pV} {j : Nat} {v : pV} (h : L[j]? = some v) (h9 : v.1 ≠ 9) : (j, cV ad z v) ∈ lvOf ad z L :=
  List.mem_filterMap.mpr ⟨j, List.mem_range.mpr (List.getElem?_eq_some_iff.mp h).1, by simp [h, h9]⟩
theorem lvL.has {ad : Nat → Nat} {z : Nat → Int → Nat} {L : List pV} {ls : Array Slot} (h : lvL ad z L ls) : lv_has ls L.length (lvOf ad z L) := by
  refine ⟨h.1, h.2.1, fun q hq => ?_⟩
  obtain ⟨j, -, hj⟩ := List.mem_filterMap.mp hq
  cases hl : L[j]? with
  | none => rw [hl] at hj; cases hj
  | some v =>
    rw [hl] at hj
    simp only [Option.bind_some] at hj
    split at hj
    · cases hj
    · rename_i h9
      cases hj
      exact h.2.2 j v hl h9
theorem lvL_of1 {ad : Nat → Nat} {z : Nat → Int → Nat} {L : List pV} {ls' : Array Slot} {i : Nat} {v : pV} (hi : i < L.length) (h : lv_has ls' L.length ((i, cV ad z v) :: (lvOf ad z L).filter (fun q => !(q.1 == i) && !(q.1 + 1 == i && q.2.category == 2)))) : lvL ad z (setL L i v) ls' := by
  refine ⟨by rw [setL_len]; exact h.1, h.2.1, fun j u hu h9 => ?_⟩
  rcases setL_get hi hu h9 with ⟨rfl, rfl⟩ | ⟨h1, h2, h3⟩
  · exact h.2.2 (j, _) List.mem_cons_self
  · refine h.2.2 (j, _) (List.mem_cons_of_mem _ (List.mem_filter.mpr ⟨lvOf_mem h2 h9, ?_⟩))
    simp only [Bool.and_eq_true, Bool.not_eq_true', beq_eq_false_iff_ne, ne_eq, Bool.and_eq_false_iff, cV_cat]
    refine ⟨h1, ?_⟩
    by_cases e : j + 1 = i
    · refine Or.inr (fun q => h3 e ?_)
      have q' : cat u = 2 := (cV_cat (ad := ad) (z := z) u).symm.trans q
      unfold cat at q'
      by_cases e1 : u.1 = 1
      · exact e1
      · rw [if_neg e1] at q'; exact absurd q' (by decide)
    · exact Or.inl e
theorem lvL_of2 {ad : Nat → Nat} {z : Nat → Int → Nat} {L : List pV} {ls' : Array Slot} {i : Nat} {v : pV} (hi : i + 1 < L.length) (h : lv_has ls' L.length ((i, cV ad z v) :: (lvOf ad z L).filter (fun q => !(q.1 == i) && (!(q.1 == i + 1) && !(q.1 + 1 == i && q.2.category == 2))))) : lvL ad z (setL2 L i v) ls' := by
  refine ⟨by rw [setL2_len]; exact h.1, h.2.1, fun j u hu h9 => ?_⟩
  rcases setL2_get hi hu h9 with ⟨rfl, rfl⟩ | ⟨h1, h1', h2, h3⟩
  · exact h.2.2 (j, _) List.mem_cons_self
  · refine h.2.2 (j, _) (List.mem_cons_of_mem _ (List.mem_filter.mpr ⟨lvOf_mem h2 h9, ?_⟩))
    simp only [Bool.and_eq_true, Bool.not_eq_true', beq_eq_false_iff_ne, ne_eq, Bool.and_eq_false_iff, cV_cat]
    refine ⟨h1, h1', ?_⟩
    by_cases e : j + 1 = i
    · refine Or.inr (fun q => h3 e ?_)
      have q' : cat u = 2 := (cV_cat (ad := ad) (z := z) u).symm.trans q
      unfold cat at q'
      by_cases e1 : u.1 = 1
      · exact e1
      · rw [if_neg e1] at q'; exact absurd q' (by decide)
    · exact Or.inl e
theorem mem_set {L : List pV} {i : Nat} {v u : pV} (h : u ∈ L.set i v) : u ∈ L ∨ u = v := List.mem_or_eq_of_mem_set h
theorem ok_9 {n : Nat} {x : Int} : okV n (9, x) := ⟨fun q => absurd q (by simp), fun q => absurd q (by simp), fun q => absurd q (by simp)⟩
theorem ok_kill {n i : Nat} {L : List pV} (h : ∀ u ∈ L, okV n u) : ∀ u ∈ kill L i, okV n u := by
  intro u hu
  unfold kill at hu
  split at hu
  · exact h u hu
  · split at hu
    · rcases mem_set hu with q | q
      · exact h u q
      · rw [q]; exact ok_9
    · exact h u hu
theorem ok_setL {n i : Nat} {L : List pV} {v : pV} (h : ∀ u ∈ L, okV n u) (hv : okV n v) : ∀ u ∈ setL L i v, okV n u := fun u hu => by
  rcases mem_set hu with q | q
  · exact ok_kill h u q
  · rw [q]; exact hv
theorem ok_setL2 {n i : Nat} {L : List pV} {v : pV} (h : ∀ u ∈ L, okV n u) (hv : okV n v) : ∀ u ∈ setL2 L i v, okV n u := fun u hu => by
  rcases mem_set hu with q | q
  · rcases mem_set q with q | q
    · exact ok_kill h u q
    · rw [q]; exact hv
  · rw [q]; exact ok_9
/-- a step that moves locals and stack -/
theorem pX_lo {L' S' : List pV} (h : pX p l e R s m args below meth c Q g nL A f wE k0 nx L' S' w) (hn : L'.length = L.length)
    (ho : (∀ v ∈ L, okV w.1.length v) → (∀ v ∈ S, okV w.1.length v) → (∀ v ∈ L', okV w.1.length v) ∧ ∀ v ∈ S', okV w.1.length v)
    (hw : ∀ (ad : Nat → Nat) (H : Heap) (locs : List Loc) (ls : Array Slot) (cells slots : Nat), lvL ad g.2.2 L ls → (∀ ls', lvL ad g.2.2 L' ls' → W p l e R s m args below meth c H locs cells slots Q (F0 m nx ls' (S'.map (cV ad g.2.2)))) → W p l e R s m args below meth c H locs cells slots Q (F0 m pc ls (S.map (cV ad g.2.2)))) :
    pX p l e R s m args below meth c Q g nL A f wE k0 pc L S w := by
  refine ⟨h.1, fun ad H locs ls hi => ?_⟩
  obtain ⟨i1, i2, i3, i4, i5, i6, i7, i8, i9, i10⟩ := hi
  exact hw ad H locs ls _ _ i7 (fun ls' hl' => h.2 ad H locs ls' ⟨i1, i2, i3, (ho i4 i5).1, (ho i4 i5).2, hn.trans i6, hl', i8, i9, i10⟩)
theorem s_istore_n (C : pCtx p s m args c cc nL own g A) {i : Fin 4} {j : Nat} (d : decode cc pc = .ok (.istore_n i, 1)) (hj : (i : Nat) = j) : i_istore j (pc + 1) Φ (pX p l e R s m args below meth c Q g nL A f wE k0) E L S w → pX p l e R s m args below meth c Q g nL A f wE k0 pc L S w := fun ⟨x, S', e, hi, h⟩ => by
  subst e
  exact pX_lo h (setL_len _ _ _) (fun hl hs => ⟨ok_setL hl (ok_hd hs), ok_tl hs⟩) (fun _ _ _ _ _ _ hl k => lv_istore_n C.1 C.2.1 d hj hl.has hi rfl (fun ls' h' => k ls' (lvL_of1 hi h')))
theorem s_istore (C : pCtx p s m args c cc nL own g A) {j : Nat} (d : decode cc pc = .ok (.istore j, 2)) : i_istore j (pc + 2) Φ (pX p l e R s m args below meth c Q g nL A f wE k0) E L S w → pX p l e R s m args below meth c Q g nL A f wE k0 pc L S w := fun ⟨x, S', e, hi, h⟩ => by
  subst e
  exact pX_lo h (setL_len _ _ _) (fun hl hs => ⟨ok_setL hl (ok_hd hs), ok_tl hs⟩) (fun _ _ _ _ _ _ hl k => lv_istore C.1 C.2.1 d hl.has hi rfl (fun ls' h' => k ls' (lvL_of1 hi h')))
theorem s_lstore_n (C : pCtx p s m args c cc nL own g A) {i : Fin 4} {j : Nat} (d : decode cc pc = .ok (.lstore_n i, 1)) (hj : (i : Nat) = j) : i_lstore j (pc + 1) Φ (pX p l e R s m args below meth c Q g nL A f wE k0) E L S w → pX p l e R s m args below meth c Q g nL A f wE k0 pc L S w := fun ⟨x, S', e, hi, h⟩ => by
  subst e
  exact pX_lo h (setL2_len _ _ _) (fun hl hs => ⟨ok_setL2 hl (ok_hd hs), ok_tl hs⟩) (fun _ _ _ _ _ _ hl k => lv_lstore_n C.1 C.2.1 d hj hl.has hi rfl (fun ls' h' => k ls' (lvL_of2 hi h')))
theorem s_lstore (C : pCtx p s m args c cc nL own g A) {j : Nat} (d : decode cc pc = .ok (.lstore j, 2)) : i_lstore j (pc + 2) Φ (pX p l e R s m args below meth c Q g nL A f wE k0) E L S w → pX p l e R s m args below meth c Q g nL A f wE k0 pc L S w := fun ⟨x, S', e, hi, h⟩ => by
  subst e
  exact pX_lo h (setL2_len _ _ _) (fun hl hs => ⟨ok_setL2 hl (ok_hd hs), ok_tl hs⟩) (fun _ _ _ _ _ _ hl k => lv_lstore C.1 C.2.1 d hl.has hi rfl (fun ls' h' => k ls' (lvL_of2 hi h')))
theorem s_astore_n (C : pCtx p s m args c cc nL own g A) {i : Fin 4} {j : Nat} (d : decode cc pc = .ok (.astore_n i, 1)) (hj : (i : Nat) = j) : i_astore j (pc + 1) Φ (pX p l e R s m args below meth c Q g nL A f wE k0) E L S w → pX p l e R s m args below meth c Q g nL A f wE k0 pc L S w := fun ⟨n, x, S', e, h2, h9, hi, h⟩ => by
  subst e
  refine pX_lo h (setL_len _ _ _) (fun hl hs => ⟨ok_setL hl (ok_hd hs), ok_tl hs⟩) (fun ad _ _ _ _ _ hl k => ?_)
  rw [List.map_cons]
  have k' := fun ls' h' => k ls' (lvL_of1 hi h')
  rcases cV_ref (ad := ad) (z := g.2.2) (v := (n, x)) h2 with e | ⟨a, e⟩
  · rw [e] at k' ⊢; exact lv_astore_nN C.1 C.2.1 d hj hl.has hi rfl k'
  · rw [e] at k' ⊢; exact lv_astore_n C.1 C.2.1 d hj hl.has hi rfl k'
theorem s_astore (C : pCtx p s m args c cc nL own g A) {j : Nat} (d : decode cc pc = .ok (.astore j, 2)) : i_astore j (pc + 2) Φ (pX p l e R s m args below meth c Q g nL A f wE k0) E L S w → pX p l e R s m args below meth c Q g nL A f wE k0 pc L S w := fun ⟨n, x, S', e, h2, h9, hi, h⟩ => by
  subst e
  refine pX_lo h (setL_len _ _ _) (fun hl hs => ⟨ok_setL hl (ok_hd hs), ok_tl hs⟩) (fun ad _ _ _ _ _ hl k => ?_)
  rw [List.map_cons]
  have k' := fun ls' h' => k ls' (lvL_of1 hi h')
  rcases cV_ref (ad := ad) (z := g.2.2) (v := (n, x)) h2 with e | ⟨a, e⟩
  · rw [e] at k' ⊢; exact lv_astoreN C.1 C.2.1 d hl.has hi rfl k'
  · rw [e] at k' ⊢; exact lv_astore C.1 C.2.1 d hl.has hi rfl k'
theorem s_iinc (C : pCtx p s m args c cc nL own g A) {j : Nat} {a : Int} (d : decode cc pc = .ok (.iinc j a, 3)) : i_iinc j a (pc + 3) Φ (pX p l e R s m args below meth c Q g nL A f wE k0) E L S w → pX p l e R s m args below meth c Q g nL A f wE k0 pc L S w := fun ⟨x, hx, h⟩ => by
  have hi : j < L.length := (List.getElem?_eq_some_iff.mp hx).1
  refine pX_lo h (setL_len _ _ _) (fun hl hs => ⟨ok_setL hl (ok_i (w32_in _)), hs⟩) (fun ad _ _ _ _ _ hl k => ?_)
  obtain ⟨kk, hkk⟩ := List.getElem?_of_mem (lvOf_mem (ad := ad) (z := g.2.2) hx (by simp))
  refine lv_iinc (v := i32 (w32 (x + a))) C.1 C.2.1 d hl.has hkk (by rw [i32_add]; rfl) hi rfl (fun ls' h' => k ls' (lvL_of1 hi h'))
end PS

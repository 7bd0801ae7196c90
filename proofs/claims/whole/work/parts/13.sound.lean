section PS
variable {p : Program} {l : Launch} {e : Env} {R : Room} {s : State} {m : MethodId} {args : Array Value} {below : List Frame} {meth : Method} {c : Code} {Q : State → Prop} {cc : ByteArray} {nL : Nat} {own : String} {g : pg} {A : Nat → Prop} {f : (Nat → Nat) × pW} {wE : pW} {k0 : Nat × Nat}
variable {Φ : pC} {E : pE} {pc nx : Nat} {L S : List pV} {w : pW}
theorem ok_bin {n : Nat} {x : Int} {u v : pV} {S : List pV} (hr : r32 x) (hs : ∀ q ∈ u :: v :: S, okV n q) : ∀ q ∈ (0, x) :: S, okV n q := ok_cons (ok_i hr) (ok_tl (ok_tl hs))
theorem ok_lbin {n : Nat} {x : Int} {u v : pV} {S : List pV} (hr : r64 x) (hs : ∀ q ∈ u :: v :: S, okV n q) : ∀ q ∈ (1, x) :: S, okV n q := ok_cons (ok_l hr) (ok_tl (ok_tl hs))
theorem s_iadd (C : pCtx p s m args c cc nL own g A) (d : decode cc pc = .ok (.iadd, 1)) : i_bin (fun a b => w32 (a + b)) (pc + 1) Φ (pX p l e R s m args below meth c Q g nL A f wE k0) E L S w → pX p l e R s m args below meth c Q g nL A f wE k0 pc L S w := fun ⟨a, b, S', e, h⟩ => by
  subst e
  exact pX_st h (fun _ hs => ok_bin (w32_in _) hs) (fun _ _ _ _ _ _ _ _ _ _ _ k => lv_iadd C.1 C.2.1 d (by rw [← i32_add]; exact k))
theorem s_isub (C : pCtx p s m args c cc nL own g A) (d : decode cc pc = .ok (.isub, 1)) : i_bin (fun a b => w32 (a - b)) (pc + 1) Φ (pX p l e R s m args below meth c Q g nL A f wE k0) E L S w → pX p l e R s m args below meth c Q g nL A f wE k0 pc L S w := fun ⟨a, b, S', e, h⟩ => by
  subst e
  exact pX_st h (fun _ hs => ok_bin (w32_in _) hs) (fun _ _ _ _ _ _ _ _ _ _ _ k => lv_isub C.1 C.2.1 d (by rw [← i32_sub]; exact k))
theorem s_imul (C : pCtx p s m args c cc nL own g A) (d : decode cc pc = .ok (.imul, 1)) : i_bin (fun a b => w32 (a * b)) (pc + 1) Φ (pX p l e R s m args below meth c Q g nL A f wE k0) E L S w → pX p l e R s m args below meth c Q g nL A f wE k0 pc L S w := fun ⟨a, b, S', e, h⟩ => by
  subst e
  exact pX_st h (fun _ hs => ok_bin (w32_in _) hs) (fun _ _ _ _ _ _ _ _ _ _ _ k => lv_imul C.1 C.2.1 d (by rw [← i32_mul]; exact k))
theorem s_iand (C : pCtx p s m args c cc nL own g A) (d : decode cc pc = .ok (.iand, 1)) : i_bin pAnd (pc + 1) Φ (pX p l e R s m args below meth c Q g nL A f wE k0) E L S w → pX p l e R s m args below meth c Q g nL A f wE k0 pc L S w := fun ⟨a, b, S', e, h⟩ => by
  subst e
  exact pX_st h (fun _ hs => ok_bin (r32_of _) hs) (fun _ _ _ _ _ _ _ _ _ _ _ k => lv_iand C.1 C.2.1 d (by rw [List.map_cons, cV_0, pAnd, i32_of] at k; exact k))
theorem s_ior (C : pCtx p s m args c cc nL own g A) (d : decode cc pc = .ok (.ior, 1)) : i_bin pOr (pc + 1) Φ (pX p l e R s m args below meth c Q g nL A f wE k0) E L S w → pX p l e R s m args below meth c Q g nL A f wE k0 pc L S w := fun ⟨a, b, S', e, h⟩ => by
  subst e
  exact pX_st h (fun _ hs => ok_bin (r32_of _) hs) (fun _ _ _ _ _ _ _ _ _ _ _ k => lv_ior C.1 C.2.1 d (by rw [List.map_cons, cV_0, pOr, i32_of] at k; exact k))
theorem s_ixor (C : pCtx p s m args c cc nL own g A) (d : decode cc pc = .ok (.ixor, 1)) : i_bin pXor (pc + 1) Φ (pX p l e R s m args below meth c Q g nL A f wE k0) E L S w → pX p l e R s m args below meth c Q g nL A f wE k0 pc L S w := fun ⟨a, b, S', e, h⟩ => by
  subst e
  exact pX_st h (fun _ hs => ok_bin (r32_of _) hs) (fun _ _ _ _ _ _ _ _ _ _ _ k => lv_ixor C.1 C.2.1 d (by rw [List.map_cons, cV_0, pXor, i32_of] at k; exact k))
theorem s_ishl (C : pCtx p s m args c cc nL own g A) (d : decode cc pc = .ok (.ishl, 1)) : i_bin pShl (pc + 1) Φ (pX p l e R s m args below meth c Q g nL A f wE k0) E L S w → pX p l e R s m args below meth c Q g nL A f wE k0 pc L S w := fun ⟨a, b, S', e, h⟩ => by
  subst e
  exact pX_st h (fun _ hs => ok_bin (r32_of _) hs) (fun _ _ _ _ _ _ _ _ _ _ _ k => lv_ishl C.1 C.2.1 d (by rw [List.map_cons, cV_0, pShl, i32_of] at k; exact k))
theorem s_ishr (C : pCtx p s m args c cc nL own g A) (d : decode cc pc = .ok (.ishr, 1)) : i_bin pShr (pc + 1) Φ (pX p l e R s m args below meth c Q g nL A f wE k0) E L S w → pX p l e R s m args below meth c Q g nL A f wE k0 pc L S w := fun ⟨a, b, S', e, h⟩ => by
  subst e
  exact pX_st h (fun _ hs => ok_bin (r32_of _) hs) (fun _ _ _ _ _ _ _ _ _ _ _ k => lv_ishr C.1 C.2.1 d (by rw [List.map_cons, cV_0, pShr, i32_of] at k; exact k))
theorem s_iushr (C : pCtx p s m args c cc nL own g A) (d : decode cc pc = .ok (.iushr, 1)) : i_bin pUshr (pc + 1) Φ (pX p l e R s m args below meth c Q g nL A f wE k0) E L S w → pX p l e R s m args below meth c Q g nL A f wE k0 pc L S w := fun ⟨a, b, S', e, h⟩ => by
  subst e
  exact pX_st h (fun _ hs => ok_bin (r32_of _) hs) (fun _ _ _ _ _ _ _ _ _ _ _ k => lv_iushr C.1 C.2.1 d rfl (by rw [List.map_cons, cV_0, pUshr, i32_of] at k; exact k))
theorem i32_ne0 {b : Int} (h : r32 b) (h0 : b ≠ 0) : ¬ i32 b = 0 := fun q => h0 ((i32_eq h r32_0).mp (q.trans i32_0.symm))
theorem s_idiv (C : pCtx p s m args c cc nL own g A) (d : decode cc pc = .ok (.idiv, 1)) : i_div pIdiv (pc + 1) Φ (pX p l e R s m args below meth c Q g nL A f wE k0) E L S w → pX p l e R s m args below meth c Q g nL A f wE k0 pc L S w := fun ⟨a, b, S', e, h0, h⟩ => by
  subst e
  exact pX_st h (fun _ hs => ok_bin (r32_of _) hs) (fun _ _ _ _ _ _ _ hs _ _ _ k => lv_idiv C.1 C.2.1 d (i32_ne0 ((ok_hd hs).1 rfl) h0) (by rw [List.map_cons, cV_0, pIdiv, i32_of] at k; exact k))
theorem s_irem (C : pCtx p s m args c cc nL own g A) (d : decode cc pc = .ok (.irem, 1)) : i_div pIrem (pc + 1) Φ (pX p l e R s m args below meth c Q g nL A f wE k0) E L S w → pX p l e R s m args below meth c Q g nL A f wE k0 pc L S w := fun ⟨a, b, S', e, h0, h⟩ => by
  subst e
  exact pX_st h (fun _ hs => ok_bin (r32_of _) hs) (fun _ _ _ _ _ _ _ hs _ _ _ k => lv_irem C.1 C.2.1 d (i32_ne0 ((ok_hd hs).1 rfl) h0) (by rw [List.map_cons, cV_0, pIrem, i32_of] at k; exact k))
theorem s_ladd (C : pCtx p s m args c cc nL own g A) (d : decode cc pc = .ok (.ladd, 1)) : i_lbin (fun a b => w64 (a + b)) (pc + 1) Φ (pX p l e R s m args below meth c Q g nL A f wE k0) E L S w → pX p l e R s m args below meth c Q g nL A f wE k0 pc L S w := fun ⟨a, b, S', e, h⟩ => by
  subst e
  exact pX_st h (fun _ hs => ok_lbin (w64_in _) hs) (fun _ _ _ _ _ _ _ _ _ _ _ k => lv_ladd C.1 C.2.1 d (by rw [← i64_add]; exact k))
theorem s_lsub (C : pCtx p s m args c cc nL own g A) (d : decode cc pc = .ok (.lsub, 1)) : i_lbin (fun a b => w64 (a - b)) (pc + 1) Φ (pX p l e R s m args below meth c Q g nL A f wE k0) E L S w → pX p l e R s m args below meth c Q g nL A f wE k0 pc L S w := fun ⟨a, b, S', e, h⟩ => by
  subst e
  exact pX_st h (fun _ hs => ok_lbin (w64_in _) hs) (fun _ _ _ _ _ _ _ _ _ _ _ k => lv_lsub C.1 C.2.1 d (by rw [← i64_sub]; exact k))
theorem s_lmul (C : pCtx p s m args c cc nL own g A) (d : decode cc pc = .ok (.lmul, 1)) : i_lbin (fun a b => w64 (a * b)) (pc + 1) Φ (pX p l e R s m args below meth c Q g nL A f wE k0) E L S w → pX p l e R s m args below meth c Q g nL A f wE k0 pc L S w := fun ⟨a, b, S', e, h⟩ => by
  subst e
  exact pX_st h (fun _ hs => ok_lbin (w64_in _) hs) (fun _ _ _ _ _ _ _ _ _ _ _ k => lv_lmul C.1 C.2.1 d (by rw [← i64_mul]; exact k))
theorem s_land (C : pCtx p s m args c cc nL own g A) (d : decode cc pc = .ok (.land, 1)) : i_lbin pLand (pc + 1) Φ (pX p l e R s m args below meth c Q g nL A f wE k0) E L S w → pX p l e R s m args below meth c Q g nL A f wE k0 pc L S w := fun ⟨a, b, S', e, h⟩ => by
  subst e
  exact pX_st h (fun _ hs => ok_lbin (r64_of _) hs) (fun _ _ _ _ _ _ _ _ _ _ _ k => lv_land C.1 C.2.1 d (by rw [List.map_cons, cV_1, pLand, i64_of] at k; exact k))
theorem s_lor (C : pCtx p s m args c cc nL own g A) (d : decode cc pc = .ok (.lor, 1)) : i_lbin pLor (pc + 1) Φ (pX p l e R s m args below meth c Q g nL A f wE k0) E L S w → pX p l e R s m args below meth c Q g nL A f wE k0 pc L S w := fun ⟨a, b, S', e, h⟩ => by
  subst e
  exact pX_st h (fun _ hs => ok_lbin (r64_of _) hs) (fun _ _ _ _ _ _ _ _ _ _ _ k => lv_lor C.1 C.2.1 d (by rw [List.map_cons, cV_1, pLor, i64_of] at k; exact k))
theorem s_lshl (C : pCtx p s m args c cc nL own g A) (d : decode cc pc = .ok (.lshl, 1)) : i_lsh pLshl (pc + 1) Φ (pX p l e R s m args below meth c Q g nL A f wE k0) E L S w → pX p l e R s m args below meth c Q g nL A f wE k0 pc L S w := fun ⟨a, b, S', e, h⟩ => by
  subst e
  exact pX_st h (fun _ hs => ok_lbin (r64_of _) hs) (fun _ _ _ _ _ _ _ _ _ _ _ k => lv_lshl C.1 C.2.1 d rfl (by rw [List.map_cons, cV_1, pLshl, i64_of] at k; exact k))
theorem s_lshr (C : pCtx p s m args c cc nL own g A) (d : decode cc pc = .ok (.lshr, 1)) : i_lsh pLshr (pc + 1) Φ (pX p l e R s m args below meth c Q g nL A f wE k0) E L S w → pX p l e R s m args below meth c Q g nL A f wE k0 pc L S w := fun ⟨a, b, S', e, h⟩ => by
  subst e
  exact pX_st h (fun _ hs => ok_lbin (r64_of _) hs) (fun _ _ _ _ _ _ _ _ _ _ _ k => lv_lshr C.1 C.2.1 d rfl (by rw [List.map_cons, cV_1, pLshr, i64_of] at k; exact k))
theorem s_lushr (C : pCtx p s m args c cc nL own g A) (d : decode cc pc = .ok (.lushr, 1)) : i_lsh pLushr (pc + 1) Φ (pX p l e R s m args below meth c Q g nL A f wE k0) E L S w → pX p l e R s m args below meth c Q g nL A f wE k0 pc L S w := fun ⟨a, b, S', e, h⟩ => by
  subst e
  exact pX_st h (fun _ hs => ok_lbin (r64_of _) hs) (fun _ _ _ _ _ _ _ _ _ _ _ k => lv_lushr C.1 C.2.1 d rfl (by rw [List.map_cons, cV_1, pLushr, i64_of] at k; exact k))
theorem i32_64 {a : Int} (h : r32 a) : (i32 a).toInt64 = i64 a := by
  apply Int64.toInt_inj.mp
  rw [i64_toInt (r64_32 h), Int32.toInt_toInt64, i32_toInt h]
theorem s_i2l (C : pCtx p s m args c cc nL own g A) (d : decode cc pc = .ok (.i2l, 1)) : i_i2l (pc + 1) Φ (pX p l e R s m args below meth c Q g nL A f wE k0) E L S w → pX p l e R s m args below meth c Q g nL A f wE k0 pc L S w := fun ⟨a, S', e, h⟩ => by
  subst e
  exact pX_st h (fun _ hs => ok_cons (ok_l (r64_32 ((ok_hd hs).1 rfl))) (ok_tl hs)) (fun _ _ _ _ _ _ _ hs _ _ _ k => lv_i2l C.1 C.2.1 d (i32_64 ((ok_hd hs).1 rfl)) k)
theorem s_l2i (C : pCtx p s m args c cc nL own g A) (d : decode cc pc = .ok (.l2i, 1)) : i_l2i (pc + 1) Φ (pX p l e R s m args below meth c Q g nL A f wE k0) E L S w → pX p l e R s m args below meth c Q g nL A f wE k0 pc L S w := fun ⟨a, S', e, h⟩ => by
  subst e
  exact pX_st h (fun _ hs => ok_cons (ok_i (r32_of _)) (ok_tl hs)) (fun _ _ _ _ _ _ _ _ _ _ _ k => lv_l2i C.1 C.2.1 d rfl (by rw [List.map_cons, cV_0, pL2i, i32_of] at k; exact k))
theorem s_i2c (C : pCtx p s m args c cc nL own g A) (d : decode cc pc = .ok (.i2c, 1)) : i_i2c (pc + 1) Φ (pX p l e R s m args below meth c Q g nL A f wE k0) E L S w → pX p l e R s m args below meth c Q g nL A f wE k0 pc L S w := fun ⟨a, S', e, h⟩ => by
  subst e
  exact pX_st h (fun _ hs => ok_cons (ok_i (r32_of _)) (ok_tl hs)) (fun _ _ _ _ _ _ _ _ _ _ _ k => lv_i2c C.1 C.2.1 d rfl (by rw [List.map_cons, cV_0, pI2c, i32_of] at k; exact k))
theorem i64_cmp {a b : Int} (ha : r64 a) (hb : r64 b) : lg_cmp (i64 a) (i64 b) = i32 (pLcmp a b) := by
  unfold lg_cmp pLcmp
  have h1 : (i64 a > i64 b) ↔ a > b := by rw [gt_iff_lt, Int64.lt_iff_toInt_lt, i64_toInt ha, i64_toInt hb]
  have h2 : (i64 a = i64 b) ↔ a = b := by rw [← Int64.toInt_inj, i64_toInt ha, i64_toInt hb]
  by_cases q1 : a > b
  · rw [if_pos q1, if_pos (h1.mpr q1)]; rfl
  · rw [if_neg q1, if_neg (fun q => q1 (h1.mp q))]
    by_cases q2 : a = b
    · rw [if_pos q2, if_pos (h2.mpr q2)]; rfl
    · rw [if_neg q2, if_neg (fun q => q2 (h2.mp q))]; rfl
theorem pLcmp_in (a b : Int) : r32 (pLcmp a b) := by unfold pLcmp r32; repeat' split <;> omega
theorem s_lcmp (C : pCtx p s m args c cc nL own g A) (d : decode cc pc = .ok (.lcmp, 1)) : i_lcmp (pc + 1) Φ (pX p l e R s m args below meth c Q g nL A f wE k0) E L S w → pX p l e R s m args below meth c Q g nL A f wE k0 pc L S w := fun ⟨a, b, S', e, h⟩ => by
  subst e
  exact pX_st h (fun _ hs => ok_bin (pLcmp_in _ _) hs) (fun _ _ _ _ _ _ _ hs _ _ _ k => W.lcmp C.1 C.2.1 d (by rw [i64_cmp ((ok_hd (ok_tl hs)).2.1 rfl) ((ok_hd hs).2.1 rfl)]; exact k))
theorem cat_1 {v : pV} (h : v.1 ≠ 1) : cat v = 1 := by unfold cat; rw [if_neg h]
theorem s_dup (C : pCtx p s m args c cc nL own g A) (d : decode cc pc = .ok (.dup, 1)) : i_dup (pc + 1) Φ (pX p l e R s m args below meth c Q g nL A f wE k0) E L S w → pX p l e R s m args below meth c Q g nL A f wE k0 pc L S w := fun ⟨v, S', e, hv, h⟩ => by
  subst e
  exact pX_st h (fun _ hs => ok_cons (ok_hd hs) hs) (fun _ _ _ _ _ _ _ _ _ _ _ k => lv_dup C.1 C.2.1 d ((cV_cat v).trans (cat_1 hv)) k)
theorem s_dup2 (C : pCtx p s m args c cc nL own g A) (d : decode cc pc = .ok (.dup2, 1)) : i_dup2 (pc + 1) Φ (pX p l e R s m args below meth c Q g nL A f wE k0) E L S w → pX p l e R s m args below meth c Q g nL A f wE k0 pc L S w := fun ⟨u, v, S', e, hu, hv, h⟩ => by
  subst e
  exact pX_st h (fun _ hs => ok_cons (ok_hd hs) (ok_cons (ok_hd (ok_tl hs)) hs)) (fun _ _ _ _ _ _ _ _ _ _ _ k => lv_dup2_11 C.1 C.2.1 d ((cV_cat u).trans (cat_1 hu)) ((cV_cat v).trans (cat_1 hv)) k)
theorem s_pop (C : pCtx p s m args c cc nL own g A) (d : decode cc pc = .ok (.pop, 1)) : i_pop (pc + 1) Φ (pX p l e R s m args below meth c Q g nL A f wE k0) E L S w → pX p l e R s m args below meth c Q g nL A f wE k0 pc L S w := fun ⟨v, S', e, hv, h⟩ => by
  subst e
  exact pX_st h (fun _ hs => ok_tl hs) (fun _ _ _ _ _ _ _ _ _ _ _ k => lv_pop C.1 C.2.1 d ((cV_cat v).trans (cat_1 hv)) k)
-- jumps
theorem s_goto (C : pCtx p s m args c cc nL own g A) {off : Int} {tg : Nat} (d : decode cc pc = .ok (.goto off, 3)) (ht : (pc : Int) + off = (tg : Int)) : i_goto tg Φ (pX p l e R s m args below meth c Q g nL A f wE k0) E L S w → pX p l e R s m args below meth c Q g nL A f wE k0 pc L S w := fun h =>
  pX_st h (fun _ hs => hs) (fun _ _ _ _ _ _ _ _ _ _ _ k => lv_goto C.1 C.2.1 d ht k)
/-- a step with two ways, both on the stack behind S -/
theorem pX_br {S' : List pV} {tg : Nat} {f1 : Prop} (ht : f1 → pX p l e R s m args below meth c Q g nL A f wE k0 tg L S' w) (hf : ¬ f1 → pX p l e R s m args below meth c Q g nL A f wE k0 nx L S' w)
    (ho : (∀ v ∈ S, okV w.1.length v) → ∀ v ∈ S', okV w.1.length v)
    (hw : ∀ (ad : Nat → Nat) (H : Heap) (locs : List Loc) (ls : Array Slot) (cells slots : Nat), (∀ v ∈ S, okV w.1.length v) → (f1 → W p l e R s m args below meth c H locs cells slots Q (F0 m tg ls (S'.map (cV ad g.2.2)))) → (¬ f1 → W p l e R s m args below meth c H locs cells slots Q (F0 m nx ls (S'.map (cV ad g.2.2)))) → W p l e R s m args below meth c H locs cells slots Q (F0 m pc ls (S.map (cV ad g.2.2)))) :
    pX p l e R s m args below meth c Q g nL A f wE k0 pc L S w := by
  have hb : w.1.length ≤ wE.1.length ∧ nS w ≤ nS wE := by
    by_cases q : f1
    · exact (ht q).1
    · exact (hf q).1
  refine ⟨hb, fun ad H locs ls hi => ?_⟩
  obtain ⟨i1, i2, i3, i4, i5, i6, i7, i8, i9, i10⟩ := hi
  exact hw ad H locs ls _ _ i5 (fun q => (ht q).2 ad H locs ls ⟨i1, i2, i3, i4, ho i5, i6, i7, i8, i9, i10⟩) (fun q => (hf q).2 ad H locs ls ⟨i1, i2, i3, i4, ho i5, i6, i7, i8, i9, i10⟩)
theorem s_if_eq (C : pCtx p s m args c cc nL own g A) {off : Int} {tg : Nat} (d : decode cc pc = .ok (.ifCond .eq off, 3)) (ht : (pc : Int) + off = (tg : Int)) : i_if (fun a => a = 0) tg (pc + 3) Φ (pX p l e R s m args below meth c Q g nL A f wE k0) E L S w → pX p l e R s m args below meth c Q g nL A f wE k0 pc L S w := fun ⟨a, S', e, h1, h2⟩ => by
  subst e
  refine pX_br h1 h2 ok_tl (fun _ _ _ _ _ _ hs kt kf => ?_)
  have ha := (ok_hd hs).1 rfl
  exact lv_if_eq C.1 C.2.1 d ht (fun q => kt ((i32_eq ha r32_0).mp q)) (fun q => kf (fun q2 => q ((i32_eq ha r32_0).mpr q2)))
theorem s_ic_eq (C : pCtx p s m args c cc nL own g A) {off : Int} {tg : Nat} (d : decode cc pc = .ok (.if_icmp .eq off, 3)) (ht : (pc : Int) + off = (tg : Int)) : i_ic (fun a b => a = b) tg (pc + 3) Φ (pX p l e R s m args below meth c Q g nL A f wE k0) E L S w → pX p l e R s m args below meth c Q g nL A f wE k0 pc L S w := fun ⟨a, b, S', e, h1, h2⟩ => by
  subst e
  refine pX_br h1 h2 (fun hs => ok_tl (ok_tl hs)) (fun _ _ _ _ _ _ hs kt kf => ?_)
  have hb := (ok_hd hs).1 rfl
  have ha := (ok_hd (ok_tl hs)).1 rfl
  exact lv_icmp_eq C.1 C.2.1 d ht (fun q => kt ((i32_eq ha hb).mp q)) (fun q => kf (fun q2 => q ((i32_eq ha hb).mpr q2)))
theorem s_if_ne (C : pCtx p s m args c cc nL own g A) {off : Int} {tg : Nat} (d : decode cc pc = .ok (.ifCond .ne off, 3)) (ht : (pc : Int) + off = (tg : Int)) : i_if (fun a => a ≠ 0) tg (pc + 3) Φ (pX p l e R s m args below meth c Q g nL A f wE k0) E L S w → pX p l e R s m args below meth c Q g nL A f wE k0 pc L S w := fun ⟨a, S', e, h1, h2⟩ => by
  subst e
  refine pX_br h1 h2 ok_tl (fun _ _ _ _ _ _ hs kt kf => ?_)
  have ha := (ok_hd hs).1 rfl
  exact lv_if_ne C.1 C.2.1 d ht (fun q => kt (fun q2 => q ((i32_eq ha r32_0).mpr q2))) (fun q => kf (fun q2 => q2 ((i32_eq ha r32_0).mp q)))
theorem s_ic_ne (C : pCtx p s m args c cc nL own g A) {off : Int} {tg : Nat} (d : decode cc pc = .ok (.if_icmp .ne off, 3)) (ht : (pc : Int) + off = (tg : Int)) : i_ic (fun a b => a ≠ b) tg (pc + 3) Φ (pX p l e R s m args below meth c Q g nL A f wE k0) E L S w → pX p l e R s m args below meth c Q g nL A f wE k0 pc L S w := fun ⟨a, b, S', e, h1, h2⟩ => by
  subst e
  refine pX_br h1 h2 (fun hs => ok_tl (ok_tl hs)) (fun _ _ _ _ _ _ hs kt kf => ?_)
  have hb := (ok_hd hs).1 rfl
  have ha := (ok_hd (ok_tl hs)).1 rfl
  exact lv_icmp_ne C.1 C.2.1 d ht (fun q => kt (fun q2 => q ((i32_eq ha hb).mpr q2))) (fun q => kf (fun q2 => q2 ((i32_eq ha hb).mp q)))
theorem s_if_lt (C : pCtx p s m args c cc nL own g A) {off : Int} {tg : Nat} (d : decode cc pc = .ok (.ifCond .lt off, 3)) (ht : (pc : Int) + off = (tg : Int)) : i_if (fun a => a < 0) tg (pc + 3) Φ (pX p l e R s m args below meth c Q g nL A f wE k0) E L S w → pX p l e R s m args below meth c Q g nL A f wE k0 pc L S w := fun ⟨a, S', e, h1, h2⟩ => by
  subst e
  refine pX_br h1 h2 ok_tl (fun _ _ _ _ _ _ hs kt kf => ?_)
  have ha := (ok_hd hs).1 rfl
  exact lv_if_lt C.1 C.2.1 d ht (fun q => kt ((i32_lt ha r32_0).mp q)) (fun q => kf (fun q2 => q ((i32_lt ha r32_0).mpr q2)))
theorem s_ic_lt (C : pCtx p s m args c cc nL own g A) {off : Int} {tg : Nat} (d : decode cc pc = .ok (.if_icmp .lt off, 3)) (ht : (pc : Int) + off = (tg : Int)) : i_ic (fun a b => a < b) tg (pc + 3) Φ (pX p l e R s m args below meth c Q g nL A f wE k0) E L S w → pX p l e R s m args below meth c Q g nL A f wE k0 pc L S w := fun ⟨a, b, S', e, h1, h2⟩ => by
  subst e
  refine pX_br h1 h2 (fun hs => ok_tl (ok_tl hs)) (fun _ _ _ _ _ _ hs kt kf => ?_)
  have hb := (ok_hd hs).1 rfl
  have ha := (ok_hd (ok_tl hs)).1 rfl
  exact lv_icmp_lt C.1 C.2.1 d ht (fun q => kt ((i32_lt ha hb).mp q)) (fun q => kf (fun q2 => q ((i32_lt ha hb).mpr q2)))
theorem s_if_ge (C : pCtx p s m args c cc nL own g A) {off : Int} {tg : Nat} (d : decode cc pc = .ok (.ifCond .ge off, 3)) (ht : (pc : Int) + off = (tg : Int)) : i_if (fun a => 0 ≤ a) tg (pc + 3) Φ (pX p l e R s m args below meth c Q g nL A f wE k0) E L S w → pX p l e R s m args below meth c Q g nL A f wE k0 pc L S w := fun ⟨a, S', e, h1, h2⟩ => by
  subst e
  refine pX_br h1 h2 ok_tl (fun _ _ _ _ _ _ hs kt kf => ?_)
  have ha := (ok_hd hs).1 rfl
  exact lv_if_ge C.1 C.2.1 d ht (fun q => kt ((i32_le r32_0 ha).mp q)) (fun q => kf (fun q2 => q ((i32_le r32_0 ha).mpr q2)))
theorem s_ic_ge (C : pCtx p s m args c cc nL own g A) {off : Int} {tg : Nat} (d : decode cc pc = .ok (.if_icmp .ge off, 3)) (ht : (pc : Int) + off = (tg : Int)) : i_ic (fun a b => b ≤ a) tg (pc + 3) Φ (pX p l e R s m args below meth c Q g nL A f wE k0) E L S w → pX p l e R s m args below meth c Q g nL A f wE k0 pc L S w := fun ⟨a, b, S', e, h1, h2⟩ => by
  subst e
  refine pX_br h1 h2 (fun hs => ok_tl (ok_tl hs)) (fun _ _ _ _ _ _ hs kt kf => ?_)
  have hb := (ok_hd hs).1 rfl
  have ha := (ok_hd (ok_tl hs)).1 rfl
  exact lv_icmp_ge C.1 C.2.1 d ht (fun q => kt ((i32_le hb ha).mp q)) (fun q => kf (fun q2 => q ((i32_le hb ha).mpr q2)))
theorem s_if_gt (C : pCtx p s m args c cc nL own g A) {off : Int} {tg : Nat} (d : decode cc pc = .ok (.ifCond .gt off, 3)) (ht : (pc : Int) + off = (tg : Int)) : i_if (fun a => 0 < a) tg (pc + 3) Φ (pX p l e R s m args below meth c Q g nL A f wE k0) E L S w → pX p l e R s m args below meth c Q g nL A f wE k0 pc L S w := fun ⟨a, S', e, h1, h2⟩ => by
  subst e
  refine pX_br h1 h2 ok_tl (fun _ _ _ _ _ _ hs kt kf => ?_)
  have ha := (ok_hd hs).1 rfl
  exact lv_if_gt C.1 C.2.1 d ht (fun q => kt ((i32_lt r32_0 ha).mp q)) (fun q => kf (fun q2 => q ((i32_lt r32_0 ha).mpr q2)))
theorem s_ic_gt (C : pCtx p s m args c cc nL own g A) {off : Int} {tg : Nat} (d : decode cc pc = .ok (.if_icmp .gt off, 3)) (ht : (pc : Int) + off = (tg : Int)) : i_ic (fun a b => b < a) tg (pc + 3) Φ (pX p l e R s m args below meth c Q g nL A f wE k0) E L S w → pX p l e R s m args below meth c Q g nL A f wE k0 pc L S w := fun ⟨a, b, S', e, h1, h2⟩ => by
  subst e
  refine pX_br h1 h2 (fun hs => ok_tl (ok_tl hs)) (fun _ _ _ _ _ _ hs kt kf => ?_)
  have hb := (ok_hd hs).1 rfl
  have ha := (ok_hd (ok_tl hs)).1 rfl
  exact lv_icmp_gt C.1 C.2.1 d ht (fun q => kt ((i32_lt hb ha).mp q)) (fun q => kf (fun q2 => q ((i32_lt hb ha).mpr q2)))
theorem s_if_le (C : pCtx p s m args c cc nL own g A) {off : Int} {tg : Nat} (d : decode cc pc = .ok (.ifCond .le off, 3)) (ht : (pc : Int) + off = (tg : Int)) : i_if (fun a => a ≤ 0) tg (pc + 3) Φ (pX p l e R s m args below meth c Q g nL A f wE k0) E L S w → pX p l e R s m args below meth c Q g nL A f wE k0 pc L S w := fun ⟨a, S', e, h1, h2⟩ => by
  subst e
  refine pX_br h1 h2 ok_tl (fun _ _ _ _ _ _ hs kt kf => ?_)
  have ha := (ok_hd hs).1 rfl
  exact lv_if_le C.1 C.2.1 d ht (fun q => kt ((i32_le ha r32_0).mp q)) (fun q => kf (fun q2 => q ((i32_le ha r32_0).mpr q2)))
theorem s_ic_le (C : pCtx p s m args c cc nL own g A) {off : Int} {tg : Nat} (d : decode cc pc = .ok (.if_icmp .le off, 3)) (ht : (pc : Int) + off = (tg : Int)) : i_ic (fun a b => a ≤ b) tg (pc + 3) Φ (pX p l e R s m args below meth c Q g nL A f wE k0) E L S w → pX p l e R s m args below meth c Q g nL A f wE k0 pc L S w := fun ⟨a, b, S', e, h1, h2⟩ => by
  subst e
  refine pX_br h1 h2 (fun hs => ok_tl (ok_tl hs)) (fun _ _ _ _ _ _ hs kt kf => ?_)
  have hb := (ok_hd hs).1 rfl
  have ha := (ok_hd (ok_tl hs)).1 rfl
  exact lv_icmp_le C.1 C.2.1 d ht (fun q => kt ((i32_le ha hb).mp q)) (fun q => kf (fun q2 => q ((i32_le ha hb).mpr q2)))
end PS

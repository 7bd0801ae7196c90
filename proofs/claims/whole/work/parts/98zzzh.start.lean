/-! THE LAW: what the statement gives of the start. Written by tools/start.py. -/
def lz_F : List Cond := flatC (Jvm.Cond.and given_1 narrow_1)
def tmS (i : Nat) : Term := .string "FlintHeap$Reader" ([29, 35, 144].getD i 0)
def bsS (i : Nat) : Nat := [22, 62, 136].getD i 0
theorem fS_ex : ∀ i, i < 3 → lz_F[bsS i]? = some (.exactly (tmS i) "java/lang/String") := by decide +kernel
theorem fS_co : ∀ i, i < 3 → lz_F[bsS i + 1]? = some (.eq (.field (tmS i) "java/lang/String" "coder" "B") (.int 0)) := by decide +kernel
theorem fS_ar : ∀ i, i < 3 → lz_F[bsS i + 2]? = some (.arrayOf (.field (tmS i) "java/lang/String" "value" "[B") .byte) := by decide +kernel
theorem fS_le : ∀ i, i < 3 → lz_F[bsS i + 3]? = some (.eq (.length (.field (tmS i) "java/lang/String" "value" "[B")) (.int (Int32.ofNat (sL.getD i 0)))) := by decide +kernel
theorem fS_el : ∀ i, i < 3 → ∀ j, j < sL.getD i 0 → lz_F[bsS i + 4 + j]? = some (.eq (.elem (.field (tmS i) "java/lang/String" "value" "[B") (.int (Int32.ofNat j))) (.int ((sB.getD i []).getD j 0))) := by decide +kernel
theorem fS_01 : lz_F[135]? = some (.not (.eq (tmS 0) (tmS 1))) := by decide +kernel
theorem fS_02 : lz_F[148]? = some (.not (.eq (tmS 0) (tmS 2))) := by decide +kernel
theorem fS_12 : lz_F[149]? = some (.not (.eq (tmS 1) (tmS 2))) := by decide +kernel
theorem lz_str {args : Array Value} {s : State} {A : Nat → Prop} (hs : ∀ w ∈ lz_F, w.before args s = true) (hA : ∀ a : Nat, a < s.heap.size → ¬ A a) : ∃ adK adV : Nat → Nat, vk_S 3 sL sB adK adV A s s.heap ∧ ∀ i : Nat, i < 3 → (tmS i).eval args s none [] s = some (.ref (adK i)) :=
  vk_Sof (tm := tmS) (by decide) (fun i hi => hs _ (List.mem_of_getElem? (fS_ex i hi))) (fun i hi => hs _ (List.mem_of_getElem? (fS_co i hi))) (fun i hi => hs _ (List.mem_of_getElem? (fS_ar i hi))) (fun i hi => hs _ (List.mem_of_getElem? (fS_le i hi))) (fun i hi j hj => hs _ (List.mem_of_getElem? (fS_el i hi j hj))) (fun i j hi hj hij => by
    have h01 := hs _ (List.mem_of_getElem? fS_01)
    have h02 := hs _ (List.mem_of_getElem? fS_02)
    have h12 := hs _ (List.mem_of_getElem? fS_12)
    rcases (show i = 0 ∨ i = 1 ∨ i = 2 by omega) with rfl | rfl | rfl
    · rcases (show j = 1 ∨ j = 2 by omega) with rfl | rfl
      · exact Or.inl h01
      · exact Or.inl h02
    · rcases (show j = 0 ∨ j = 2 by omega) with rfl | rfl
      · exact Or.inr h01
      · exact Or.inl h12
    · rcases (show j = 0 ∨ j = 1 by omega) with rfl | rfl
      · exact Or.inr h02
      · exact Or.inr h12) hA
theorem lz_tx {args : Array Value} {s : State} {own tx : String} {k : Nat} (h1 : (Cond.stringRef own k tx).before args s = true) (h2 : (Cond.exactly (.string own k) "java/lang/String").before args s = true) : ∃ sa, vk_R own k tx sa s := by
  obtain ⟨a, c, cA, kA, q1, -⟩ := Cond.exactly_spec (args := args) (first := s) (o := none) (s := s) (idx := []) (t := .string own k) (cls := "java/lang/String") h2
  exact ⟨a, vk_R.of h1 q1⟩
theorem lz_arr {args : Array Value} {s : State} {ty : FieldType} (h : (Cond.arrayClass ty).before args s = true) : ∃ cA : ClassId, ArrOfT s cA ty ∧ s.vm.findClass ("[" ++ ty.toString) = some cA := by
  obtain ⟨cA, kA, comp, h1, h2, h3⟩ := Cond.arrayClass_spec h
  exact ⟨cA, fun n z => ⟨fun k h => (by cases h), kA, h2, comp, h3⟩, h1⟩
theorem lz_txt {args : Array Value} {s : State} (hts : ∀ w ∈ lw_tbl, w.before args s = true) (hs : ∀ w ∈ lz_F, w.before args s = true) : ∀ q ∈ pTxt, ∃ sa, vk_R q.1 q.2.1 q.2.2 sa s :=
  List.forall_mem_cons.mpr ⟨lz_tx (hts _ (tk5 (List.mem_of_getElem? (i := 117) rfl))) (hs _ (List.mem_of_getElem? (i := 150) (by decide +kernel))), List.forall_mem_cons.mpr ⟨lz_tx (hts _ (tk5 (List.mem_of_getElem? (i := 151) rfl))) (hs _ (List.mem_of_getElem? (i := 174) (by decide +kernel))), List.forall_mem_cons.mpr ⟨lz_tx (hts _ (tk5 (List.mem_of_getElem? (i := 160) rfl))) (hs _ (List.mem_of_getElem? (i := 208) (by decide +kernel))), List.forall_mem_cons.mpr ⟨lz_tx (hts _ (tk5 (List.mem_of_getElem? (i := 166) rfl))) (hs _ (List.mem_of_getElem? (i := 229) (by decide +kernel))), List.forall_mem_cons.mpr ⟨lz_tx (hts _ (tk5 (List.mem_of_getElem? (i := 174) rfl))) (hs _ (List.mem_of_getElem? (i := 262) (by decide +kernel))), List.forall_mem_cons.mpr ⟨lz_tx (hts _ (tk5 (List.mem_of_getElem? (i := 224) rfl))) (hs _ (List.mem_of_getElem? (i := 286) (by decide +kernel))), List.forall_mem_cons.mpr ⟨lz_tx (hts _ (tk5 (List.mem_of_getElem? (i := 232) rfl))) (hs _ (List.mem_of_getElem? (i := 322) (by decide +kernel))), List.forall_mem_cons.mpr ⟨lz_tx (hts _ (tk6 (List.mem_of_getElem? (i := 1) rfl))) (hs _ (List.mem_of_getElem? (i := 347) (by decide +kernel))), List.forall_mem_cons.mpr ⟨lz_tx (hts _ (tk6 (List.mem_of_getElem? (i := 39) rfl))) (hs _ (List.mem_of_getElem? (i := 384) (by decide +kernel))), List.forall_mem_cons.mpr ⟨lz_tx (hts _ (tk6 (List.mem_of_getElem? (i := 47) rfl))) (hs _ (List.mem_of_getElem? (i := 424) (by decide +kernel))), fun _ h => absurd h List.not_mem_nil⟩⟩⟩⟩⟩⟩⟩⟩⟩⟩
theorem lz_nest {args : Array Value} {s : State} (hts : ∀ w ∈ lw_tbl, w.before args s = true) : ∀ q ∈ pNest, va_Nw (.methodLinkNest q.1 q.2.1 q.2.2.1 q.2.2.2) s :=
  List.forall_mem_cons.mpr ⟨va_Nw.of rfl (hts _ (tk1 (List.mem_of_getElem? (i := 32) rfl))), List.forall_mem_cons.mpr ⟨va_Nw.of rfl (hts _ (tk1 (List.mem_of_getElem? (i := 100) rfl))), List.forall_mem_cons.mpr ⟨va_Nw.of rfl (hts _ (tk1 (List.mem_of_getElem? (i := 138) rfl))), List.forall_mem_cons.mpr ⟨va_Nw.of rfl (hts _ (tk3 (List.mem_of_getElem? (i := 130) rfl))), List.forall_mem_cons.mpr ⟨va_Nw.of rfl (hts _ (tk4 (List.mem_of_getElem? (i := 70) rfl))), List.forall_mem_cons.mpr ⟨va_Nw.of rfl (hts _ (tk4 (List.mem_of_getElem? (i := 72) rfl))), List.forall_mem_cons.mpr ⟨va_Nw.of rfl (hts _ (tk5 (List.mem_of_getElem? (i := 203) rfl))), List.forall_mem_cons.mpr ⟨va_Nw.of rfl (hts _ (tk3 (List.mem_of_getElem? (i := 103) rfl))), List.forall_mem_cons.mpr ⟨va_Nw.of rfl (hts _ (tk1 (List.mem_of_getElem? (i := 227) rfl))), List.forall_mem_cons.mpr ⟨va_Nw.of rfl (hts _ (tk4 (List.mem_of_getElem? (i := 122) rfl))), List.forall_mem_cons.mpr ⟨va_Nw.of rfl (hts _ (tk3 (List.mem_of_getElem? (i := 149) rfl))), List.forall_mem_cons.mpr ⟨va_Nw.of rfl (hts _ (tk3 (List.mem_of_getElem? (i := 150) rfl))), List.forall_mem_cons.mpr ⟨va_Nw.of rfl (hts _ (tk4 (List.mem_of_getElem? (i := 114) rfl))), fun _ h => absurd h List.not_mem_nil⟩⟩⟩⟩⟩⟩⟩⟩⟩⟩⟩⟩⟩
theorem lz_dec {args : Array Value} {s : State} (hts : ∀ w ∈ lw_tbl, w.before args s = true) : ∀ x ∈ pDec, va_Nw (.declares x) s :=
  List.forall_mem_cons.mpr ⟨va_Nw.of rfl (hts _ (tk5 (List.mem_of_getElem? (i := 82) rfl))), List.forall_mem_cons.mpr ⟨va_Nw.of rfl (hts _ (tk5 (List.mem_of_getElem? (i := 84) rfl))), List.forall_mem_cons.mpr ⟨va_Nw.of rfl (hts _ (tk5 (List.mem_of_getElem? (i := 86) rfl))), fun _ h => absurd h List.not_mem_nil⟩⟩⟩
theorem wL_ins9 : Cond.instantiable RX9 11 ∈ pTb := (pwi (tk1 (List.mem_of_getElem? (i := 23) rfl)) rfl)
theorem wL_ini9 : Cond.initialized RX9 ∈ pTb := (pwi (tk1 (List.mem_of_getElem? (i := 1) rfl)) rfl)
theorem wL_ins10 : Cond.instantiable RX10 73 ∈ pTb := (pwi (tk6 (List.mem_of_getElem? (i := 60) rfl)) rfl)
theorem wL_ini10 : Cond.initialized RX10 ∈ pTb := (pwi (tk1 (List.mem_of_getElem? (i := 15) rfl)) rfl)
set_option maxHeartbeats 4000000 in
set_option maxRecDepth 100000 in
theorem lz_ctx {p : Program} {s : State} {m : MethodId} {meth : Method} {c : Code} {b L : Nat} {xs : Nat → Int32} (C0 : lw_At p s m meth c b L xs) : ∃ g : pg, g.2.2 3 0 = b ∧ pCtx p s m #[Value.ref b] c cL_law 7 RL g (fun q => s.heap.size ≤ q) := by
  obtain ⟨hx, hb, hr, hml, hown, hts, hX, hbl, hlocks, hgv⟩ := C0
  have hs : ∀ w ∈ lz_F, w.before #[Value.ref b] s = true := flat_of_before _ hgv
  have hA : ∀ a : Nat, a < s.heap.size → ¬ (fun q : Nat => s.heap.size ≤ q) a := fun a h => Nat.not_le.mpr h
  have hp : ∀ w ∈ pTb, w.before #[Value.ref b] s = true := fun w hw => hts w (List.mem_filter.mp hw).1
  obtain ⟨c0, j0, k0⟩ := u_known (C := RX0) (T := TX0) (N := 12) (n := 12) hp W_X0 (hp _ w_X0_ins)
  obtain ⟨c1, j1, k1⟩ := u_known (C := RX1) (T := TX1) (N := 8) (n := 8) hp W_X1 (hp _ w_X1_ins)
  obtain ⟨c2, j2, k2⟩ := u_known (C := RX2) (T := TX2) (N := 17) (n := 17) hp W_X2 (hp _ w_X2_ins)
  obtain ⟨c3, j3, k3⟩ := u_known (C := RX3) (T := TX3) (N := 9) (n := 9) hp W_X3 (hp _ w_X3_ins)
  obtain ⟨c4, j4, k4⟩ := u_known (C := RX4) (T := TX4) (N := 7) (n := 7) hp W_X4 (hp _ w_X4_ins)
  obtain ⟨c5, j5, k5⟩ := u_known (C := RX5) (T := TX5) (N := 6) (n := 6) hp W_X5 (hp _ w_X5_ins)
  obtain ⟨c6, j6, k6⟩ := u_known (C := RX6) (T := TX6) (N := 11) (n := 11) hp W_X6 (hp _ w_X6_ins)
  obtain ⟨c7, j7, k7⟩ := u_known (C := RX7) (T := TX7) (N := 12) (n := 12) hp W_X7 (hp _ w_X7_ins)
  obtain ⟨c8, j8, k8⟩ := u_known (C := RX8) (T := TX8) (N := 9) (n := 9) hp W_X8 (hp _ w_X8_ins)
  obtain ⟨c9, j9, k9⟩ := u_known (C := RX9) (T := TX9) (N := 11) (n := 11) hp W_X9 (hp _ wL_ins9)
  obtain ⟨c10, j10, k10⟩ := u_known (C := RX10) (T := TX10) (N := 73) (n := 73) hp W_X10 (hp _ wL_ins10)
  obtain ⟨a0, b0, f0⟩ := lz_arr (hp _ w_ai)
  obtain ⟨a1, b1, f1⟩ := lz_arr (hp _ w_al)
  obtain ⟨a2, b2, f2⟩ := lz_arr (hp _ w_ac)
  obtain ⟨a3, b3, f3⟩ := lz_arr (hp _ w_az)
  obtain ⟨adK, adV, hS, hE⟩ := lz_str (A := fun q : Nat => s.heap.size ≤ q) hs hA
  obtain ⟨t4, h4⟩ : ∃ t4 : Nat, va_Z "jdk/internal/util/Preconditions" "SIOOBE_FORMATTER" "Ljava/util/function/BiFunction;" .null (fun q : Nat => s.heap.size ≤ q) s s.heap ∨ va_Z "jdk/internal/util/Preconditions" "SIOOBE_FORMATTER" "Ljava/util/function/BiFunction;" (.ref t4) (fun q : Nat => s.heap.size ≤ q) s s.heap := by
    rcases va_Zqof (hts _ (tk2 (List.mem_of_getElem? (i := 80) rfl))) (hts _ (tk1 (List.mem_of_getElem? (i := 11) rfl))) (hs _ (List.mem_of_getElem? (i := 5) (by decide +kernel))) hA with h | ⟨t, h⟩
    · exact ⟨0, Or.inl h⟩
    · exact ⟨t, Or.inr h⟩
  have hcs : va_Z "java/lang/String" "COMPACT_STRINGS" "Z" (.int 1) (fun q : Nat => s.heap.size ≤ q) s s.heap := va_Zof (hts _ (tk2 (List.mem_of_getElem? (i := 64) rfl))) (hts _ (tk1 (List.mem_of_getElem? (i := 9) rfl))) (va_eqt (hs _ (List.mem_of_getElem? (i := 4) (by decide +kernel)))) hA
  have hu : vx_Zq Bundle.tN "UNASSIGNED_STACK" Bundle.steD (fun q : Nat => s.heap.size ≤ q) s s.heap := vx_Zqof (hts _ (tk5 (List.mem_of_getElem? (i := 105) rfl))) (hts _ (tk1 (List.mem_of_getElem? (i := 18) rfl))) (hs _ (List.mem_of_getElem? (i := 9) (by decide +kernel))) hA
  have hsu : vx_Zq Bundle.tN "SUPPRESSED_SENTINEL" Bundle.listD (fun q : Nat => s.heap.size ≤ q) s s.heap := vx_Zqof (hts _ (tk5 (List.mem_of_getElem? (i := 107) rfl))) (hts _ (tk1 (List.mem_of_getElem? (i := 18) rfl))) (hs _ (List.mem_of_getElem? (i := 10) (by decide +kernel))) hA
  refine ⟨((fun k => [c0, c1, c2, c3, c4, c5, c6, c7, c8, c9, c10].getD k c10, fun k => [j0, j1, j2, j3, j4, j5, j6, j7, j8, j9, j10].getD k j10), fun k => [a0, a1, a2, a3].getD k a3, fun k x => if k = 3 then b else if k = 4 then t4 else if k = 5 then adK x.toNat else adV x.toNat), rfl, hx, hb, hml, hown, hp, ⟨?_, ?_⟩, fun _ h => h, lz_nest hts, hS, ⟨?_, ?_, ?_⟩, hcs, h4, lz_txt hts hs, hu, hsu, lz_dec hts, va_Nw.of rfl (hts _ (tk5 (List.mem_of_getElem? (i := 80) rfl)))⟩
  · intro k q hq
    match k, hq with
    | 0, hq => cases hq; exact k0
    | 1, hq => cases hq; exact k1
    | 2, hq => cases hq; exact k2
    | 3, hq => cases hq; exact k3
    | 4, hq => cases hq; exact k4
    | 5, hq => cases hq; exact k5
    | 6, hq => cases hq; exact k6
    | 7, hq => cases hq; exact k7
    | 8, hq => cases hq; exact k8
    | 9, hq => cases hq; exact k9
    | 10, hq => cases hq; exact k10
    | k + 11, hq => simp [vwCl] at hq
  · intro k q hq
    match k, hq with
    | 0, hq => cases hq; exact ⟨b0, f0⟩
    | 1, hq => cases hq; exact ⟨b1, f1⟩
    | 2, hq => cases hq; exact ⟨b2, f2⟩
    | 3, hq => cases hq; exact ⟨b3, f3⟩
    | k + 4, hq => simp [pTys] at hq
  · exact vk_R.of (hts _ (tk2 (List.mem_of_getElem? (i := 51) rfl))) (hE 0 (by decide))
  · exact vk_R.of (hts _ (tk2 (List.mem_of_getElem? (i := 106) rfl))) (hE 1 (by decide))
  · exact vk_R.of (hts _ (tk3 (List.mem_of_getElem? (i := 183) rfl))) (hE 2 (by decide))
section PS
variable {p : Program} {l : Launch} {e : Env} {R : Room} {s : State} {m : MethodId} {args : Array Value} {below : List Frame} {meth : Method} {c : Code} {Q : State → Prop} {cc : ByteArray} {nL : Nat} {own : String} {g : pg} {A : Nat → Prop} {f : (Nat → Nat) × pW} {wE : pW} {k0 : Nat × Nat}
variable {pc : Nat} {L S : List pV} {T : List (Nat × Nat × Nat)} {σ : Sg}
theorem x_new (C : pCtx p s m args c cc nL own g A) {ci ix N n : Nat} {Cn : String} {Tt : u_T} (K : pCls ci Cn Tt N) (h1 : Cond.classLink own ix Cn ∈ pTb) (h2 : Cond.instantiable Cn N ∈ pTb) (h3 : Cond.initialized Cn ∈ pTb) (hT0 : ∀ j, j < N → defaultValue (tyOf ci j) = (if pF ci j = 0 then .int 0 else if pF ci j = 1 then .long 0 else .null)) (hR : wE.1.length - f.2.1.length + k0.1 ≤ R.cells ∧ nS wE - nS f.2 + k0.2 ≤ R.slots) (d : decode cc pc = .ok (.new ix, 3)) (hs : sh0[n]? = some (ci + 4, N)) (hl : Nat.ble n 123 = true) (hT : T.all (fun e => !(Nat.beq e.1 n)) = true) (hσ : ∀ i, σ n i = 0) (h : pX p l e R s m args below meth c Q g nL A f wE k0 (pc + 3) L ((n + 16, 0) :: S) (Wc (n + 1) T σ)) : pX p l e R s m args below meth c Q g nL A f wE k0 pc L S (Wc n T σ) := by
  refine s_new (Φ := Ev 0) (E := fun _ _ => False) C K h1 h2 h3 hT0 hR d ?_
  have e := Wc_n hs hl hT hσ
  have el := take_l hl
  show pX p l _ R s m args below meth c Q g nL A f wE k0 (pc + 3) L (((sh0.take n).length + 16, 0) :: S) (((sh0.take n) ++ [(ci + 4, N)], cl2 (lk T) (sh0.take n).length 2, cl2 σ (sh0.take n).length 0) : pW)
  rw [e, el]; exact h
theorem x_newl (C : pCtx p s m args c cc nL own g A) {N n : Nat} {x : Int} (hR : wE.1.length - f.2.1.length + k0.1 ≤ R.cells ∧ nS wE - nS f.2 + k0.2 ≤ R.slots) (d : decode cc pc = .ok (.newarray .long, 2)) (hx : x = (N : Int)) (hN : N < 1000000) (hs : sh0[n]? = some (1, N)) (hl : Nat.ble n 123 = true) (hT : T.all (fun e => !(Nat.beq e.1 n)) = true) (hσ : ∀ i, σ n i = 0) (h : pX p l e R s m args below meth c Q g nL A f wE k0 (pc + 2) L ((n + 16, 0) :: S) (Wc (n + 1) T σ)) : pX p l e R s m args below meth c Q g nL A f wE k0 pc L ((0, x) :: S) (Wc n T σ) := by
  subst hx
  refine s_newalong (Φ := Ev 0) (E := fun _ _ => False) C hR d ⟨N, S, rfl, hN, ?_⟩
  have e := Wc_n hs hl hT hσ
  have el := take_l hl
  show pX p l _ R s m args below meth c Q g nL A f wE k0 (pc + 2) L (((sh0.take n).length + 16, 0) :: S) (((sh0.take n) ++ [(1, N)], cl2 (lk T) (sh0.take n).length 2, cl2 σ (sh0.take n).length 0) : pW)
  rw [e, el]; exact h
end PS
section LS
variable {p : Program} {l : Launch} {e : Env} {s : State} {m : MethodId} {b N : Nat} {xs : Nat → Int32} {below : List Frame} {meth : Method} {c : Code} {g : pg} {k0 : Nat × Nat} {i : Int} {u v : pV} {S : List pV} {w : pW} {pc d : Nat}
set_option maxHeartbeats 4000000 in
set_option maxRecDepth 100000 in
theorem law_start (C : lwC p l s m b N xs meth c g) (hd : 60 ≤ d ∧ d ≤ 1000) : pL p l e s m b below meth c g (0, 0) 0 [(3, 0), (9, 0), (9, 0), (9, 0), (9, 0), (9, 0), (9, 0)] [] lz_w := by
  have hk : ((0, 0) : Nat × Nat).1 ≤ 600 ∧ ((0, 0) : Nat × Nat).2 ≤ 3600 := by decide
  obtain ⟨σ1, h1, hF, hw, h36, h57, h64⟩ := ct_X9_init (d + 1) (by omega) (fun _ _ => 0) (fun _ _ _ => rfl)
  have hz : ∀ (k : Nat) (i : Int), 71 ≤ k → σ1 k i = 0 := fun k i hk => hF k i (by simp; omega) (by simp; omega)
  have h2 := ct_X10_init_72 (d + 1) (by omega) σ1 (fun k i hk => hz k i (by omega))
  have hR := start_R hF hw h36 h57 h64
  show pL p l e s m b below meth c g (0, 0) 0 [(3, 0), (9, 0), (9, 0), (9, 0), (9, 0), (9, 0), (9, 0)] [] (Wc 0 [] (fun _ _ => 0))
  refine x_new C.1 K_X9 (pwi (tk1 (List.mem_of_getElem? (i := 22) rfl)) rfl) wL_ins9 wL_ini9 T_X9 (lz_R hk) (show decode cL_law 0 = .ok (.new 8, 3) by decide +kernel) rfl rfl rfl (fun _ => rfl) ?_
  refine s_dup (Φ := Ev 0) (E := fun _ _ => False) C.1 (show decode cL_law 3 = .ok (.dup, 1) by decide +kernel) ⟨(16, 0), [], rfl, by decide, ?_⟩
  refine s_invi (Φ := Ev (d + 1)) (E := fun _ _ => False) (y := yX9_init) (b := cX9_init) (maxL := 1) (fr := d + 1) (lo := 64 * (d + 1)) (n := 1) (n1 := 0) C.1 ((pAll (l := l) (g := g) (d + 1)).1 0 rfl (by decide) (by decide)) (lz_R hk) ⟨by show d + 1 + 1 ≤ 2048; omega, by show 8 + (1 + 11) + 64 * (d + 1) ≤ 84000; omega⟩ rfl rfl (pwi (tk1 (List.mem_of_getElem? (i := 26) rfl)) rfl) (pwi (tk1 (List.mem_of_getElem? (i := 24) rfl)) rfl) (pwi (tk1 (List.mem_of_getElem? (i := 25) rfl)) rfl) (pwi (tk1 (List.mem_of_getElem? (i := 1) rfl)) rfl) ⟨by decide, by decide, by decide +kernel⟩ (show decode cL_law 4 = .ok (.invokespecial 31, 3) by decide +kernel) ⟨(8, 0), _, 0, 0, [], by simp, by simp [cat], rfl, h1, by simp, ?_⟩
  refine s_astore_n (Φ := Ev 0) (E := fun _ _ => False) C.1 (show decode cL_law 7 = .ok (.astore_n 1, 1) by decide +kernel) rfl ⟨16, 0, [], rfl, by decide, by decide, by simp [setL_len], ?_⟩
  refine x_new C.1 K_X10 (pwi (tk6 (List.mem_of_getElem? (i := 62) rfl)) rfl) wL_ins10 wL_ini10 T_X10 (lz_R hk) (show decode cL_law 8 = .ok (.new 32, 3) by decide +kernel) rfl rfl rfl (fun i => hz 71 i (by omega)) ?_
  refine s_dup (Φ := Ev 0) (E := fun _ _ => False) C.1 (show decode cL_law 11 = .ok (.dup, 1) by decide +kernel) ⟨(87, 0), [], rfl, by decide, ?_⟩
  refine s_invi (Φ := Ev (d + 1)) (E := fun _ _ => False) (y := yX10_init) (b := cX10_init) (maxL := 1) (fr := d + 1) (lo := 64 * (d + 1)) (n := 1) (n1 := 0) C.1 ((pAll (l := l) (g := g) (d + 1)).1 34 rfl (by decide) (by decide)) (lz_R hk) ⟨by show d + 1 + 1 ≤ 2048; omega, by show 8 + (1 + 11) + 64 * (d + 1) ≤ 84000; omega⟩ rfl rfl (pwi (tk6 (List.mem_of_getElem? (i := 65) rfl)) rfl) (pwi (tk6 (List.mem_of_getElem? (i := 63) rfl)) rfl) (pwi (tk6 (List.mem_of_getElem? (i := 64) rfl)) rfl) (pwi (tk1 (List.mem_of_getElem? (i := 15) rfl)) rfl) ⟨by decide, by decide, by decide +kernel⟩ (show decode cL_law 12 = .ok (.invokespecial 34, 3) by decide +kernel) ⟨(8, 0), _, 71, 0, [], by simp, by simp [cat], rfl, h2, by simp, ?_⟩
  refine s_astore_n (Φ := Ev 0) (E := fun _ _ => False) C.1 (show decode cL_law 15 = .ok (.astore_n 2, 1) by decide +kernel) rfl ⟨87, 0, [], rfl, by decide, by decide, by simp [setL_len], ?_⟩
  refine s_iconst (Φ := Ev 0) (E := fun _ _ => False) C.1 (show decode cL_law 16 = .ok (.iconst 1, 1) by decide +kernel) (by unfold r32; omega) ?_
  refine x_newl C.1 (N := 1) (n := 122) (lz_R hk) (show decode cL_law 17 = .ok (.newarray .long, 2) by decide +kernel) rfl (by decide) rfl rfl rfl (fun i => hz 122 i (by omega)) ?_
  refine s_astore_n (Φ := Ev 0) (E := fun _ _ => False) C.1 (show decode cL_law 19 = .ok (.astore_n 3, 1) by decide +kernel) rfl ⟨138, 0, [], rfl, by decide, by decide, by simp only [setL_len]; decide, ?_⟩
  refine s_iconst (Φ := Ev 0) (E := fun _ _ => False) C.1 (show decode cL_law 20 = .ok (.iconst 0, 1) by decide +kernel) (by unfold r32; omega) ?_
  refine s_istore (Φ := Ev 0) (E := fun _ _ => False) C.1 (show decode cL_law 21 = .ok (.istore 4, 2) by decide +kernel) ⟨0, [], rfl, by simp [setL_len], ?_⟩
  have hl := law_loop (e := e) (below := below) C hd (N + 1) 0 (0, 0) 53 60 2 _ 0 0 (9, 0) (9, 0) (by omega) (by omega) (by omega) (by decide) (by decide) hR
  rw [← W_fin] at hl
  exact hl
end LS
theorem lz_ok : pOkW lz_w := by
  intro k j
  have e : pkd lz_w k j = 2 := by simp [pkd, lz_w]
  rw [e]
  exact ⟨fun h => absurd h (by decide), fun h => absurd h (by decide), Nat.le_refl 2, fun h => absurd h (by show ¬ (16 ≤ 2); decide)⟩
set_option maxHeartbeats 1000000 in
/-- from the entry, for every script of at most 3584 ints, the law comes to its end with true -/
theorem whole_start {p : Program} {e : Env} {s : State} {m : MethodId} {below : List Frame} {meth : Method} {c : Code} (l : Launch) (hst : l.stackTraces = false) {b L : Nat} {xs : Nat → Int32} (hL : L ≤ 3584) (C0 : lw_At p s m meth c b L xs) : W p l e room_1 s m #[Value.ref b] below meth c s.heap [] 0 0 (lw_Z below #[Value.ref b] s) (entryFrame m ([Value.ref b] : List Value).toArray 7) := by
  obtain ⟨g, hz, C⟩ := lz_ctx C0
  obtain ⟨hx, hb, hr, hml, hown, hts, hX, hbl, hlocks, hgv⟩ := C0
  have K := law_start (d := 100) (e := e) (below := below) (l := l) (N := L) (xs := xs) (meth := meth) ⟨C, hX, hbl, hz, hL, hst, hr, hlocks⟩ (by decide)
  have hlen : (([(3, 0)] : List pV).flatMap (fun v => if v.1 = 1 then [v, ((9, 0) : pV)] else [v])).length ≤ 7 := by decide
  have k := K.2 (fun _ => 0) s.heap [] ((lg_sl (([(3, 0)] : List pV).map (cV (fun _ => 0) g.2.2)) ++ List.replicate (7 - (lg_sl (([(3, 0)] : List pV).map (cV (fun _ => 0) g.2.2))).length) Slot.unset).toArray) ⟨fun k hk => absurd hk (Nat.not_lt_zero k), ⟨Nat.le_refl _, Nat.le_refl _⟩, lz_ok, ent_ok (n := 7) (as := [(3, 0)]) (fun v hv => by
    rw [List.mem_singleton.mp hv]; exact ⟨fun h => absurd h (by decide), fun h => absurd h (by decide), fun h => absurd h (by decide)⟩), fun v hv => absurd hv List.not_mem_nil, rfl, ent_lvL (n := 7) (as := [(3, 0)]) hlen, fun k q h => by simp [pWs, lz_w] at h, ⟨fun i j p q h => by simp [pWs, lz_w] at h, fun k q h => by simp [pWs, lz_w] at h⟩, va_S.rf⟩
  have e3 : ([(3, 0)] : List pV).map (cV (fun _ => 0) g.2.2) = [Value.ref b] := by
    show [Value.ref (g.2.2 3 0)] = _; rw [hz]
  rw [e3] at k
  rw [lg_entry_eq]
  exact k

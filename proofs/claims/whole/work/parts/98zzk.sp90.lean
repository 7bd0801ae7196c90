theorem evR {d μ nL : Nat} {code : Nat → Option pT} {as : List pV} {xs : List (Nat × Nat)} {t dd rr t2 dd2 rr2 : Nat} {σ : Sg} {res : pV} {Post : Sg → Prop} (hP : pP μ = (nL, code)) (hdt : DetC code) (hf : Nat.ble (as.flatMap (fun v => if v.1 = 1 then [v, ((9, 0) : pV)] else [v])).length nL = true)
    (h : ∀ E : pE, (∀ r1 σ', r1 = res → Post σ' → E r1 (Wd xs t2 dd2 rr2 σ')) → pCm (Ev d) code E 0 (pEnt nL as) [] (Wd xs t dd rr σ)) : ∃ σ', Ev (d + 1) μ as (Wd xs t dd rr σ) res (Wd xs t2 dd2 rr2 σ') ∧ Post σ' := by
  obtain ⟨r, w', ⟨σ', e1, e2, hp⟩, k⟩ := cm_ex hdt (h (fun r1 w1 => ∃ σ', r1 = res ∧ w1 = Wd xs t2 dd2 rr2 σ' ∧ Post σ') (fun r1 σ' e hp => ⟨σ', e, rfl, hp⟩))
  subst e1; subst e2
  exact ⟨σ', ev_in ⟨Nat.le_refl _, Nat.le_refl _⟩ (by rw [hP]; exact hf) (by rw [hP]; exact k), hp⟩
theorem rf0_r {a b r v : Nat} : up2 (rf0 a b r) 52 2 v = rf0 a b v := by
  funext k f
  by_cases hk : k = 52
  · subst hk
    by_cases h3 : f = 2
    · subst h3; rfl
    · have e3 : Nat.beq f 2 = false := bq h3
      simp only [up2, h3, and_false, if_false]
      show rf0 a b r 52 f = rf0 a b v 52 f
      simp only [rf0, e3]
      rfl
  · have e : Nat.beq k 52 = false := bq hk
    simp only [up2, hk, false_and, if_false]
    simp only [rf0, e, cond_false]
theorem pShr8 {a : Int} (h : -2147483648 ≤ a ∧ a < 2147483648) : pShr a 8 = a / 256 := by
  unfold pShr
  have e := shr12 (a := i32 a) (b := 8) (by omega)
  have e : (i32 a >>> (i32 8 &&& 31)).toBitVec = (i32 a).toBitVec.sshiftRight 8 := e
  rw [← Int32.toInt_toBitVec, e, BitVec.toInt_sshiftRight, Int32.toInt_toBitVec, i32_toInt h, Int.shiftRight_eq_div_pow]
  rfl
/-- what read leaves in the class -/
def RdP (σ σ' : Sg) (B : Nat) (m : Int) (X : TXs) : Prop := Fr [B + 1, B + 2, B + 3, B + 4, 56] [(52, 0), (52, 3), (52, 4), (52, 5), (52, 6), (52, 7), (52, 8), (B, 0), (B, 1), (B, 2)] σ σ' ∧ σ' 52 0 = 0 ∧ σ' (B + 3) 0 = 0 ∧ (X.2.1 = 0 → OKx m X ∧ CT σ' B X.2.2.1 X.2.2.2.2.2.1 X.2.2.2.2.2.2.1 X.2.2.2.2.2.2.2.1 X.2.2.2.2.2.2.2.2.1 X.2.2.2.2.2.2.2.2.2 ∧ σ' B 1 = X.2.2.2.1)
theorem CT_of {s : Sg} {B : Nat} {c wd : Int → Int} {n m : Int} {x : TXs} (hm : m ≤ 1000) (hO : OKx m x) (h : KTg s B c wd n m x) : CT s B x.2.2.1 x.2.2.2.2.2.1 x.2.2.2.2.2.2.1 x.2.2.2.2.2.2.2.1 x.2.2.2.2.2.2.2.2.1 x.2.2.2.2.2.2.2.2.2 := by
  obtain ⟨-, ⟨g5, g6, g7, g8⟩, -, -, gl⟩ := h
  have hi := hO.1
  refine ⟨g5, fun l l0 l1 => ?_⟩
  obtain ⟨a1, a2, a3, a4, a5, a6⟩ := gl l l0 l1
  refine ⟨a1, a2, a3, ⟨a4, by omega⟩, fun q q0 q1 => ?_⟩
  obtain ⟨b1, b2, b3⟩ := a6 q q0 q1
  rw [b1, pAnd255, pShr8 (by omega)]
  constructor <;> omega
set_option maxRecDepth 20000 in
set_option maxHeartbeats 2000000 in
theorem sp_X7_read_37 (d : Nat) (hd : 48 ≤ d) (xs : List (Nat × Nat)) (t dd rr : Nat) (σ : Sg) (wd : Int → Int) (n m : Int) (h0 : σ 52 0 = n) (hn : 0 ≤ n ∧ n ≤ 1000) (hNT : NT (σ 53) n m) (hch : ∀ i, 0 ≤ i → i < n → 0 ≤ σ 53 i ∧ σ 53 i ≤ 127) (h54 : ∀ w, 0 ≤ w → w < 8 → σ 54 w = wvl 32 (wdg w) (wln w)) (h55 : ∀ w, 0 ≤ w → w < 12 → σ 55 w = wvl 32 (wdg (8 + w)) (wln (8 + w))) (h76 : ∀ w, 0 ≤ w → w < 20 → wd w = wvl 37 (wdg w) (wln w)) (hz : σ 40 0 = 0)  : ∃ σ', Ev d 217 [(68, 0), (53, 0)] (Wd xs t dd rr σ) (0, (txR (σ 53) wd n m 1001 x0).2.1) (Wd xs t dd 53 σ') ∧ RdP σ σ' 37 m (txR (σ 53) wd n m 1001 x0) := by
  obtain ⟨d, rfl⟩ : ∃ e, d = e + 1 := ⟨d - 1, by omega⟩
  refine evR (nL := 3) (code := k_X7_read) rfl dc_X7_read rfl (fun E hE => ?_)
  show pCm (Ev d) k_X7_read E 0 [(68, 0), (53, 0), (9, 0)] [] _
  refine R_aload rfl rfl rfl ?_
  refine R_aload rfl rfl rfl ?_
  refine T_putr rfl rfl rfl ?_
  have ew : ((sh0 ++ xs, up2 (rf0 t dd rr) 52 2 53, σ) : pW) = Wd xs t dd 53 σ := by rw [rf0_r]
  rw [ew]
  refine R_aload rfl rfl rfl ?_
  refine T_getr (v := 53) rfl rfl rfl rfl ?_
  refine R_invv rfl rfl rfl rfl rfl rfl (sp_X8_clear_37 d (by omega) xs t dd 53 σ) rfl ?_
  show pCm _ _ _ 12 _ [] _
  refine R_aload rfl rfl rfl ?_
  refine R_push rfl ?_
  refine T_puti rfl rfl rfl ?_
  refine R_aload rfl rfl rfl ?_
  refine R_push rfl ?_
  refine T_puti rfl rfl rfl ?_
  refine R_aload rfl rfl rfl ?_
  generalize hs0 : up2 (up2 (up2 (up2 (up2 σ 37 0 0) 37 1 0) 37 2 0) 52 3 0) 52 6 0 = s0
  have F0 : Fr [] [(37, 0), (37, 1), (37, 2), (52, 3), (52, 6)] σ s0 := by rw [← hs0]; exact ((((Fr.rf.up rfl).up rfl).up rfl).up rfl).up rfl
  have z0 : s0 37 0 = 0 := by rw [← hs0]; simp [up2]
  have z1 : s0 37 1 = 0 := by rw [← hs0]; simp [up2]
  have z2 : s0 37 2 = 0 := by rw [← hs0]; simp [up2]
  have z3 : s0 52 3 = 0 := by rw [← hs0]; simp [up2]
  have z6 : s0 52 6 = 0 := by rw [← hs0]; simp [up2]
  have q53 : s0 53 = σ 53 := F0.fn 53 rfl
  have q52 : s0 52 0 = n := by rw [F0.at 52 0 rfl]; exact h0
  have hm := hNT.1
  have hA0 : ACx s0 37 (σ 53) wd n m 0 (fun _ => 0) := ⟨⟨q53, q52⟩, hNT, hn.2, hch, by rw [F0.fn 54 rfl]; exact h54, by rw [F0.fn 55 rfl]; exact h55, h76, z1, ⟨by omega, by omega⟩, fun k k0 k1 => by omega, fun a b a0 ab b1 => by omega⟩
  obtain ⟨s1, hev1, hP1⟩ := sp_X7_advance_37 d (by omega) xs t dd 53 s0 n 0 0 rfl q52 hn z1 ⟨by omega, by omega⟩ z6 ⟨by omega, hn.1⟩ (by rw [q53]; exact hch)
  have hp0 : skp (s0 53) n 0 = plT (σ 53) n m 0 := by
    rw [q53]
    show plz (σ 53) n 0 = _
    unfold plT
    by_cases w : 0 < m
    · rw [if_pos ⟨by omega, w⟩]
    · rw [if_neg (by omega)]
      have := hNT.2.1
      rw [show m = 0 by omega] at this
      exact this
  rw [hp0] at hP1
  obtain ⟨t4, t7, t6⟩ := tok_T hA0 (j := 0) (by omega) (by omega) hP1
  obtain ⟨f1, f5, -, -⟩ := hP1
  have hK0 : KT s0 s1 37 (σ 53) wd n m x0 := by
    refine ⟨Fr.tr f1 (Fr.rf (rows := []) (sl := [])) rfl rfl, by rw [f1.at 52 3 rfl]; exact z3, ?_, fun _ => ⟨⟨t4, f5, fun w => ?_, fun w => (t6 w).1⟩, ⟨?_, ?_, ?_, ?_⟩, ?_, ?_, ?_⟩⟩
    · show s1 40 0 = 0
      rw [f1.row 40 rfl, F0.row 40 rfl]; exact hz
    · have w : nwT (σ 53) wd n m 0 ≠ 1 := w
      rw [t7]; unfold twN; rw [if_neg w]; rfl
    · rw [f1.at 37 0 rfl]; exact z0
    · rw [f1.at 37 1 rfl]; exact z1
    · rw [f1.at 37 2 rfl, z2]; omega
    · rw [f1.at 37 2 rfl, z2]; exact Int.le_refl _
    · exact fun k k0 k1 => absurd k1 (by show ¬ k < 0; omega)
    · show s1 40 0 = s1 37 2
      rw [f1.row 40 rfl, F0.row 40 rfl, hz, f1.at 37 2 rfl, z2]
    · exact fun k k0 k1 => absurd k1 (by show ¬ k < 0; omega)
  refine R_invv rfl rfl rfl rfl rfl rfl (hev1) rfl ?_
  show pCm _ _ _ 26 _ [] _
  refine R_push rfl ?_
  refine R_istore rfl rfl ?_
  show pCm _ _ _ _ [_, _, _] _ _
  refine loop (pc := 28) (α := Int × TXs × Nat × Sg) (fun a => a.2.2.1) (fun a => ([(68, 0), (53, 0), (0, a.1)], Wd xs t dd 53 a.2.2.2)) (fun a => (0 ≤ a.1 ∧ a.1 ≤ 25) ∧ KT s0 a.2.2.2 37 (σ 53) wd n m a.2.1 ∧ (a.2.1.2.1 = 0 → OKx m a.2.1 ∧ m - a.2.1.1 + 1 ≤ (a.2.2.1 : Int) ∧ a.1 = a.2.1.2.2.1) ∧ txR (σ 53) wd n m a.2.2.1 a.2.1 = txR (σ 53) wd n m 1001 x0) ?_ (0, x0, 1001, s1) ?_
  · intro ⟨ln, x, k, s⟩ ⟨hln, hK, hO, hX⟩ ih
    dsimp only at hln hK hO hX ⊢
    obtain ⟨kf, k3, kz, kg⟩ := id hK
    refine R_iload rfl rfl ?_
    refine R_push rfl ?_
    refine R_ic rfl (fun h31 => ?_) (fun h31 => ?_)
    · try simp only [ne_eq, b2i_e, b2i_1, Classical.not_not] at h31
      refine R_aload rfl rfl rfl ?_
      refine R_push rfl ?_
      refine T_puti rfl rfl rfl ?_
      refine R_aload rfl rfl rfl ?_
      refine T_geti rfl rfl rfl ?_
      refine R_iret rfl ?_
      have hex : ¬ (x.2.1 = 0 ∧ tkT (σ 53) wd n m x.1 ≠ 0) := fun w => by
        have g1 := (kg w.1).1.1
        have o4 := (hO w.1).2.2
        have o5 := (hO w.1).1.2.1.1
        have w2 := w.2
        rw [← g1] at w2
        first | omega | exact w2 (by assumption)
      have hX : x = txR (σ 53) wd n m 1001 x0 := by rw [← hX]; exact (txl_e hex).symm
      refine hE _ _ ?_ ?_
      · first | (rw [← hX]; congr 1; done) | (rw [← hX]; congr 1; simp [up2]; exact k3)
      rw [← hX]
      refine ⟨(Fr.tr (r3 := [38, 39, 40, 41, 56]) (s3 := [(52, 0), (52, 3), (52, 4), (52, 5), (52, 6), (52, 7), (52, 8), (37, 0), (37, 1), (37, 2)]) F0 kf rfl rfl).up rfl, up_s, ?_, fun w => ?_⟩
      · show up2 s 52 0 0 40 0 = 0
        rw [up_k (by decide)]; exact kz
      · refine ⟨(hO w).1, ?_, by rw [up_k (by decide)]; exact (kg w).2.1.2.1⟩
        have hct := CT_of (by omega) (hO w).1 (kg w)
        unfold CT at hct ⊢
        rw [up_rowo (show (37 : Nat) ≠ 52 by decide), up_rowo (show (37 + 1 : Nat) ≠ 52 by decide), up_rowo (show (37 + 2 : Nat) ≠ 52 by decide), up_rowo (show (37 + 3 : Nat) ≠ 52 by decide), up_rowo (show (37 + 4 : Nat) ≠ 52 by decide)]
        exact hct
    · try simp only [ne_eq, b2i_e, b2i_1, Classical.not_not] at h31
      refine R_aload rfl rfl rfl ?_
      refine T_geti rfl rfl rfl ?_
      refine R_if rfl (fun h38 => ?_) (fun h38 => ?_)
      · try simp only [ne_eq, b2i_e, b2i_1, Classical.not_not] at h38
        refine R_aload rfl rfl rfl ?_
        refine R_push rfl ?_
        refine T_puti rfl rfl rfl ?_
        refine R_aload rfl rfl rfl ?_
        refine T_geti rfl rfl rfl ?_
        refine R_iret rfl ?_
        have hex : ¬ (x.2.1 = 0 ∧ tkT (σ 53) wd n m x.1 ≠ 0) := fun w => by
          have g1 := (kg w.1).1.1
          have o4 := (hO w.1).2.2
          have o5 := (hO w.1).1.2.1.1
          have w2 := w.2
          rw [← g1] at w2
          first | omega | exact w2 (by assumption)
        have hX : x = txR (σ 53) wd n m 1001 x0 := by rw [← hX]; exact (txl_e hex).symm
        refine hE _ _ ?_ ?_
        · first | (rw [← hX]; congr 1; done) | (rw [← hX]; congr 1; simp [up2]; exact k3)
        rw [← hX]
        refine ⟨(Fr.tr (r3 := [38, 39, 40, 41, 56]) (s3 := [(52, 0), (52, 3), (52, 4), (52, 5), (52, 6), (52, 7), (52, 8), (37, 0), (37, 1), (37, 2)]) F0 kf rfl rfl).up rfl, up_s, ?_, fun w => ?_⟩
        · show up2 s 52 0 0 40 0 = 0
          rw [up_k (by decide)]; exact kz
        · refine ⟨(hO w).1, ?_, by rw [up_k (by decide)]; exact (kg w).2.1.2.1⟩
          have hct := CT_of (by omega) (hO w).1 (kg w)
          unfold CT at hct ⊢
          rw [up_rowo (show (37 : Nat) ≠ 52 by decide), up_rowo (show (37 + 1 : Nat) ≠ 52 by decide), up_rowo (show (37 + 2 : Nat) ≠ 52 by decide), up_rowo (show (37 + 3 : Nat) ≠ 52 by decide), up_rowo (show (37 + 4 : Nat) ≠ 52 by decide)]
          exact hct
      · try simp only [ne_eq, b2i_e, b2i_1, Classical.not_not] at h38
        refine R_aload rfl rfl rfl ?_
        refine T_geti rfl rfl rfl ?_
        refine R_if rfl (fun h45 => ?_) (fun h45 => ?_)
        · try simp only [ne_eq, b2i_e, b2i_1, Classical.not_not] at h45
          refine R_aload rfl rfl rfl ?_
          refine R_push rfl ?_
          refine T_puti rfl rfl rfl ?_
          refine R_aload rfl rfl rfl ?_
          refine T_geti rfl rfl rfl ?_
          refine R_iret rfl ?_
          have hex : ¬ (x.2.1 = 0 ∧ tkT (σ 53) wd n m x.1 ≠ 0) := fun w => by
            have g1 := (kg w.1).1.1
            have o4 := (hO w.1).2.2
            have o5 := (hO w.1).1.2.1.1
            have w2 := w.2
            rw [← g1] at w2
            first | omega | exact w2 (by assumption)
          have hX : x = txR (σ 53) wd n m 1001 x0 := by rw [← hX]; exact (txl_e hex).symm
          refine hE _ _ ?_ ?_
          · first | (rw [← hX]; congr 1; done) | (rw [← hX]; congr 1; simp [up2]; exact k3)
          rw [← hX]
          refine ⟨(Fr.tr (r3 := [38, 39, 40, 41, 56]) (s3 := [(52, 0), (52, 3), (52, 4), (52, 5), (52, 6), (52, 7), (52, 8), (37, 0), (37, 1), (37, 2)]) F0 kf rfl rfl).up rfl, up_s, ?_, fun w => ?_⟩
          · show up2 s 52 0 0 40 0 = 0
            rw [up_k (by decide)]; exact kz
          · refine ⟨(hO w).1, ?_, by rw [up_k (by decide)]; exact (kg w).2.1.2.1⟩
            have hct := CT_of (by omega) (hO w).1 (kg w)
            unfold CT at hct ⊢
            rw [up_rowo (show (37 : Nat) ≠ 52 by decide), up_rowo (show (37 + 1 : Nat) ≠ 52 by decide), up_rowo (show (37 + 2 : Nat) ≠ 52 by decide), up_rowo (show (37 + 3 : Nat) ≠ 52 by decide), up_rowo (show (37 + 4 : Nat) ≠ 52 by decide)]
            exact hct
        · try simp only [ne_eq, b2i_e, b2i_1, Classical.not_not] at h45
          refine R_aload rfl rfl rfl ?_
          have x8 : x.2.1 = 0 := by omega
          have hg := kg x8
          obtain ⟨⟨g1, g2, g3, g4⟩, ⟨g5, g6, g7, g8⟩, g9, g11, gl⟩ := id hg
          have htk : tkT (σ 53) wd n m x.1 ≠ 0 := by rw [← g1]; omega
          have hOk := hO x8
          have hxm := hOk.1.1
          have hWT := hOk.1.2.1
          have hM8 : 0 ≤ x.2.2.2.1 ∧ x.2.2.2.1 ≤ 8 := by
            rw [hOk.1.2.2.1]
            exact ⟨(sumZ_bd (c := 1) hWT.1.1 (fun _ _ _ => b2i_bd)).1, hWT.2.1⟩
          have hnd := hOk.1.2.2.2.2
          have s53 : s 53 = σ 53 := by rw [kf.fn 53 rfl]; exact q53
          have s52 : s 52 0 = n := by rw [kf.at 52 0 rfl]; exact q52
          have hAs : ∀ u, ACx (up2 s 56 (s 37 1) u) 37 (σ 53) wd n m x.2.2.2.1 x.2.2.2.2.1 := fun u => by
            refine ⟨⟨by rw [up_rowo (by decide)]; exact s53, by rw [up_k (by decide)]; exact s52⟩, hNT, hn.2, hch, ?_, ?_, h76, by rw [up_k (by decide)]; exact g6, hM8, fun k k0 k1 => ?_, hnd⟩
            · rw [up_rowo (by decide), kf.fn 54 rfl, F0.fn 54 rfl]; exact h54
            · rw [up_rowo (by decide), kf.fn 55 rfl, F0.fn 55 rfl]; exact h55
            · rw [g6, up_i (by omega)]; exact g9 k k0 k1
          have hpb := plT_b (c := σ 53) (n := n) (m := m) (j := x.1) hNT hxm.1 hxm.2
          have hCs : 128 ≤ tkT (σ 53) wd n m x.1 → tkT (σ 53) wd n m x.1 ≤ 131 → CSx s s (tkT (σ 53) wd n m) (twX (nwT (σ 53) wd n m) (t0T (σ 53) wd n m) (vaT (σ 53) n m) x) (plT (σ 53) n m) 37 m (s 37 2) (S0x x.1) := fun w1 w2 => by
            have hnw : nwT (σ 53) wd n m x.1 ≠ 1 := fun w => by
              have := ((TP_t (wd := wd) hNT).2 x.1).2.1.mpr w
              have w1 : 128 ≤ tkF (soT (σ 53) n m) (vaT (σ 53) n m) wd x.1 := w1
              omega
            refine ⟨Fr.rf, by rw [k3]; exact x8, hxm, by rw [g2]; omega, ⟨fun _ _ => rfl, fun _ w => ⟨by rw [s53, s52]; exact g4 w, fun w3 => ?_⟩⟩, fun _ => ⟨g1, ?_, g2, by show s 37 2 = s 37 2 + 0; omega, Int.le_refl _, fun q q0 q1 => absurd q1 (by show ¬ q < 0; omega)⟩⟩
            · have w3 : tkT (σ 53) wd n m x.1 = 3 := w3
              omega
            · rw [g3 hnw]
              show _ = twN _ _ _ x.2.2.2.2.1 x.2.2.2.1 x.1
              unfold twN
              rw [if_neg hnw]
          obtain ⟨s2, hev2, hl1, hl2⟩ := sp_X7_readLine_37 d (by omega) xs t dd 53 s m (s 37 2) x.1 6 (by omega) rfl (tkT (σ 53) wd n m) (twX (nwT (σ 53) wd n m) (t0T (σ 53) wd n m) (vaT (σ 53) n m) x) (plT (σ 53) n m) (CTk_T hNT hn.2 hM8) hxm (by rw [g6]; exact hM8) (by rw [g5]; exact hWT.1) (fun u => ADV_T_37 (hAs u)) ⟨g7, g8⟩ g1 g2 (by omega) hCs
          have hK2 := KT_st_37 (wd := wd) hNT q53 q52 hK x8 hOk.1 hl1 hl2
          refine R_invv rfl rfl rfl rfl rfl rfl (hev2) rfl ?_
          show pCm _ _ _ 52 _ [] _
          refine R_inc rfl rfl (by omega) (by omega) ?_
          show pCm _ _ _ _ [_, _, _] _ _
          refine R_goto rfl ?_
          obtain ⟨k, rfl⟩ : ∃ e, k = e + 1 := ⟨k - 1, by omega⟩
          refine ih (ln + 1, txT (σ 53) wd n m x, k, s2) ⟨by dsimp only; omega, hK2, fun zl => ?_, ?_⟩ (by dsimp only; omega)
          · have zl : (txT (σ 53) wd n m x).2.1 = 0 := zl
            have zx : (lnT (σ 53) wd n m x).2.1 = 0 := by
              by_cases w : (lnT (σ 53) wd n m x).2.1 = 0
              · exact w
              · exfalso
                have e : txT (σ 53) wd n m x = (x.1, (lnT (σ 53) wd n m x).2.1, x.2.2) := by
                  show txS _ _ _ _ _ x = _
                  unfold txS
                  rw [if_neg w]
                rw [e] at zl
                exact w zl
            obtain ⟨o1, o2, -⟩ := tx_ok (wv := vaT (σ 53) n m) (TP_t hNT) hOk.1 zx
            have o2 : x.1 < (txT (σ 53) wd n m x).1 := o2
            have o3 : m - x.1 + 1 ≤ ((k + 1 : Nat) : Int) := hOk.2.1
            have o4 : (txT (σ 53) wd n m x).2.2.1 = x.2.2.1 + 1 := by
              show (txS _ _ _ _ _ x).2.2.1 = _
              unfold txS
              rw [if_pos zx]
            refine ⟨o1, ?_, ?_⟩
            · show m - (txT (σ 53) wd n m x).1 + 1 ≤ (k : Int)
              omega
            · show ln + 1 = (txT (σ 53) wd n m x).2.2.1
              rw [o4, hOk.2.2]
          · rw [← hX]; exact (txl_s ⟨x8, htk⟩).symm
  · exact ⟨⟨by dsimp only; omega, by dsimp only; omega⟩, hK0, fun _ => ⟨x0_ok hm.1, by show m - 0 + 1 ≤ 1001; omega, rfl⟩, rfl⟩
set_option maxRecDepth 20000 in
set_option maxHeartbeats 2000000 in
theorem sp_X7_read_44 (d : Nat) (hd : 48 ≤ d) (xs : List (Nat × Nat)) (t dd rr : Nat) (σ : Sg) (wd : Int → Int) (n m : Int) (h0 : σ 52 0 = n) (hn : 0 ≤ n ∧ n ≤ 1000) (hNT : NT (σ 53) n m) (hch : ∀ i, 0 ≤ i → i < n → 0 ≤ σ 53 i ∧ σ 53 i ≤ 127) (h54 : ∀ w, 0 ≤ w → w < 8 → σ 54 w = wvl 32 (wdg w) (wln w)) (h55 : ∀ w, 0 ≤ w → w < 12 → σ 55 w = wvl 32 (wdg (8 + w)) (wln (8 + w))) (h76 : ∀ w, 0 ≤ w → w < 20 → wd w = wvl 37 (wdg w) (wln w)) (hz : σ 47 0 = 0)  : ∃ σ', Ev d 217 [(68, 0), (60, 0)] (Wd xs t dd rr σ) (0, (txR (σ 53) wd n m 1001 x0).2.1) (Wd xs t dd 60 σ') ∧ RdP σ σ' 44 m (txR (σ 53) wd n m 1001 x0) := by
  obtain ⟨d, rfl⟩ : ∃ e, d = e + 1 := ⟨d - 1, by omega⟩
  refine evR (nL := 3) (code := k_X7_read) rfl dc_X7_read rfl (fun E hE => ?_)
  show pCm (Ev d) k_X7_read E 0 [(68, 0), (60, 0), (9, 0)] [] _
  refine R_aload rfl rfl rfl ?_
  refine R_aload rfl rfl rfl ?_
  refine T_putr rfl rfl rfl ?_
  have ew : ((sh0 ++ xs, up2 (rf0 t dd rr) 52 2 60, σ) : pW) = Wd xs t dd 60 σ := by rw [rf0_r]
  rw [ew]
  refine R_aload rfl rfl rfl ?_
  refine T_getr (v := 60) rfl rfl rfl rfl ?_
  refine R_invv rfl rfl rfl rfl rfl rfl (sp_X8_clear_44 d (by omega) xs t dd 60 σ) rfl ?_
  show pCm _ _ _ 12 _ [] _
  refine R_aload rfl rfl rfl ?_
  refine R_push rfl ?_
  refine T_puti rfl rfl rfl ?_
  refine R_aload rfl rfl rfl ?_
  refine R_push rfl ?_
  refine T_puti rfl rfl rfl ?_
  refine R_aload rfl rfl rfl ?_
  generalize hs0 : up2 (up2 (up2 (up2 (up2 σ 44 0 0) 44 1 0) 44 2 0) 52 3 0) 52 6 0 = s0
  have F0 : Fr [] [(44, 0), (44, 1), (44, 2), (52, 3), (52, 6)] σ s0 := by rw [← hs0]; exact ((((Fr.rf.up rfl).up rfl).up rfl).up rfl).up rfl
  have z0 : s0 44 0 = 0 := by rw [← hs0]; simp [up2]
  have z1 : s0 44 1 = 0 := by rw [← hs0]; simp [up2]
  have z2 : s0 44 2 = 0 := by rw [← hs0]; simp [up2]
  have z3 : s0 52 3 = 0 := by rw [← hs0]; simp [up2]
  have z6 : s0 52 6 = 0 := by rw [← hs0]; simp [up2]
  have q53 : s0 53 = σ 53 := F0.fn 53 rfl
  have q52 : s0 52 0 = n := by rw [F0.at 52 0 rfl]; exact h0
  have hm := hNT.1
  have hA0 : ACx s0 44 (σ 53) wd n m 0 (fun _ => 0) := ⟨⟨q53, q52⟩, hNT, hn.2, hch, by rw [F0.fn 54 rfl]; exact h54, by rw [F0.fn 55 rfl]; exact h55, h76, z1, ⟨by omega, by omega⟩, fun k k0 k1 => by omega, fun a b a0 ab b1 => by omega⟩
  obtain ⟨s1, hev1, hP1⟩ := sp_X7_advance_44 d (by omega) xs t dd 60 s0 n 0 0 rfl q52 hn z1 ⟨by omega, by omega⟩ z6 ⟨by omega, hn.1⟩ (by rw [q53]; exact hch)
  have hp0 : skp (s0 53) n 0 = plT (σ 53) n m 0 := by
    rw [q53]
    show plz (σ 53) n 0 = _
    unfold plT
    by_cases w : 0 < m
    · rw [if_pos ⟨by omega, w⟩]
    · rw [if_neg (by omega)]
      have := hNT.2.1
      rw [show m = 0 by omega] at this
      exact this
  rw [hp0] at hP1
  obtain ⟨t4, t7, t6⟩ := tok_T hA0 (j := 0) (by omega) (by omega) hP1
  obtain ⟨f1, f5, -, -⟩ := hP1
  have hK0 : KT s0 s1 44 (σ 53) wd n m x0 := by
    refine ⟨Fr.tr f1 (Fr.rf (rows := []) (sl := [])) rfl rfl, by rw [f1.at 52 3 rfl]; exact z3, ?_, fun _ => ⟨⟨t4, f5, fun w => ?_, fun w => (t6 w).1⟩, ⟨?_, ?_, ?_, ?_⟩, ?_, ?_, ?_⟩⟩
    · show s1 47 0 = 0
      rw [f1.row 47 rfl, F0.row 47 rfl]; exact hz
    · have w : nwT (σ 53) wd n m 0 ≠ 1 := w
      rw [t7]; unfold twN; rw [if_neg w]; rfl
    · rw [f1.at 44 0 rfl]; exact z0
    · rw [f1.at 44 1 rfl]; exact z1
    · rw [f1.at 44 2 rfl, z2]; omega
    · rw [f1.at 44 2 rfl, z2]; exact Int.le_refl _
    · exact fun k k0 k1 => absurd k1 (by show ¬ k < 0; omega)
    · show s1 47 0 = s1 44 2
      rw [f1.row 47 rfl, F0.row 47 rfl, hz, f1.at 44 2 rfl, z2]
    · exact fun k k0 k1 => absurd k1 (by show ¬ k < 0; omega)
  refine R_invv rfl rfl rfl rfl rfl rfl (hev1) rfl ?_
  show pCm _ _ _ 26 _ [] _
  refine R_push rfl ?_
  refine R_istore rfl rfl ?_
  show pCm _ _ _ _ [_, _, _] _ _
  refine loop (pc := 28) (α := Int × TXs × Nat × Sg) (fun a => a.2.2.1) (fun a => ([(68, 0), (60, 0), (0, a.1)], Wd xs t dd 60 a.2.2.2)) (fun a => (0 ≤ a.1 ∧ a.1 ≤ 25) ∧ KT s0 a.2.2.2 44 (σ 53) wd n m a.2.1 ∧ (a.2.1.2.1 = 0 → OKx m a.2.1 ∧ m - a.2.1.1 + 1 ≤ (a.2.2.1 : Int) ∧ a.1 = a.2.1.2.2.1) ∧ txR (σ 53) wd n m a.2.2.1 a.2.1 = txR (σ 53) wd n m 1001 x0) ?_ (0, x0, 1001, s1) ?_
  · intro ⟨ln, x, k, s⟩ ⟨hln, hK, hO, hX⟩ ih
    dsimp only at hln hK hO hX ⊢
    obtain ⟨kf, k3, kz, kg⟩ := id hK
    refine R_iload rfl rfl ?_
    refine R_push rfl ?_
    refine R_ic rfl (fun h31 => ?_) (fun h31 => ?_)
    · try simp only [ne_eq, b2i_e, b2i_1, Classical.not_not] at h31
      refine R_aload rfl rfl rfl ?_
      refine R_push rfl ?_
      refine T_puti rfl rfl rfl ?_
      refine R_aload rfl rfl rfl ?_
      refine T_geti rfl rfl rfl ?_
      refine R_iret rfl ?_
      have hex : ¬ (x.2.1 = 0 ∧ tkT (σ 53) wd n m x.1 ≠ 0) := fun w => by
        have g1 := (kg w.1).1.1
        have o4 := (hO w.1).2.2
        have o5 := (hO w.1).1.2.1.1
        have w2 := w.2
        rw [← g1] at w2
        first | omega | exact w2 (by assumption)
      have hX : x = txR (σ 53) wd n m 1001 x0 := by rw [← hX]; exact (txl_e hex).symm
      refine hE _ _ ?_ ?_
      · first | (rw [← hX]; congr 1; done) | (rw [← hX]; congr 1; simp [up2]; exact k3)
      rw [← hX]
      refine ⟨(Fr.tr (r3 := [45, 46, 47, 48, 56]) (s3 := [(52, 0), (52, 3), (52, 4), (52, 5), (52, 6), (52, 7), (52, 8), (44, 0), (44, 1), (44, 2)]) F0 kf rfl rfl).up rfl, up_s, ?_, fun w => ?_⟩
      · show up2 s 52 0 0 47 0 = 0
        rw [up_k (by decide)]; exact kz
      · refine ⟨(hO w).1, ?_, by rw [up_k (by decide)]; exact (kg w).2.1.2.1⟩
        have hct := CT_of (by omega) (hO w).1 (kg w)
        unfold CT at hct ⊢
        rw [up_rowo (show (44 : Nat) ≠ 52 by decide), up_rowo (show (44 + 1 : Nat) ≠ 52 by decide), up_rowo (show (44 + 2 : Nat) ≠ 52 by decide), up_rowo (show (44 + 3 : Nat) ≠ 52 by decide), up_rowo (show (44 + 4 : Nat) ≠ 52 by decide)]
        exact hct
    · try simp only [ne_eq, b2i_e, b2i_1, Classical.not_not] at h31
      refine R_aload rfl rfl rfl ?_
      refine T_geti rfl rfl rfl ?_
      refine R_if rfl (fun h38 => ?_) (fun h38 => ?_)
      · try simp only [ne_eq, b2i_e, b2i_1, Classical.not_not] at h38
        refine R_aload rfl rfl rfl ?_
        refine R_push rfl ?_
        refine T_puti rfl rfl rfl ?_
        refine R_aload rfl rfl rfl ?_
        refine T_geti rfl rfl rfl ?_
        refine R_iret rfl ?_
        have hex : ¬ (x.2.1 = 0 ∧ tkT (σ 53) wd n m x.1 ≠ 0) := fun w => by
          have g1 := (kg w.1).1.1
          have o4 := (hO w.1).2.2
          have o5 := (hO w.1).1.2.1.1
          have w2 := w.2
          rw [← g1] at w2
          first | omega | exact w2 (by assumption)
        have hX : x = txR (σ 53) wd n m 1001 x0 := by rw [← hX]; exact (txl_e hex).symm
        refine hE _ _ ?_ ?_
        · first | (rw [← hX]; congr 1; done) | (rw [← hX]; congr 1; simp [up2]; exact k3)
        rw [← hX]
        refine ⟨(Fr.tr (r3 := [45, 46, 47, 48, 56]) (s3 := [(52, 0), (52, 3), (52, 4), (52, 5), (52, 6), (52, 7), (52, 8), (44, 0), (44, 1), (44, 2)]) F0 kf rfl rfl).up rfl, up_s, ?_, fun w => ?_⟩
        · show up2 s 52 0 0 47 0 = 0
          rw [up_k (by decide)]; exact kz
        · refine ⟨(hO w).1, ?_, by rw [up_k (by decide)]; exact (kg w).2.1.2.1⟩
          have hct := CT_of (by omega) (hO w).1 (kg w)
          unfold CT at hct ⊢
          rw [up_rowo (show (44 : Nat) ≠ 52 by decide), up_rowo (show (44 + 1 : Nat) ≠ 52 by decide), up_rowo (show (44 + 2 : Nat) ≠ 52 by decide), up_rowo (show (44 + 3 : Nat) ≠ 52 by decide), up_rowo (show (44 + 4 : Nat) ≠ 52 by decide)]
          exact hct
      · try simp only [ne_eq, b2i_e, b2i_1, Classical.not_not] at h38
        refine R_aload rfl rfl rfl ?_
        refine T_geti rfl rfl rfl ?_
        refine R_if rfl (fun h45 => ?_) (fun h45 => ?_)
        · try simp only [ne_eq, b2i_e, b2i_1, Classical.not_not] at h45
          refine R_aload rfl rfl rfl ?_
          refine R_push rfl ?_
          refine T_puti rfl rfl rfl ?_
          refine R_aload rfl rfl rfl ?_
          refine T_geti rfl rfl rfl ?_
          refine R_iret rfl ?_
          have hex : ¬ (x.2.1 = 0 ∧ tkT (σ 53) wd n m x.1 ≠ 0) := fun w => by
            have g1 := (kg w.1).1.1
            have o4 := (hO w.1).2.2
            have o5 := (hO w.1).1.2.1.1
            have w2 := w.2
            rw [← g1] at w2
            first | omega | exact w2 (by assumption)
          have hX : x = txR (σ 53) wd n m 1001 x0 := by rw [← hX]; exact (txl_e hex).symm
          refine hE _ _ ?_ ?_
          · first | (rw [← hX]; congr 1; done) | (rw [← hX]; congr 1; simp [up2]; exact k3)
          rw [← hX]
          refine ⟨(Fr.tr (r3 := [45, 46, 47, 48, 56]) (s3 := [(52, 0), (52, 3), (52, 4), (52, 5), (52, 6), (52, 7), (52, 8), (44, 0), (44, 1), (44, 2)]) F0 kf rfl rfl).up rfl, up_s, ?_, fun w => ?_⟩
          · show up2 s 52 0 0 47 0 = 0
            rw [up_k (by decide)]; exact kz
          · refine ⟨(hO w).1, ?_, by rw [up_k (by decide)]; exact (kg w).2.1.2.1⟩
            have hct := CT_of (by omega) (hO w).1 (kg w)
            unfold CT at hct ⊢
            rw [up_rowo (show (44 : Nat) ≠ 52 by decide), up_rowo (show (44 + 1 : Nat) ≠ 52 by decide), up_rowo (show (44 + 2 : Nat) ≠ 52 by decide), up_rowo (show (44 + 3 : Nat) ≠ 52 by decide), up_rowo (show (44 + 4 : Nat) ≠ 52 by decide)]
            exact hct
        · try simp only [ne_eq, b2i_e, b2i_1, Classical.not_not] at h45
          refine R_aload rfl rfl rfl ?_
          have x8 : x.2.1 = 0 := by omega
          have hg := kg x8
          obtain ⟨⟨g1, g2, g3, g4⟩, ⟨g5, g6, g7, g8⟩, g9, g11, gl⟩ := id hg
          have htk : tkT (σ 53) wd n m x.1 ≠ 0 := by rw [← g1]; omega
          have hOk := hO x8
          have hxm := hOk.1.1
          have hWT := hOk.1.2.1
          have hM8 : 0 ≤ x.2.2.2.1 ∧ x.2.2.2.1 ≤ 8 := by
            rw [hOk.1.2.2.1]
            exact ⟨(sumZ_bd (c := 1) hWT.1.1 (fun _ _ _ => b2i_bd)).1, hWT.2.1⟩
          have hnd := hOk.1.2.2.2.2
          have s53 : s 53 = σ 53 := by rw [kf.fn 53 rfl]; exact q53
          have s52 : s 52 0 = n := by rw [kf.at 52 0 rfl]; exact q52
          have hAs : ∀ u, ACx (up2 s 56 (s 44 1) u) 44 (σ 53) wd n m x.2.2.2.1 x.2.2.2.2.1 := fun u => by
            refine ⟨⟨by rw [up_rowo (by decide)]; exact s53, by rw [up_k (by decide)]; exact s52⟩, hNT, hn.2, hch, ?_, ?_, h76, by rw [up_k (by decide)]; exact g6, hM8, fun k k0 k1 => ?_, hnd⟩
            · rw [up_rowo (by decide), kf.fn 54 rfl, F0.fn 54 rfl]; exact h54
            · rw [up_rowo (by decide), kf.fn 55 rfl, F0.fn 55 rfl]; exact h55
            · rw [g6, up_i (by omega)]; exact g9 k k0 k1
          have hpb := plT_b (c := σ 53) (n := n) (m := m) (j := x.1) hNT hxm.1 hxm.2
          have hCs : 128 ≤ tkT (σ 53) wd n m x.1 → tkT (σ 53) wd n m x.1 ≤ 131 → CSx s s (tkT (σ 53) wd n m) (twX (nwT (σ 53) wd n m) (t0T (σ 53) wd n m) (vaT (σ 53) n m) x) (plT (σ 53) n m) 44 m (s 44 2) (S0x x.1) := fun w1 w2 => by
            have hnw : nwT (σ 53) wd n m x.1 ≠ 1 := fun w => by
              have := ((TP_t (wd := wd) hNT).2 x.1).2.1.mpr w
              have w1 : 128 ≤ tkF (soT (σ 53) n m) (vaT (σ 53) n m) wd x.1 := w1
              omega
            refine ⟨Fr.rf, by rw [k3]; exact x8, hxm, by rw [g2]; omega, ⟨fun _ _ => rfl, fun _ w => ⟨by rw [s53, s52]; exact g4 w, fun w3 => ?_⟩⟩, fun _ => ⟨g1, ?_, g2, by show s 44 2 = s 44 2 + 0; omega, Int.le_refl _, fun q q0 q1 => absurd q1 (by show ¬ q < 0; omega)⟩⟩
            · have w3 : tkT (σ 53) wd n m x.1 = 3 := w3
              omega
            · rw [g3 hnw]
              show _ = twN _ _ _ x.2.2.2.2.1 x.2.2.2.1 x.1
              unfold twN
              rw [if_neg hnw]
          obtain ⟨s2, hev2, hl1, hl2⟩ := sp_X7_readLine_44 d (by omega) xs t dd 60 s m (s 44 2) x.1 6 (by omega) rfl (tkT (σ 53) wd n m) (twX (nwT (σ 53) wd n m) (t0T (σ 53) wd n m) (vaT (σ 53) n m) x) (plT (σ 53) n m) (CTk_T hNT hn.2 hM8) hxm (by rw [g6]; exact hM8) (by rw [g5]; exact hWT.1) (fun u => ADV_T_44 (hAs u)) ⟨g7, g8⟩ g1 g2 (by omega) hCs
          have hK2 := KT_st_44 (wd := wd) hNT q53 q52 hK x8 hOk.1 hl1 hl2
          refine R_invv rfl rfl rfl rfl rfl rfl (hev2) rfl ?_
          show pCm _ _ _ 52 _ [] _
          refine R_inc rfl rfl (by omega) (by omega) ?_
          show pCm _ _ _ _ [_, _, _] _ _
          refine R_goto rfl ?_
          obtain ⟨k, rfl⟩ : ∃ e, k = e + 1 := ⟨k - 1, by omega⟩
          refine ih (ln + 1, txT (σ 53) wd n m x, k, s2) ⟨by dsimp only; omega, hK2, fun zl => ?_, ?_⟩ (by dsimp only; omega)
          · have zl : (txT (σ 53) wd n m x).2.1 = 0 := zl
            have zx : (lnT (σ 53) wd n m x).2.1 = 0 := by
              by_cases w : (lnT (σ 53) wd n m x).2.1 = 0
              · exact w
              · exfalso
                have e : txT (σ 53) wd n m x = (x.1, (lnT (σ 53) wd n m x).2.1, x.2.2) := by
                  show txS _ _ _ _ _ x = _
                  unfold txS
                  rw [if_neg w]
                rw [e] at zl
                exact w zl
            obtain ⟨o1, o2, -⟩ := tx_ok (wv := vaT (σ 53) n m) (TP_t hNT) hOk.1 zx
            have o2 : x.1 < (txT (σ 53) wd n m x).1 := o2
            have o3 : m - x.1 + 1 ≤ ((k + 1 : Nat) : Int) := hOk.2.1
            have o4 : (txT (σ 53) wd n m x).2.2.1 = x.2.2.1 + 1 := by
              show (txS _ _ _ _ _ x).2.2.1 = _
              unfold txS
              rw [if_pos zx]
            refine ⟨o1, ?_, ?_⟩
            · show m - (txT (σ 53) wd n m x).1 + 1 ≤ (k : Int)
              omega
            · show ln + 1 = (txT (σ 53) wd n m x).2.2.1
              rw [o4, hOk.2.2]
          · rw [← hX]; exact (txl_s ⟨x8, htk⟩).symm
  · exact ⟨⟨by dsimp only; omega, by dsimp only; omega⟩, hK0, fun _ => ⟨x0_ok hm.1, by show m - 0 + 1 ≤ 1001; omega, rfl⟩, rfl⟩

-- both sides' functions are the same
theorem eq_hs {σ : Sg} (h : σ 98 = σ 13) : hsM σ = hsS σ := by funext f; unfold hsM hsS; rw [h]
theorem eq_cob {σ : Sg} {P J : Int} (h : Rj σ P J) : cobM σ P J = cobS σ P J := by
  obtain ⟨⟨-, u1, u2, u3, u4, u5⟩, -⟩ := h
  unfold cobM cobS onM onS; rw [u1, u2, u5]
theorem eq_trn {σ : Sg} {P J : Int} (h : Rj σ P J) : trnM σ P J = trnS σ P J := by
  obtain ⟨⟨-, u1, u2, u3, u4, u5⟩, -⟩ := h
  unfold trnM trnS onM onS; rw [u1, u2, u3, u5]
theorem eq_who {σ : Sg} {P J : Int} (h14 : σ 99 = σ 14) (h : Rj σ P J) : whoM σ P J = whoS σ P J := by
  obtain ⟨⟨-, u1, u2, u3, u4, u5⟩, ⟨⟨-, -, -, c4, -⟩, -⟩, rj3, -⟩ := h
  unfold whoM whoS
  rw [u1, u2]
  refine lab_on c4.1 (fun j j0 j1 => ?_)
  have := (rj3 j j0 j1).2.2.1
  unfold onMB onB
  rw [u5, h14, u1]
  congr 1
  rw [this]
theorem eq_op {σ : Sg} {P J : Int} (h : Rj σ P J) : opM σ P J = opS σ P J := by
  funext j
  have et := eq_trn h
  obtain ⟨⟨-, u1, u2, u3, u4, u5⟩, -⟩ := h
  unfold opM opS
  rw [et, u1, u2, u3, u5]
theorem eq_mt {σ : Sg} {P J f : Int} (h : Rj σ P J) (f0 : 0 ≤ f) (f1 : f < 8 * P) (hf : hsS σ f = 1) : mtM σ J f = mtS σ J f := by
  obtain ⟨⟨-, u1, u2, u3, u4, u5⟩, ⟨⟨-, -, -, c4, -⟩, -⟩, rj3, rj4⟩ := h
  have h4 := rj4 f f0 f1 hf
  have key : ∀ n : Nat, (n : Int) ≤ J → mateZ (onM σ) (σ 102) (σ 103) n f = if 0 ≤ σ 17 f ∧ σ 17 f < n then (if σ 22 (σ 17 f) = f then σ 23 (σ 17 f) else σ 22 (σ 17 f)) else -1 := by
    intro n
    induction n with
    | zero => intro _; rw [if_neg (by omega)]; rfl
    | succ n ih =>
      intro hn
      have ih := ih (by omega)
      have e : mateZ (onM σ) (σ 102) (σ 103) ((n : Int) + 1) f = _ := mateZ_s (by omega)
      rw [show (((n + 1 : Nat) : Int)) = (n : Int) + 1 by omega, e, ih, u1, u2]
      unfold mstep onM
      rw [u5]
      by_cases ho : σ 26 n = -1
      · rw [if_pos (by rw [decide_eq_true_iff]; exact ho)]
        obtain ⟨r1, r2, r3, r4, r5⟩ := rj3 n (by omega) (by omega)
        have h5 := r5 ho
        by_cases a : σ 22 n = f
        · rw [if_pos a]
          rw [a] at h5
          rw [if_pos (by omega), h5.1, if_pos a]
        · rw [if_neg a]
          by_cases b : σ 23 n = f
          · rw [if_pos b]
            rw [b] at h5
            rw [if_pos (by omega), h5.2, if_neg a]
          · rw [if_neg b]
            have hne : σ 17 f ≠ n := fun z => by
              rcases h4 with y | y
              · omega
              · rw [z] at y; rcases y.2.2 with k | k
                · exact a k
                · exact b k
            by_cases z : 0 ≤ σ 17 f ∧ σ 17 f < n
            · rw [if_pos z, if_pos (show 0 ≤ σ 17 f ∧ σ 17 f < (n : Int) + 1 by omega)]
            · rw [if_neg z, if_neg (show ¬ (0 ≤ σ 17 f ∧ σ 17 f < (n : Int) + 1) by omega)]
      · rw [if_neg (by rw [decide_eq_true_iff]; exact ho)]
        have hne : σ 17 f ≠ n := fun z => by
          rcases h4 with y | y
          · omega
          · rw [z] at y; exact ho y.2.1
        by_cases z : 0 ≤ σ 17 f ∧ σ 17 f < n
        · rw [if_pos z, if_pos (show 0 ≤ σ 17 f ∧ σ 17 f < (n : Int) + 1 by omega)]
        · rw [if_neg z, if_neg (show ¬ (0 ≤ σ 17 f ∧ σ 17 f < (n : Int) + 1) by omega)]
  have := key J.toNat (by omega)
  rw [Int.toNat_of_nonneg c4.1] at this
  unfold mtM mtS
  rw [this]
theorem gsum_c {F S F' S' : Int → Int} {rf rs r : Int} (hF : ∀ k, 0 ≤ k → k < 8 → F k = F' k) (hS : ∀ k, 0 ≤ k → k < 8 → S k = S' k) : gsum F S rf rs r = gsum F' S' rf rs r := by
  unfold gsum
  congr 1
  exact sumZ_congr (fun k k0 k1 => by rw [hF _ (by omega) (by omega), hS k k0 k1])
theorem fitZ_g {F S F' S' : Int → Int} {rf rs m : Int} (hF : ∀ k, 0 ≤ k → k < 8 → F k = F' k) (hS : ∀ k, 0 ≤ k → k < 8 → S k = S' k) : fitZ F S rf rs m = fitZ F' S' rf rs m := foldZ_congr (fun r _ _ x => by rw [gsum_c hF hS])
theorem eq_fit {σ : Sg} {P a b : Int} (h : Rf σ P) (ha : 0 ≤ a ∧ a < 320) (hb : 0 ≤ b ∧ b < 320) : fitM σ a b = fitS σ a b := by
  obtain ⟨⟨-, -, rf3, -⟩, -, -, -, rf7, -⟩ := h
  unfold fitM fitS
  rw [rf3]
  exact fitZ_g (fun k k0 k1 => (rf7 a k ha.1 ha.2 k0 k1).1) (fun k k0 k1 => (rf7 b k hb.1 hb.2 k0 k1).1)
theorem eq_stn {σ : Sg} {P N : Int} {kd nu len : Int → Int} {K W : Int → Int → Int} (h : Rp σ P) : stnM σ N kd nu len K W = stnS σ N kd nu len K W := by
  obtain ⟨-, ⟨u1, u2, u3, u4, u5, u6, u7, u8, u9, u10⟩, -⟩ := h
  funext p
  unfold stnM stnS
  rw [u1, u2, u6, u7, u8, u9]
theorem eq_km {σ : Sg} {P a b : Int} (hp : Rp σ P) (h : Rf σ P) (ha : 0 ≤ a ∧ a < 320) (hb : 0 ≤ b ∧ b < 320) : kmM σ a b = kmS σ a b := by
  have ef := eq_fit h ha hb
  obtain ⟨-, ⟨u1, u2, u3, u4, u5, u6, u7, u8, u9, u10⟩, -⟩ := hp
  obtain ⟨⟨-, rf2, -⟩, -⟩ := h
  unfold kmM kmS
  rw [ef, rf2, u2, u3, u4, u5, u6, u7, u8, u9]
theorem eq_may {σ : Sg} {P a b N : Int} {kd nu len : Int → Int} {K W : Int → Int → Int} (hr : Ra σ) (hp : Rp σ P) (h : Rf σ P) (ha : 0 ≤ a ∧ a < 320) (hb : 0 ≤ b ∧ b < 320) : mayM σ N kd nu len K W a b = mayS σ N kd nu len K W a b := by
  have ef := eq_fit h ha hb
  have ek := eq_km hp h ha hb
  have es := eq_stn (N := N) (kd := kd) (nu := nu) (len := len) (K := K) (W := W) hp
  obtain ⟨-, ⟨u1, u2, u3, u4, u5, u6, u7, u8, u9, u10⟩, -⟩ := hp
  obtain ⟨⟨-, rf2, -⟩, -⟩ := h
  unfold mayM mayS
  rw [ef, ek, es, rf2, u9, hr.2.2.1]
theorem eq_db {σ : Sg} {P a b N : Int} {kd nu len : Int → Int} {K W : Int → Int → Int} (hp : Rp σ P) (h : Rf σ P) (ha : 0 ≤ a ∧ a < 320) (hb : 0 ≤ b ∧ b < 320) : dbM σ N kd nu len K W a b = dbS σ N kd nu len K W a b := by
  have ek := eq_km hp h ha hb
  unfold dbM dbS
  rw [ek]
/-- a face that is there -/
theorem has_e {σ : Sg} {P : Int} (hp : Rp σ P) (h : Rf σ P) (x : Int) : (0 ≤ x ∧ x < 320 ∧ x % 8 < σ 13 (x / 8)) ↔ (0 ≤ x ∧ x / 8 < P ∧ x % 8 < σ 13 (x / 8)) := by
  obtain ⟨⟨-, -, p3, p4⟩, -⟩ := hp
  obtain ⟨-, -, rf5, -⟩ := h
  constructor
  · intro z
    refine ⟨z.1, ?_, z.2.2⟩
    by_cases y : x / 8 < P
    · exact y
    · have := rf5 (x / 8) (by omega) (by omega); omega
  · intro z; exact ⟨z.1, by omega, z.2.2⟩
theorem MB_of {σ : Sg} {P J : Int} (hp : Rp σ P) (h : Rj σ P J) : MB σ P J := by
  obtain ⟨⟨u0, u1, u2, -⟩, ⟨⟨-, -, c3, c4, c5⟩, -⟩, -⟩ := h
  exact ⟨hp.1.2.1, u0, c3, c4, by rw [u1, u2]; exact c5⟩
/-- what the class's heaps are like -/
theorem HHc_of {σ : Sg} {P J : Int} (h : Rj σ P J) : HH P (hsS σ) (cobS σ P J) (whoS σ P J) (mtS σ J) := by
  obtain ⟨-, ⟨⟨-, -, c3, c4, c5⟩, -⟩, rj3, rj4⟩ := h
  have hc := lab_bd (on := onS σ) c4.1 c5
  have hw := lab_bd (on := onB σ) c4.1 c5
  have hwi := lab_idem (on := onB σ) c4.1 c5
  refine ⟨c3, fun p p0 p1 => ?_, fun f f0 f1 hf => ?_⟩
  · have hc' := hc p p0 p1
    have hw' := hw p p0 p1
    refine ⟨⟨hc'.1, by show lab P J (onS σ) (σ 22) (σ 23) p < P; omega⟩, ⟨hw'.1, by show lab P J (onB σ) (σ 22) (σ 23) p < P; omega⟩, hwi p p0 p1, ?_⟩
    have hV := lab_closed (V := fun x => lab P J (onS σ) (σ 22) (σ 23) x = lab P J (onS σ) (σ 22) (σ 23) p) (on := onB σ) c4.1 c5 (fun j j0 j1 ho => by
      have ho2 : onS σ j = true := by
        unfold onB at ho
        unfold onS
        rw [decide_eq_true_iff] at ho ⊢
        exact ho.1
      rw [lab_join c5 j0 j1 ho2])
    exact (hV p (lab P J (onB σ) (σ 22) (σ 23) p) ⟨p0, p1⟩ ⟨hw'.1, by omega⟩ (hwi p p0 p1).symm).mp rfl
  · unfold mtS
    rcases rj4 f f0 f1 hf with z | z
    · rw [if_neg (by omega)]; exact Or.inl rfl
    · rw [if_pos z.1]
      have h5 := c5 (σ 17 f) z.1.1 z.1.2
      have ho : onS σ (σ 17 f) = true := by unfold onS; rw [decide_eq_true_iff]; exact z.2.1
      have hl := lab_join c5 z.1.1 z.1.2 ho
      by_cases y : σ 22 (σ 17 f) = f
      · rw [if_pos y]
        rw [y] at hl
        exact Or.inr ⟨h5.2, hl.symm⟩
      · rw [if_neg y]
        have y2 : σ 23 (σ 17 f) = f := by rcases z.2.2 with k | k; exact absurd k y; exact k
        rw [y2] at hl
        exact Or.inr ⟨h5.1, hl⟩
theorem sumZ_z {n : Int} (h : 0 ≤ n) : sumZ (fun _ => 0) n = 0 := by
  have := sumZ_bd (f := fun _ => 0) (c := 0) h (fun _ _ _ => ⟨Int.le_refl _, Int.le_refl _⟩)
  omega
/-- a piece in a heap of two or more has a mate -/
theorem HJ_of {σ : Sg} {P J : Int} (h : Rj σ P J) : HJ P (hsS σ) (cobS σ P J) (mtS σ J) := by
  obtain ⟨-, ⟨⟨-, -, c3, c4, c5⟩, -⟩, rj3, rj4⟩ := h
  intro p p0 p1 hm
  refine Classical.byContradiction (fun hno => ?_)
  have hx : ∀ j, 0 ≤ j → j < J → σ 26 j = -1 → σ 22 j / 8 ≠ p ∧ σ 23 j / 8 ≠ p := fun j j0 j1 ho => by
    obtain ⟨r1, r2, r3, r4, r5⟩ := rj3 j j0 j1
    have h5 := r5 ho
    have hr := c5 j j0 j1
    refine ⟨fun z => hno ⟨σ 22 j, by omega, by omega, r1.1, ?_⟩, fun z => hno ⟨σ 23 j, by omega, by omega, r1.2.1, ?_⟩⟩
    · unfold mtS
      rw [h5.1, if_pos ⟨j0, j1⟩, if_pos rfl]; exact hr.2.1
    · unfold mtS
      rw [h5.2, if_pos ⟨j0, j1⟩]
      split
      · exact hr.2.1
      · exact hr.1.1
  have hV := lab_closed (V := fun x => x = p) (on := onS σ) c4.1 c5 (fun j j0 j1 ho => by
    have ho2 : σ 26 j = -1 := by unfold onS at ho; rw [decide_eq_true_iff] at ho; exact ho
    have := hx j j0 j1 ho2
    exact ⟨fun z => absurd z this.1, fun z => absurd z this.2⟩)
  have e : mny (cobS σ P J) P (cobS σ P J p) = sumZ (fun q => b2i (q = p)) P := sumZ_congr (fun q q0 q1 => by
    by_cases z : q = p
    · rw [z, b2i_t rfl, b2i_t rfl]
    · have hv : ¬ cobS σ P J q = cobS σ P J p := fun w => z ((hV q p ⟨q0, q1⟩ ⟨p0, p1⟩ w).mpr rfl)
      rw [b2i_f z, b2i_f hv])
  have e2 : sumZ (fun q => b2i (q = p)) P = sumZ (fun _ => 0) P + (b2i (p = p) - 0) := sumZ_at (f := fun q => b2i (q = p)) (g := fun _ => 0) p0 p1 (fun k hk => b2i_f hk)
  rw [sumZ_z (by omega), b2i_t rfl] at e2
  omega
theorem BH_of {σ : Sg} {P J : Int} (hf : Rf σ P) (h : Rj σ P J) (gi : GI σ P J) : BH σ P J := by
  have hH := HHc_of h
  obtain ⟨-, -, -, -, -, rf8⟩ := hf
  obtain ⟨-, ⟨hCB, -⟩, rj3, rj4⟩ := id h
  refine ⟨hCB, HH_c hH (fun p p0 p1 => ⟨(gi p p0 p1).1, (gi p p0 p1).2.1⟩), fun x x0 x1 => ?_, fun f f0 f1 hf => ?_, fun f k f0 f1 k0 k1 hn => rf8 f k f0 (by have := hCB.2.2.1; omega) k0 k1 hn⟩
  · rw [(gi x x0 x1).2.2.2]
    exact sumZ_congr (fun q q0 q1 => by rw [(gi q q0 q1).1])
  · rcases rj4 f f0 f1 hf with z | z
    · exact Or.inl z
    · exact Or.inr z.1
theorem MHr_of {σ : Sg} {P J : Int} (hp : Rp σ P) (hf : Rf σ P) (h : Rj σ P J) : MH0 σ P J := by
  have hH := HHc_of h
  have hJ := HJ_of h
  obtain ⟨⟨rf1, rf2, rf3, -⟩, -, -, -, rf7, rf8⟩ := id hf
  have ehs := eq_hs rf1
  have ec := eq_cob h
  have ew := eq_who rf2 h
  have hc3 := h.2.1.1.2.2.1
  refine ⟨MB_of hp h, ?_, fun f k f0 f1 k0 k1 => ?_, ?_⟩
  · rw [ehs, ec, ew]
    refine ⟨hH.1, hH.2.1, fun f f0 f1 hs => ?_⟩
    rw [eq_mt h f0 f1 hs]
    exact hH.2.2 f f0 f1 hs
  · rw [(rf7 f k f0 (by omega) k0 k1).2, ehs]
    exact ⟨nib_le ⟨k0, k1⟩, rf8 f k f0 (by omega) k0 k1⟩
  · rw [ehs, ec]
    intro p p0 p1 hm
    obtain ⟨f, g1, g2, g3, g4⟩ := hJ p p0 p1 hm
    exact ⟨f, g1, g2, g3, by rw [eq_mt h (by omega) (by omega) g3]; exact g4⟩
/-- the class's steps leave the reference's rows alone -/
theorem frM {rows : List Nat} {sl : List (Nat × Int)} {σ s : Sg} (h : Fr rows sl σ s) (h1 : rows.all (fun k => Nat.blt k 71 || Nat.beq k 122) = true) (h2 : sl.all (fun q => Nat.blt q.1 71) = true) : ∀ r, 71 ≤ r ∧ r ≠ 122 → s r = σ r := fun r hr => by
  funext i
  refine h r i (fun z => ?_) (fun z => ?_)
  · rcases Bool.or_eq_true_iff.mp (List.all_eq_true.mp h1 r z) with q | q
    · have := Nat.le_of_ble_eq_true q
      omega
    · exact hr.2 (Nat.eq_of_beq_eq_true q)
  · have := Nat.le_of_ble_eq_true (List.all_eq_true.mp h2 (r, i) z)
    dsimp only at this
    omega
theorem M_c {σ s : Sg} (h : ∀ r, 71 ≤ r ∧ r ≠ 122 → s r = σ r) : (cobM s = cobM σ ∧ whoM s = whoM σ ∧ trnM s = trnM σ ∧ mtM s = mtM σ) ∧ (hsM s = hsM σ ∧ fitM s = fitM σ ∧ stM s = stM σ ∧ opM s = opM σ) ∧ ∀ (N : Int) (kd nu len : Int → Int) (K W : Int → Int → Int), stnM s N kd nu len K W = stnM σ N kd nu len K W ∧ mayM s N kd nu len K W = mayM σ N kd nu len K W ∧ dbM s N kd nu len K W = dbM σ N kd nu len K W := by
  have e25 : s 71 25 = σ 71 25 := by rw [h 71 (by decide)]
  have c1 : cobM s = cobM σ := by unfold cobM onM; rw [h 102 (by decide), h 103 (by decide), h 106 (by decide)]
  have c2 : whoM s = whoM σ := by unfold whoM onMB; rw [h 102 (by decide), h 103 (by decide), h 106 (by decide), h 99 (by decide)]
  have c3 : trnM s = trnM σ := by unfold trnM onM; rw [h 102 (by decide), h 103 (by decide), h 104 (by decide), h 106 (by decide)]
  have c4 : mtM s = mtM σ := by unfold mtM onM; rw [h 102 (by decide), h 103 (by decide), h 106 (by decide)]
  have c5 : hsM s = hsM σ := by unfold hsM; rw [h 98 (by decide)]
  have c6 : fitM s = fitM σ := by unfold fitM; rw [h 100 (by decide), h 101 (by decide)]
  have c7 : stM s = stM σ := by unfold stM; rw [c1, h 90 (by decide), h 91 (by decide), h 89 (by decide)]
  have c8 : opM s = opM σ := by unfold opM; rw [c3, h 102 (by decide), h 103 (by decide), h 104 (by decide), h 106 (by decide)]
  refine ⟨⟨c1, c2, c3, c4⟩, ⟨c5, c6, c7, c8⟩, fun N kd nu len K W => ?_⟩
  have c9 : stnM s N kd nu len K W = stnM σ N kd nu len K W := by unfold stnM; rw [h 88 (by decide), h 93 (by decide), h 94 (by decide), h 95 (by decide), h 96 (by decide), h 89 (by decide)]
  have c10 : kmM s = kmM σ := by unfold kmM; rw [c6, h 99 (by decide), h 89 (by decide), h 90 (by decide), h 91 (by decide), h 92 (by decide), h 96 (by decide), h 93 (by decide), h 94 (by decide), h 95 (by decide)]
  refine ⟨c9, ?_, ?_⟩
  · unfold mayM; rw [c6, c9, c10, e25, h 99 (by decide), h 96 (by decide)]
  · unfold dbM; rw [c10]
theorem eq_st {σ : Sg} {P J : Int} (hp : Rp σ P) (hj : Rj σ P J) (gi : GI σ P J) (c n : Int) : stM σ P J c n = stS σ P c n := by
  have ec := eq_cob hj
  obtain ⟨-, ⟨u1, u2, u3, u4, -⟩, -⟩ := hp
  unfold stM stS
  rw [ec, u2, u3, u4]
  exact seatOut_K (fun a b => costZ_L (fun p p0 p1 => (gi p p0 p1).1.symm))

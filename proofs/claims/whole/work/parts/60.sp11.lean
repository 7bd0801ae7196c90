def dst (a b : Int) : Int := if a < b then b - a else a - b
theorem dst_bd {a b c : Int} (ha : 0 ≤ a ∧ a ≤ c) (hb : 0 ≤ b ∧ b ≤ c) : 0 ≤ dst a b ∧ dst a b ≤ c := by unfold dst; split <;> omega
def gsum (F S : Int → Int) (rf rs r : Int) : Int := sumZ (fun k => dst (F ((r - k) % 8)) (S k)) 8 + 5 * min ((r - rf - rs) % 8) (8 - (r - rf - rs) % 8)
def fitZ (F S : Int → Int) (rf rs m : Int) : Int := foldZ (fun r x => min x (8 * gsum F S rf rs r + r)) m 1000000
theorem fitZ_s {F S : Int → Int} {rf rs m : Int} (h : 0 ≤ m) : fitZ F S rf rs (m + 1) = min (fitZ F S rf rs m) (8 * gsum F S rf rs m + m) := foldZ_s h
theorem gsum_bd {F S : Int → Int} {rf rs r : Int} (hF : ∀ k, 0 ≤ k → k < 8 → 0 ≤ F k ∧ F k ≤ 255) (hS : ∀ k, 0 ≤ k → k < 8 → 0 ≤ S k ∧ S k ≤ 255) : 0 ≤ gsum F S rf rs r ∧ gsum F S rf rs r ≤ 2060 := by
  have h := sumZ_bd (f := fun k => dst (F ((r - k) % 8)) (S k)) (c := 255) (n := 8) (by omega) (fun i i0 i1 => dst_bd (hF _ (by omega) (by omega)) (hS i i0 i1))
  unfold gsum
  omega
theorem fitZ_bd {F S : Int → Int} {rf rs : Int} (hF : ∀ k, 0 ≤ k → k < 8 → 0 ≤ F k ∧ F k ≤ 255) (hS : ∀ k, 0 ≤ k → k < 8 → 0 ≤ S k ∧ S k ≤ 255) : ∀ m : Nat, (m : Int) ≤ 8 → 0 ≤ fitZ F S rf rs m ∧ (m = 0 → fitZ F S rf rs m = 1000000) ∧ (1 ≤ m → fitZ F S rf rs m ≤ 16487) := by
  intro m
  induction m with
  | zero => intro _; exact ⟨by show (0 : Int) ≤ 1000000; decide, fun _ => rfl, fun h => by omega⟩
  | succ m ih =>
    intro hm
    have e : fitZ F S rf rs ((m + 1 : Nat) : Int) = _ := fitZ_s (m := m) (by omega)
    have := ih (by omega)
    have := gsum_bd (rf := rf) (rs := rs) (r := m) hF hS
    rw [e]
    omega
set_option maxRecDepth 20000 in
set_option maxHeartbeats 2000000 in
theorem sp_X9_byteOf (d : Nat) (hd : 1 ≤ d) (w : pW) (r k : Int) (hk : 0 ≤ k ∧ k < 8) : Ev d 29 [(1, r), (0, k)] w (0, byt r k) w := by
  obtain ⟨d, rfl⟩ : ∃ e, d = e + 1 := ⟨d - 1, by omega⟩
  refine evP (nL := 3) (code := k_X9_byteOf) rfl ⟨Nat.le_refl _, Nat.le_refl _⟩ rfl (fun E hE => ?_)
  show pCm (Ev d) k_X9_byteOf E 0 [(1, r), (9, 0), (0, k)] [] _
  refine R_lload rfl rfl ?_
  refine R_push rfl ?_
  refine R_push rfl ?_
  refine R_iload rfl rfl ?_
  refine R_mul rfl (by omega) (by omega) ?_
  refine R_sub rfl (by omega) (by omega) ?_
  refine R_lsh rfl ?_
  refine R_l2i rfl ?_
  refine R_push rfl ?_
  refine R_bin rfl ?_
  refine R_iret rfl ?_
  exact hE _ (by rw [pAnd255, pL2i_256]; rfl)
def rimOk (r : Int) : Int := b2i (byt r 0 ≤ 99 ∧ byt r 1 ≤ 99 ∧ byt r 2 ≤ 99 ∧ byt r 3 ≤ 99 ∧ byt r 4 ≤ 99 ∧ byt r 5 ≤ 99 ∧ byt r 6 ≤ 99 ∧ byt r 7 ≤ 99)
theorem rimOk_t {r : Int} (h : ∀ k, 0 ≤ k → k < 8 → byt r k ≤ 99) : rimOk r = 1 := b2i_t ⟨h 0 (by omega) (by omega), h 1 (by omega) (by omega), h 2 (by omega) (by omega), h 3 (by omega) (by omega), h 4 (by omega) (by omega), h 5 (by omega) (by omega), h 6 (by omega) (by omega), h 7 (by omega) (by omega)⟩
theorem rimOk_f {r k : Int} (h0 : 0 ≤ k) (h1 : k < 8) (h : ¬ byt r k ≤ 99) : rimOk r = 0 := b2i_f (fun z => by
  have : k = 0 ∨ k = 1 ∨ k = 2 ∨ k = 3 ∨ k = 4 ∨ k = 5 ∨ k = 6 ∨ k = 7 := by omega
  rcases this with e | e | e | e | e | e | e | e <;> subst e <;> omega)
theorem rimOk_a {r k : Int} (h : rimOk r = 1) (h0 : 0 ≤ k) (h1 : k < 8) : byt r k ≤ 99 := by
  by_cases z : byt r k ≤ 99
  · exact z
  · rw [rimOk_f h0 h1 z] at h; omega
set_option maxRecDepth 20000 in
set_option maxHeartbeats 2000000 in
theorem sp_X1_rimFits (d : Nat) (hd : 2 ≤ d) (xs : List (Nat × Nat)) (t dd rr : Nat) (σ : Sg) (r : Int) : Ev d 154 [(28, 0), (1, r)] (Wd xs t dd rr σ) (0, rimOk r) (Wd xs t dd rr σ) := by
  obtain ⟨d, rfl⟩ : ∃ e, d = e + 1 := ⟨d - 1, by omega⟩
  refine evP (nL := 4) (code := k_X1_rimFits) rfl pb0 rfl (fun E hE => ?_)
  show pCm (Ev d) k_X1_rimFits E 0 [(28, 0), (1, r), (9, 0), (9, 0)] [] _
  refine R_push rfl ?_
  refine R_istore rfl rfl ?_
  refine loop (pc := 2) (α := Int) (fun a => (8 - a).toNat) (fun a => ([(28, 0), (1, r), (9, 0), (0, a)], Wd xs t dd rr σ)) (fun a => (0 ≤ a ∧ a ≤ 8) ∧ ∀ k, 0 ≤ k → k < a → byt r k ≤ 99) ?_ 0 ?_
  · intro k ⟨hk, hv⟩ ih
    dsimp only at hk hv ⊢
    refine R_iload rfl rfl ?_
    refine R_push rfl ?_
    refine R_ic rfl (fun h5 => ?_) (fun h5 => ?_)
    · try simp only [ne_eq, b2i_e, b2i_1, Classical.not_not] at h5
      refine R_push rfl ?_
      refine R_zret rfl (by first | exact Or.inl rfl | exact Or.inr rfl | omega | grind) ?_
      exact hE _ (by rw [rimOk_t (fun i i0 i1 => hv i i0 (by omega))])
    · try simp only [ne_eq, b2i_e, b2i_1, Classical.not_not] at h5
      refine R_lload rfl rfl ?_
      refine R_iload rfl rfl ?_
      refine R_inv rfl rfl rfl rfl rfl (sp_X9_byteOf d (by omega) _ _ _ ⟨by omega, by omega⟩) rfl ?_
      show pCm _ _ _ 13 _ [(0, _)] _
      refine R_push rfl ?_
      refine R_ic rfl (fun h15 => ?_) (fun h15 => ?_)
      · try simp only [ne_eq, b2i_e, b2i_1, Classical.not_not] at h15
        refine R_inc rfl rfl (by omega) (by omega) ?_
        refine R_goto rfl ?_
        exact ih (k + 1) ⟨by omega, fun i i0 i1 => by
          by_cases z : i = k
          · rw [z]; omega
          · exact hv i i0 (by omega)⟩ (by omega)
      · try simp only [ne_eq, b2i_e, b2i_1, Classical.not_not] at h15
        refine R_push rfl ?_
        refine R_zret rfl (by first | exact Or.inl rfl | exact Or.inr rfl | omega | grind) ?_
        exact hE _ (by rw [rimOk_f hk.1 (by omega) (by omega)])
  · exact ⟨by omega, fun i i0 i1 => by omega⟩
set_option maxRecDepth 20000 in
set_option maxHeartbeats 2000000 in
theorem sp_X1_rimSum (d : Nat) (hd : 2 ≤ d) (xs : List (Nat × Nat)) (t dd rr : Nat) (σ : Sg) (fa : Int) (ha : 0 ≤ fa ∧ fa < 320) : Ev d 156 [(28, 0), (0, fa)] (Wd xs t dd rr σ) (0, sumZ (fun k => byt (σ 15 fa) k) 8) (Wd xs t dd rr σ) := by
  obtain ⟨d, rfl⟩ : ∃ e, d = e + 1 := ⟨d - 1, by omega⟩
  refine evP (nL := 4) (code := k_X1_rimSum) rfl pb0 rfl (fun E hE => ?_)
  show pCm (Ev d) k_X1_rimSum E 0 [(28, 0), (0, fa), (9, 0), (9, 0)] [] _
  refine R_push rfl ?_
  refine R_istore rfl rfl ?_
  refine R_push rfl ?_
  refine R_istore rfl rfl ?_
  refine loop (pc := 4) (α := Int × Int) (fun a => (8 - a.2).toNat) (fun a => ([(28, 0), (0, fa), (0, a.1), (0, a.2)], Wd xs t dd rr σ)) (fun a => 0 ≤ a.2 ∧ a.2 ≤ 8 ∧ a.1 = sumZ (fun k => byt (σ 15 fa) k) a.2) ?_ (0, 0) ?_
  · intro ⟨n, k⟩ ⟨hk0, hk1, hn⟩ ih
    dsimp only at hk0 hk1 hn ⊢
    have hs := sumZ_bd (f := fun k => byt (σ 15 fa) k) (c := 255) hk0 (fun i hi0 hi1 => by have := byt_bd (r := σ 15 fa) (k := i); omega)
    have hbk := byt_bd (r := σ 15 fa) (k := k)
    refine R_iload rfl rfl ?_
    refine R_push rfl ?_
    refine R_ic rfl (fun h7 => ?_) (fun h7 => ?_)
    · try simp only [ne_eq, b2i_e, b2i_1, Classical.not_not] at h7
      refine R_iload rfl rfl ?_
      refine R_iret rfl ?_
      exact hE _ (by congr 1; rw [hn]; congr 1; omega)
    · try simp only [ne_eq, b2i_e, b2i_1, Classical.not_not] at h7
      refine R_iload rfl rfl ?_
      refine R_aload rfl rfl rfl ?_
      refine T_getr (v := 31) rfl rfl rfl rfl ?_
      refine R_iload rfl rfl ?_
      refine T_ald rfl rfl (by omega) (by omega) ?_
      refine R_iload rfl rfl ?_
      refine R_inv rfl rfl rfl rfl rfl (sp_X9_byteOf d (by omega) _ _ _ ⟨by omega, by omega⟩) rfl ?_
      show pCm _ _ _ 21 _ [(0, _), (0, _)] _
      refine R_add rfl (by omega) (by omega) ?_
      refine R_istore rfl rfl ?_
      refine R_inc rfl rfl (by omega) (by omega) ?_
      refine R_goto rfl ?_
      exact ih (_, _) ⟨by dsimp only; omega, by dsimp only; omega, by dsimp only; rw [sumZ_s hk0]; first | omega | (rw [b2i_t (by omega)]; omega) | (rw [b2i_f (by omega)]; omega) | (rw [if_pos (by omega)]; omega) | (rw [if_neg (by omega)]; omega)⟩ (by dsimp only; omega)
  · exact ⟨Int.le_refl _, (by omega), sumZ_0.symm⟩
set_option maxRecDepth 20000 in
set_option maxHeartbeats 2000000 in
theorem sp_X1_fit (d : Nat) (hd : 2 ≤ d) (xs : List (Nat × Nat)) (t dd rr : Nat) (σ : Sg) (a b : Int) (ha : 0 ≤ a ∧ a < 320) (hb : 0 ≤ b ∧ b < 320) (hra : 0 ≤ σ 16 a ∧ σ 16 a ≤ 7) (hrb : 0 ≤ σ 16 b ∧ σ 16 b ≤ 7) : ∃ σ', Ev d 157 [(28, 0), (0, a), (0, b)] (Wd xs t dd rr σ) (0, fitZ (byt (σ 15 a)) (byt (σ 15 b)) (σ 16 a) (σ 16 b) 8) (Wd xs t dd rr σ') ∧ Fr [19, 20] [] σ σ' := by
  obtain ⟨d, rfl⟩ : ∃ e, d = e + 1 := ⟨d - 1, by omega⟩
  refine evS (nL := 8) (code := k_X1_fit) rfl dc_X1_fit rfl (fun E hE => ?_)
  show pCm (Ev d) k_X1_fit E 0 [(28, 0), (0, a), (0, b), (9, 0), (9, 0), (9, 0), (9, 0), (9, 0)] [] _
  refine R_push rfl ?_
  refine R_istore rfl rfl ?_
  refine fgt wc_X1_fit [1, 1, 1, 1, 0, 0, 0, 0] ?_
  refine loop (pc := 2) (α := Int × Sg) (fun a => (8 - a.1).toNat) (fun x => ([(28, 0), (0, a), (0, b), (0, x.1), (9, 0), (9, 0), (9, 0), (9, 0)], Wd xs t dd rr x.2)) (fun x => (0 ≤ x.1 ∧ x.1 ≤ 8) ∧ Fr [19, 20] [] σ x.2 ∧ ∀ i, 0 ≤ i → i < x.1 → x.2 19 i = byt (σ 15 a) i ∧ x.2 20 i = byt (σ 15 b) i) ?_ (0, σ) ?_
  · intro ⟨k, s1⟩ ⟨hk, hF, hv⟩ ih
    dsimp only at hk hF hv ⊢
    have ea := hF.row 15 rfl a
    have eb := hF.row 15 rfl b
    refine R_iload rfl rfl ?_
    refine R_push rfl ?_
    refine R_ic rfl (fun h5 => ?_) (fun h5 => ?_)
    · try simp only [ne_eq, b2i_e, b2i_1, Classical.not_not] at h5
      refine R_push rfl ?_
      refine R_istore rfl rfl ?_
      refine R_push rfl ?_
      refine R_istore rfl rfl ?_
      have hv : ∀ i, 0 ≤ i → i < 8 → s1 19 i = byt (σ 15 a) i ∧ s1 20 i = byt (σ 15 b) i := fun i i0 i1 => hv i i0 (by omega)
      have hbA : ∀ i, 0 ≤ i → i < 8 → 0 ≤ byt (σ 15 a) i ∧ byt (σ 15 a) i ≤ 255 := fun i _ _ => by have := byt_bd (r := σ 15 a) (k := i); omega
      have hbB : ∀ i, 0 ≤ i → i < 8 → 0 ≤ byt (σ 15 b) i ∧ byt (σ 15 b) i ≤ 255 := fun i _ _ => by have := byt_bd (r := σ 15 b) (k := i); omega
      have ra := hF.row 16 rfl a
      have rb := hF.row 16 rfl b
      clear ih hk h5 ea eb
      refine fgt wc_X1_fit [1, 1, 1, 1, 1, 0, 0, 0] ?_
      refine loop (pc := 52) (α := Int × Int) (fun x => (8 - x.2).toNat) (fun x => ([(28, 0), (0, a), (0, b), (0, x.1), (0, x.2), (9, 0), (9, 0), (9, 0)], Wd xs t dd rr s1)) (fun x => (0 ≤ x.2 ∧ x.2 ≤ 8) ∧ x.1 = fitZ (byt (σ 15 a)) (byt (σ 15 b)) (σ 16 a) (σ 16 b) x.2) ?_ (1000000, 0) ?_
      · intro ⟨n, r⟩ ⟨hr, hn⟩ ih
        dsimp only at hr hn ⊢
        have hfb := fitZ_bd (rf := σ 16 a) (rs := σ 16 b) hbA hbB r.toNat (by omega)
        rw [Int.toNat_of_nonneg hr.1, ← hn] at hfb
        have hgb := gsum_bd (rf := σ 16 a) (rs := σ 16 b) (r := r) hbA hbB
        refine R_iload rfl rfl ?_
        refine R_push rfl ?_
        refine R_ic rfl (fun h56 => ?_) (fun h56 => ?_)
        · try simp only [ne_eq, b2i_e, b2i_1, Classical.not_not] at h56
          refine R_iload rfl rfl ?_
          refine R_iret rfl ?_
          exact hE _ _ (by congr 1; rw [hn]; congr 1; omega) hF
        · try simp only [ne_eq, b2i_e, b2i_1, Classical.not_not] at h56
          refine R_iload rfl rfl ?_
          refine R_aload rfl rfl rfl ?_
          refine T_getr (v := 32) rfl rfl rfl rfl ?_
          refine R_iload rfl rfl ?_
          refine T_ald rfl rfl (by omega) (by omega) ?_
          rw [ra]
          refine R_sub rfl (by omega) (by omega) ?_
          refine R_aload rfl rfl rfl ?_
          refine T_getr (v := 32) rfl rfl rfl rfl ?_
          refine R_iload rfl rfl ?_
          refine T_ald rfl rfl (by omega) (by omega) ?_
          rw [rb]
          refine R_sub rfl (by omega) (by omega) ?_
          refine R_inv rfl rfl rfl rfl rfl (sp_X9_modEight d (by omega) _ _) rfl ?_
          show pCm _ _ _ 78 _ [(0, _)] _
          rw [modE _ (by omega)]
          refine R_istore rfl rfl ?_
          refine R_push rfl ?_
          refine R_iload rfl rfl ?_
          refine R_push rfl ?_
          refine R_iload rfl rfl ?_
          refine R_sub rfl (by omega) (by omega) ?_
          refine R_inv rfl rfl rfl rfl rfl (sp_J9_min_7cf53 d (by omega) _ _ _) rfl ?_
          show pCm _ _ _ 91 _ [(0, _), (0, _)] _
          refine R_mul rfl (by omega) (by omega) ?_
          refine R_istore rfl rfl ?_
          refine R_push rfl ?_
          refine R_istore rfl rfl ?_
          generalize hw : min ((r - σ 16 a - σ 16 b) % 8) (8 - (r - σ 16 a - σ 16 b) % 8) = wy
          have hw4 : 0 ≤ wy ∧ wy ≤ 4 := by omega
          refine loop (pc := 97) (α := Int × Int) (fun x => (8 - x.2).toNat) (fun x => ([(28, 0), (0, a), (0, b), (0, n), (0, r), (0, (r - σ 16 a - σ 16 b) % 8), (0, x.1), (0, x.2)], Wd xs t dd rr s1)) (fun x => (0 ≤ x.2 ∧ x.2 ≤ 8) ∧ x.1 = sumZ (fun k => dst (byt (σ 15 a) ((r - k) % 8)) (byt (σ 15 b) k)) x.2 + 5 * wy) ?_ (5 * wy, 0) ?_
          · intro ⟨c, k⟩ ⟨hk, hc⟩ ih2
            dsimp only at hk hc ⊢
            have hsb := sumZ_bd (f := fun k => dst (byt (σ 15 a) ((r - k) % 8)) (byt (σ 15 b) k)) (c := 255) hk.1 (fun i i0 i1 => dst_bd (hbA _ (by omega) (by omega)) (hbB i i0 (by omega)))
            have va := hv ((r - k) % 8) (by omega) (by omega)
            have vb := hv k hk.1
            have ba := hbA ((r - k) % 8) (by omega) (by omega)
            have bb := hbB k hk.1
            have bd := fun q => dst_bd ba (bb q)
            refine R_iload rfl rfl ?_
            refine R_push rfl ?_
            refine R_ic rfl (fun h101 => ?_) (fun h101 => ?_)
            · try simp only [ne_eq, b2i_e, b2i_1, Classical.not_not] at h101
              have hg : c = gsum (byt (σ 15 a)) (byt (σ 15 b)) (σ 16 a) (σ 16 b) r := by
                rw [hc, show k = 8 by omega, ← hw]; rfl
              refine R_iload rfl rfl ?_
              refine R_iload rfl rfl ?_
              refine R_push rfl ?_
              refine R_mul rfl (by omega) (by omega) ?_
              refine R_iload rfl rfl ?_
              refine R_add rfl (by omega) (by omega) ?_
              refine R_inv rfl rfl rfl rfl rfl (sp_J9_min_7cf53 d (by omega) _ _ _) rfl ?_
              show pCm _ _ _ 150 _ [(0, _)] _
              refine R_istore rfl rfl ?_
              refine R_inc rfl rfl (by omega) (by omega) ?_
              refine R_goto rfl ?_
              refine fgt wc_X1_fit [1, 1, 1, 1, 1, 0, 0, 0] ?_
              exact ih (_, r + 1) ⟨by dsimp only; omega, by dsimp only; rw [fitZ_s hr.1, ← hn, hg]; congr 1; omega⟩ (by dsimp only; omega)
            · try simp only [ne_eq, b2i_e, b2i_1, Classical.not_not] at h101
              refine R_iload rfl rfl ?_
              refine R_aload rfl rfl rfl ?_
              refine T_getr (v := 35) rfl rfl rfl rfl ?_
              refine R_iload rfl rfl ?_
              refine R_iload rfl rfl ?_
              refine R_sub rfl (by omega) (by omega) ?_
              refine R_inv rfl rfl rfl rfl rfl (sp_X9_modEight d (by omega) _ _) rfl ?_
              show pCm _ _ _ 118 _ [(0, _), (35, 0), (0, _)] _
              rw [modE _ (by omega)]
              refine T_ald rfl rfl (by omega) (by omega) ?_
              rw [va.1]
              refine R_aload rfl rfl rfl ?_
              refine T_getr (v := 36) rfl rfl rfl rfl ?_
              refine R_iload rfl rfl ?_
              refine T_ald rfl rfl (by omega) (by omega) ?_
              have vb := vb (by omega)
              have bb := bb (by omega)
              have bd := bd (by omega)
              rw [vb.2]
              refine R_inv rfl rfl rfl rfl rfl (sp_X9_apart d (by omega) _ _ _ ⟨by omega, by omega⟩ ⟨by omega, by omega⟩) rfl ?_
              show pCm _ _ _ 129 _ [(0, _), (0, _)] _
              show pCm _ _ _ _ _ ((0, dst _ _) :: _) _
              refine R_add rfl (by omega) (by omega) ?_
              refine R_istore rfl rfl ?_
              refine R_inc rfl rfl (by omega) (by omega) ?_
              refine R_goto rfl ?_
              exact ih2 (_, k + 1) ⟨by dsimp only; omega, by
                dsimp only
                rw [sumZ_s hk.1, hc]
                show _ + dst _ _ = _
                omega⟩ (by dsimp only; omega)
          · exact ⟨by dsimp only; omega, by dsimp only; rw [sumZ_0]; omega⟩
      · exact ⟨by dsimp only; omega, rfl⟩
    · try simp only [ne_eq, b2i_e, b2i_1, Classical.not_not] at h5
      refine R_aload rfl rfl rfl ?_
      refine T_getr (v := 35) rfl rfl rfl rfl ?_
      refine R_iload rfl rfl ?_
      refine R_aload rfl rfl rfl ?_
      refine T_getr (v := 31) rfl rfl rfl rfl ?_
      refine R_iload rfl rfl ?_
      refine T_ald rfl rfl (by omega) (by omega) ?_
      rw [ea]
      refine R_iload rfl rfl ?_
      refine R_inv rfl rfl rfl rfl rfl (sp_X9_byteOf d (by omega) _ _ _ ⟨by omega, by omega⟩) rfl ?_
      show pCm _ _ _ 23 _ [(0, _), (0, _), (35, 0)] _
      refine T_iast rfl rfl (by omega) (by omega) ?_
      refine R_aload rfl rfl rfl ?_
      refine T_getr (v := 36) rfl rfl rfl rfl ?_
      refine R_iload rfl rfl ?_
      refine R_aload rfl rfl rfl ?_
      refine T_getr (v := 31) rfl rfl rfl rfl ?_
      refine R_iload rfl rfl ?_
      refine T_ald rfl rfl (by omega) (by omega) ?_
      rw [up_k (by decide), eb]
      refine R_iload rfl rfl ?_
      refine R_inv rfl rfl rfl rfl rfl (sp_X9_byteOf d (by omega) _ _ _ ⟨by omega, by omega⟩) rfl ?_
      show pCm _ _ _ 39 _ [(0, _), (0, _), (36, 0)] _
      refine T_iast rfl rfl (by omega) (by omega) ?_
      refine R_inc rfl rfl (by omega) (by omega) ?_
      refine R_goto rfl ?_
      generalize hs3 : up2 (up2 s1 19 k _) 20 k _ = s3
      refine ih (k + 1, s3) ⟨by dsimp only; omega, by rw [← hs3]; exact (hF.upr rfl).upr rfl, fun p h0 h1 => ?_⟩ (by dsimp only; omega)
      dsimp only at h1 ⊢
      rw [← hs3]
      by_cases q : p = k
      · simp [up2, q]
      · have := hv p h0 (by omega)
        simp [up2, q, this]
  · exact ⟨by dsimp only; omega, Fr.rf, fun p h0 h1 => by dsimp only at h1; omega⟩
set_option maxRecDepth 20000 in
set_option maxHeartbeats 2000000 in
theorem sp_X10_measures (d : Nat) (hd : 2 ≤ d) (xs : List (Nat × Nat)) (t dd rr : Nat) (σ : Sg) (f g : Int) (hf : 0 ≤ f ∧ f < 320) (hg : 0 ≤ g ∧ g < 320) (hf2 : ∀ k, 0 ≤ k → k < 8 → 0 ≤ σ 100 (8 * f + k) ∧ σ 100 (8 * f + k) ≤ 255) (hg2 : ∀ k, 0 ≤ k → k < 8 → 0 ≤ σ 100 (8 * g + k) ∧ σ 100 (8 * g + k) ≤ 255) (hra : 0 ≤ σ 101 f ∧ σ 101 f ≤ 7) (hrb : 0 ≤ σ 101 g ∧ σ 101 g ≤ 7) : ∃ σ', Ev d 72 [(87, 0), (0, f), (0, g)] (Wd xs t dd rr σ) (8, 0) (Wd xs t dd rr σ') ∧ Fr [] [(71, 41), (71, 42)] σ σ' ∧ σ' 71 41 = fitZ (fun k => σ 100 (8 * f + k)) (fun k => σ 100 (8 * g + k)) (σ 101 f) (σ 101 g) 8 / 8 ∧ σ' 71 42 = fitZ (fun k => σ 100 (8 * f + k)) (fun k => σ 100 (8 * g + k)) (σ 101 f) (σ 101 g) 8 % 8 := by
  obtain ⟨d, rfl⟩ : ∃ e, d = e + 1 := ⟨d - 1, by omega⟩
  refine evS (nL := 6) (code := k_X10_measures) rfl dc_X10_measures rfl (fun E hE => ?_)
  show pCm (Ev d) k_X10_measures E 0 [(87, 0), (0, f), (0, g), (9, 0), (9, 0), (9, 0)] [] _
  refine R_aload rfl rfl rfl ?_
  refine R_push rfl ?_
  refine T_puti rfl rfl rfl ?_
  refine R_push rfl ?_
  refine R_istore rfl rfl ?_
  generalize hs0 : up2 σ 71 41 (-1) = s0
  have hF0 : Fr [] [(71, 41), (71, 42)] σ s0 := by rw [← hs0]; exact Fr.rf.up rfl
  have hg0 : s0 71 41 = -1 := by rw [← hs0, up_s]
  refine fgt wc_X10_measures [1, 1, 1, 1, 0, 0] ?_
  refine loop (pc := 7) (α := Int × Sg) (fun x => (8 - x.1).toNat) (fun x => ([(87, 0), (0, f), (0, g), (0, x.1), (9, 0), (9, 0)], Wd xs t dd rr x.2)) (fun x => (0 ≤ x.1 ∧ x.1 ≤ 8) ∧ Fr [] [(71, 41), (71, 42)] σ x.2 ∧ (x.1 = 0 ∧ x.2 71 41 = -1 ∨ 1 ≤ x.1 ∧ 8 * x.2 71 41 + x.2 71 42 = fitZ (fun k => σ 100 (8 * f + k)) (fun k => σ 100 (8 * g + k)) (σ 101 f) (σ 101 g) x.1 ∧ 0 ≤ x.2 71 42 ∧ x.2 71 42 < x.1 ∧ 0 ≤ x.2 71 41)) ?_ (0, s0) ?_
  · intro ⟨r, s1⟩ ⟨hr, hF, hn⟩ ih
    dsimp only at hr hF hn ⊢
    have ra := hF.at 101 f rfl
    have rb := hF.at 101 g rfl
    have hgb := gsum_bd (rf := σ 101 f) (rs := σ 101 g) (r := r) hf2 hg2
    have hfb := fitZ_bd (rf := σ 101 f) (rs := σ 101 g) hf2 hg2 r.toNat (by omega)
    rw [Int.toNat_of_nonneg hr.1] at hfb
    have hfs := fitZ_s (F := fun k => σ 100 (8 * f + k)) (S := fun k => σ 100 (8 * g + k)) (rf := σ 101 f) (rs := σ 101 g) hr.1
    refine R_iload rfl rfl ?_
    refine R_push rfl ?_
    refine R_ic rfl (fun h10 => ?_) (fun h10 => ?_)
    · try simp only [ne_eq, b2i_e, b2i_1, Classical.not_not] at h10
      refine R_vret rfl ?_
      refine hE _ _ rfl ⟨hF, ?_⟩
      rw [show r = 8 by omega] at hn
      omega
    · try simp only [ne_eq, b2i_e, b2i_1, Classical.not_not] at h10
      refine R_push rfl ?_
      refine R_istore rfl rfl ?_
      refine R_push rfl ?_
      refine R_istore rfl rfl ?_
      refine loop (pc := 19) (α := Int × Int) (fun x => (8 - x.2).toNat) (fun x => ([(87, 0), (0, f), (0, g), (0, r), (0, x.1), (0, x.2)], Wd xs t dd rr s1)) (fun x => (0 ≤ x.2 ∧ x.2 ≤ 8) ∧ x.1 = sumZ (fun k => dst (σ 100 (8 * f + (r - k) % 8)) (σ 100 (8 * g + k))) x.2) ?_ (0, 0) ?_
      · intro ⟨c, k⟩ ⟨hk, hc⟩ ih2
        dsimp only at hk hc ⊢
        have hsb := sumZ_bd (f := fun k => dst (σ 100 (8 * f + (r - k) % 8)) (σ 100 (8 * g + k))) (c := 255) hk.1 (fun i i0 i1 => dst_bd (hf2 _ (by omega) (by omega)) (hg2 i i0 (by omega)))
        have va := hF.at 100 (8 * f + (r - k) % 8) rfl
        have vb := hF.at 100 (8 * g + k) rfl
        have ba := hf2 ((r - k) % 8) (by omega) (by omega)
        have bb := hg2 k hk.1
        have bd := fun q => dst_bd ba (bb q)
        refine R_iload rfl rfl ?_
        refine R_push rfl ?_
        refine R_ic rfl (fun h23 => ?_) (fun h23 => ?_)
        · try simp only [ne_eq, b2i_e, b2i_1, Classical.not_not] at h23
          refine R_iload rfl rfl ?_
          refine R_aload rfl rfl rfl ?_
          refine T_getr (v := 117) rfl rfl rfl rfl ?_
          refine R_iload rfl rfl ?_
          refine T_ald rfl rfl (by omega) (by omega) ?_
          rw [ra]
          refine R_sub rfl (by omega) (by omega) ?_
          refine R_push rfl ?_
          refine R_add rfl (by omega) (by omega) ?_
          refine R_push rfl ?_
          refine R_rm rfl (by omega) (by omega) (by omega) ?_
          refine R_aload rfl rfl rfl ?_
          refine T_getr (v := 117) rfl rfl rfl rfl ?_
          refine R_iload rfl rfl ?_
          refine T_ald rfl rfl (by omega) (by omega) ?_
          rw [rb]
          refine R_inv rfl rfl rfl rfl rfl (sp_X10_far d (by omega) _ _ _ ⟨by omega, by omega⟩ ⟨by omega, by omega⟩) rfl ?_
          show pCm _ _ _ 95 _ [(0, _)] _
          show pCm _ _ _ _ _ ((0, dst _ _) :: _) _
          generalize hway : dst _ _ = way
          unfold dst at hway
          have hw7 : 0 ≤ way ∧ way ≤ 7 := by split at hway <;> omega
          refine R_istore rfl rfl ?_
          refine R_iload rfl rfl ?_
          refine R_push rfl ?_
          refine R_iload rfl rfl ?_
          refine R_push rfl ?_
          have J118 : ∀ v : Int, v = gsum (fun k => σ 100 (8 * f + k)) (fun k => σ 100 (8 * g + k)) (σ 101 f) (σ 101 g) r → pCm (Ev d) k_X10_measures E 118 [(87, 0), (0, f), (0, g), (0, r), (0, c), (0, way)] [(0, v)] (Wd xs t dd rr s1) := by
            intro v hv
            refine R_istore rfl rfl ?_
            refine R_aload rfl rfl rfl ?_
            refine T_geti rfl rfl rfl ?_
            refine R_if rfl (fun h124 => ?_) (fun h124 => ?_)
            · try simp only [ne_eq, b2i_e, b2i_1, Classical.not_not] at h124
              refine R_aload rfl rfl rfl ?_
              refine R_iload rfl rfl ?_
              refine T_puti rfl rfl rfl ?_
              refine R_aload rfl rfl rfl ?_
              refine R_iload rfl rfl ?_
              refine T_puti rfl rfl rfl ?_
              generalize hs4 : up2 (up2 s1 71 41 _) 71 42 _ = s4
              have g41 : s4 71 41 = v := by rw [← hs4]; simp [up2]
              have g42 : s4 71 42 = r := by rw [← hs4]; simp [up2]
              refine R_inc rfl rfl (by omega) (by omega) ?_
              refine R_goto rfl ?_
              refine fgt wc_X10_measures [1, 1, 1, 1, 0, 0] ?_
              exact ih (r + 1, s4) ⟨by dsimp only; omega, by rw [← hs4]; exact (hF.up rfl).up rfl, by dsimp only; omega⟩ (by dsimp only; omega)
            · try simp only [ne_eq, b2i_e, b2i_1, Classical.not_not] at h124
              refine R_iload rfl rfl ?_
              refine R_aload rfl rfl rfl ?_
              refine T_geti rfl rfl rfl ?_
              refine R_ic rfl (fun h133 => ?_) (fun h133 => ?_)
              · try simp only [ne_eq, b2i_e, b2i_1, Classical.not_not] at h133
                refine R_inc rfl rfl (by omega) (by omega) ?_
                refine R_goto rfl ?_
                refine fgt wc_X10_measures [1, 1, 1, 1, 0, 0] ?_
                exact ih (r + 1, s1) ⟨by dsimp only; omega, hF, by dsimp only; omega⟩ (by dsimp only; omega)
              · try simp only [ne_eq, b2i_e, b2i_1, Classical.not_not] at h133
                refine R_aload rfl rfl rfl ?_
                refine R_iload rfl rfl ?_
                refine T_puti rfl rfl rfl ?_
                refine R_aload rfl rfl rfl ?_
                refine R_iload rfl rfl ?_
                refine T_puti rfl rfl rfl ?_
                generalize hs4 : up2 (up2 s1 71 41 _) 71 42 _ = s4
                have g41 : s4 71 41 = v := by rw [← hs4]; simp [up2]
                have g42 : s4 71 42 = r := by rw [← hs4]; simp [up2]
                refine R_inc rfl rfl (by omega) (by omega) ?_
                refine R_goto rfl ?_
                refine fgt wc_X10_measures [1, 1, 1, 1, 0, 0] ?_
                exact ih (r + 1, s4) ⟨by dsimp only; omega, by rw [← hs4]; exact (hF.up rfl).up rfl, by dsimp only; omega⟩ (by dsimp only; omega)
          refine R_ic rfl (fun h103 => ?_) (fun h103 => ?_)
          · try simp only [ne_eq, b2i_e, b2i_1, Classical.not_not] at h103
            refine R_iload rfl rfl ?_
            refine R_mul rfl (by omega) (by omega) ?_
            refine R_add rfl (by omega) (by omega) ?_
            exact J118 _ (by
              unfold gsum
              have hc8 : c = sumZ (fun k => dst (σ 100 (8 * f + (r - k) % 8)) (σ 100 (8 * g + k))) 8 := by rw [hc]; congr 1; omega
              rw [← hc8]
              omega)
          · try simp only [ne_eq, b2i_e, b2i_1, Classical.not_not] at h103
            refine R_push rfl ?_
            refine R_iload rfl rfl ?_
            refine R_sub rfl (by omega) (by omega) ?_
            refine R_goto rfl ?_
            refine R_mul rfl (by omega) (by omega) ?_
            refine R_add rfl (by omega) (by omega) ?_
            exact J118 _ (by
              unfold gsum
              have hc8 : c = sumZ (fun k => dst (σ 100 (8 * f + (r - k) % 8)) (σ 100 (8 * g + k))) 8 := by rw [hc]; congr 1; omega
              rw [← hc8]
              omega)
        · try simp only [ne_eq, b2i_e, b2i_1, Classical.not_not] at h23
          refine R_iload rfl rfl ?_
          refine R_aload rfl rfl rfl ?_
          refine T_getr (v := 116) rfl rfl rfl rfl ?_
          refine R_push rfl ?_
          refine R_iload rfl rfl ?_
          refine R_mul rfl (by omega) (by omega) ?_
          refine R_iload rfl rfl ?_
          refine R_iload rfl rfl ?_
          refine R_sub rfl (by omega) (by omega) ?_
          refine R_push rfl ?_
          refine R_add rfl (by omega) (by omega) ?_
          refine R_push rfl ?_
          refine R_rm rfl (by omega) (by omega) (by omega) ?_
          rw [show (r - k + 8) % 8 = (r - k) % 8 by omega]
          refine R_add rfl (by omega) (by omega) ?_
          refine T_ald rfl rfl (by omega) (by omega) ?_
          rw [va]
          refine R_aload rfl rfl rfl ?_
          refine T_getr (v := 116) rfl rfl rfl rfl ?_
          refine R_push rfl ?_
          refine R_iload rfl rfl ?_
          refine R_mul rfl (by omega) (by omega) ?_
          refine R_iload rfl rfl ?_
          refine R_add rfl (by omega) (by omega) ?_
          refine T_ald rfl rfl (by omega) (by omega) ?_
          have bb := bb (by omega)
          have bd := bd (by omega)
          rw [vb]
          refine R_inv rfl rfl rfl rfl rfl (sp_X10_far d (by omega) _ _ _ ⟨by omega, by omega⟩ ⟨by omega, by omega⟩) rfl ?_
          show pCm _ _ _ 63 _ [(0, _), (0, _)] _
          show pCm _ _ _ _ _ ((0, dst _ _) :: _) _
          refine R_add rfl (by omega) (by omega) ?_
          refine R_istore rfl rfl ?_
          refine R_inc rfl rfl (by omega) (by omega) ?_
          refine R_goto rfl ?_
          exact ih2 (_, k + 1) ⟨by dsimp only; omega, by
            dsimp only
            rw [sumZ_s hk.1, hc]⟩ (by dsimp only; omega)
      · exact ⟨by dsimp only; omega, rfl⟩
  · exact ⟨by dsimp only; omega, hF0, Or.inl ⟨rfl, hg0⟩⟩

/-- what the class's tokens rest on -/
def ACx (σ : Sg) (B : Nat) (c wd : Int → Int) (n m M : Int) (nm : Int → Int) : Prop := (σ 53 = c ∧ σ 52 0 = n) ∧ NT c n m ∧ n ≤ 1000 ∧ (∀ i, 0 ≤ i → i < n → 0 ≤ c i ∧ c i ≤ 127) ∧ (∀ w, 0 ≤ w → w < 8 → σ 54 w = wvl 32 (wdg w) (wln w)) ∧ (∀ w, 0 ≤ w → w < 12 → σ 55 w = wvl 32 (wdg (8 + w)) (wln (8 + w))) ∧ (∀ w, 0 ≤ w → w < 20 → wd w = wvl 37 (wdg w) (wln w)) ∧ σ B 1 = M ∧ (0 ≤ M ∧ M ≤ 8) ∧ NMr σ c n m M nm ∧ ∀ a b, 0 ≤ a → a < b → b < M → nm a ≠ nm b
theorem let_b {c : Int → Int} {n p i : Int} (hp : p < n) (hL : isL c p = 1) (i0 : 0 ≤ i) (i1 : i < ten c n p - p) : 1 ≤ c (p + i) - 96 ∧ c (p + i) - 96 ≤ 26 := by
  have et : ten c n p = RN (isL c) n p := by unfold ten; rw [if_pos hL]
  have hrk := RN_ok (p := isL c) (n := n) (n - p).toNat p (by omega)
  rw [et] at i1
  have hq := hrk.2.2.1 (p + i) (by omega) (by omega)
  unfold isL b2i at hq
  split at hq
  · omega
  · omega
theorem pl_s {c : Int → Int} {n m j : Int} (h : NT c n m) (h0 : 0 ≤ j) (h1 : j < m) : skp c n (ten c n (plT c n m j)) = plT c n m (j + 1) ∧ plT c n m j < n ∧ 0 ≤ plT c n m j := by
  have e1 : plT c n m j = plz c n j := by unfold plT; rw [if_pos ⟨h0, h1⟩]
  have hb := plz_c h h0 (by omega)
  rw [e1, ← plz_s h0]
  refine ⟨?_, h.2.2 j h0 h1, hb.1⟩
  unfold plT
  by_cases q : j + 1 < m
  · rw [if_pos ⟨by omega, q⟩]
  · rw [if_neg (by omega), show j + 1 = m by omega]; exact h.2.1
/-- the names of a class and of the reference: the same one is found -/
theorem nm_eT {σ : Sg} {c nm : Int → Int} {n m M q : Int} (h : NT c n m) (hM : 0 ≤ M) (hN : NMr σ c n m M nm) (hd : ∀ a b, 0 ≤ a → a < b → b < M → nm a ≠ nm b) (q0 : 0 ≤ q) (q1 : q < m) (hs : soT c n m q = 1) : fnd (σ 56) (ltT c n m q) M = idx nm M (vaT c n m q) := by
  have key : ∀ a, 0 ≤ a → a < m → soT c n m a = 1 → isL c (plT c n m a) = 1 ∧ plT c n m a < n ∧ ten c n (plT c n m a) - plT c n m a ≤ 8 ∧ 0 ≤ ten c n (plT c n m a) - plT c n m a ∧ vaT c n m a = wvl 37 (fun i => c (plT c n m a + i) - 96) (ten c n (plT c n m a) - plT c n m a) := fun a a0 a1 ha => by
    have e1 : plT c n m a = plz c n a := by unfold plT; rw [if_pos ⟨a0, a1⟩]
    have hl := h.2.2 a a0 a1
    have ht := ten_ok (c := c) hl
    unfold soT at ha
    unfold vaT
    rw [if_pos ⟨a0, a1⟩] at ha ⊢
    rw [e1]
    unfold tso at ha
    by_cases z : isL c (plz c n a) = 1
    · rw [if_pos z] at ha
      by_cases y : 8 < ten c n (plz c n a) - plz c n a
      · rw [if_pos y] at ha; omega
      · refine ⟨z, hl, by omega, by omega, ?_⟩
        unfold tva
        rw [if_pos z, show min (ten c n (plz c n a) - plz c n a) 8 = ten c n (plz c n a) - plz c n a by omega]
    · exfalso
      rw [if_neg z] at ha
      split at ha
      · split at ha <;> omega
      · split at ha <;> omega
  have hiff : ∀ a, 0 ≤ a → a < m → soT c n m a = 1 → (vaT c n m a = vaT c n m q ↔ ltT c n m a = ltT c n m q) := fun a a0 a1 ha => by
    obtain ⟨b1, b2, b3, b4, b5⟩ := key a a0 a1 ha
    obtain ⟨d1, d2, d3, d4, d5⟩ := key q q0 q1 hs
    rw [b5, d5]
    unfold ltT
    exact wv_32 b4 d4 (fun i i0 i1 => let_b b2 b1 i0 i1) (fun i i0 i1 => let_b d2 d1 i0 i1)
  have hk : ∀ k, 0 ≤ k → k < M → (σ 56 k = ltT c n m q ↔ nm k = vaT c n m q) := fun k k0 k1 => by
    obtain ⟨a, a0, a1, ha, e1, e2⟩ := hN k k0 k1
    rw [e1, e2]
    exact (hiff a a0 a1 ha).symm
  rcases idx_c (R := nm) (T := M) (y := vaT c n m q) hM with z | z
  · rw [z.1]
    exact fnd_no hM (fun k k0 k1 w => z.2 k k0 k1 ((hk k k0 k1).mp w))
  · refine fnd_is z.1 z.2.1 ((hk _ z.1 z.2.1).mpr z.2.2) (fun k k0 k1 w => ?_)
    exact hd k _ k0 k1 z.2.1 (((hk k k0 (by omega)).mp w).trans z.2.2.symm)
set_option maxHeartbeats 1000000 in
/-- the class's token at a place of the tape is the tape's -/
theorem tok_T {s s' : Sg} {B : Nat} {c wd nm : Int → Int} {n m M j : Int} (hA : ACx s B c wd n m M nm) (j0 : 0 ≤ j) (j1 : j ≤ m) (h : ADP s s' n M (plT c n m j)) : s' 52 4 = tkT c wd n m j ∧ s' 52 7 = twN (nwT c wd n m) (t0T c wd n m) (vaT c n m) nm M j ∧ (tkT c wd n m j ≠ 0 → s' 52 6 = ten c n (plT c n m j) ∧ (tkT c wd n m j = 3 → s' 52 8 = ltT c n m j)) := by
  obtain ⟨⟨h53, h52⟩, hN, hn, hch, h54, h55, h76, hM, hM0, hNM, hnd⟩ := hA
  obtain ⟨-, -, a3, a4⟩ := h
  rw [h53] at a4
  by_cases q : j < m
  · have e1 : plT c n m j = plz c n j := by unfold plT; rw [if_pos ⟨j0, q⟩]
    have hpn : plT c n m j < n := by rw [e1]; exact hN.2.2 j j0 q
    obtain ⟨b6, bL, bD, bO⟩ := a4 hpn
    have hso : soT c n m j = tso c n (plT c n m j) := by unfold soT; rw [if_pos ⟨j0, q⟩, e1]
    have hva : vaT c n m j = tva c n (plT c n m j) := by unfold vaT; rw [if_pos ⟨j0, q⟩, e1]
    have hte := ten_ok (c := c) hpn
    show s' 52 4 = tkF (soT c n m) (vaT c n m) wd j ∧ s' 52 7 = twN (nwF (soT c n m) (vaT c n m) wd) (t0F (soT c n m) (vaT c n m) wd) (vaT c n m) nm M j ∧ (tkF (soT c n m) (vaT c n m) wd j ≠ 0 → s' 52 6 = ten c n (plT c n m j) ∧ (tkF (soT c n m) (vaT c n m) wd j = 3 → s' 52 8 = ltT c n m j))
    by_cases zL : isL c (plT c n m j) = 1
    · obtain ⟨c4, c7, c8⟩ := bL zL
      by_cases y : 8 < ten c n (plT c n m j) - plT c n m j
      · have hs : soT c n m j = 4 := by rw [hso]; unfold tso; rw [if_pos zL, if_pos y]
        rw [if_pos y] at c4 c7
        unfold tkF twN nwF t0F
        rw [hs, b2i_f (by omega), if_neg (by omega), if_neg (by omega), if_neg (by omega), if_neg (by omega), if_neg (by omega), if_neg (by omega), if_neg (by omega)]
        exact ⟨c4, c7, fun _ => ⟨b6, fun w => by omega⟩⟩
      · have hs : soT c n m j = 1 := by rw [hso]; unfold tso; rw [if_pos zL, if_neg y]
        rw [if_neg y] at c4 c7
        have hv : vaT c n m j = wvl 37 (fun i => c (plT c n m j + i) - 96) (ten c n (plT c n m j) - plT c n m j) := by rw [hva]; unfold tva; rw [if_pos zL, show min (ten c n (plT c n m j) - plT c n m j) 8 = ten c n (plT c n m j) - plT c n m j by omega]
        have hnm := nm_eT (σ := s) hN hM0.1 hNM hnd j0 q hs
        have hkw := kw_eq (r76 := wd) (r54 := s 54) (r55 := s 55) (f := fun i => c (plT c n m j + i) - 96) (l := ten c n (plT c n m j) - plT c n m j) (by omega) (fun i i0 i1 => let_b hpn zL i0 i1) h76 h54 h55
        rw [← hv] at hkw
        have hlt : wvl 32 (fun i => c (plT c n m j + i) - 96) (ten c n (plT c n m j) - plT c n m j) = ltT c n m j := rfl
        rw [hlt] at c4 c7 c8 hkw
        rw [hnm] at c4 c7
        have c8 := c8 y
        unfold tkF twN nwF t0F
        rw [hs]
        unfold wtk at c4
        unfold wtw at c7
        rcases hkw with ⟨k1, k2, k3⟩ | ⟨k1, k2⟩ | ⟨k1, k2, k3⟩
        · rw [if_neg (by omega), if_neg (by omega)] at c4 c7
          rw [b2i_t ⟨rfl, k1⟩, if_neg (by omega), if_neg (by omega), if_neg (by omega), if_pos rfl, if_pos k1, if_pos rfl]
          exact ⟨c4, c7, fun _ => ⟨b6, fun _ => c8⟩⟩
        · rw [if_pos (by omega)] at c4 c7
          rw [b2i_f (by omega), if_neg (by omega), if_neg (by omega), if_neg (by omega), if_pos rfl, if_neg (by omega), if_pos k1.2, if_neg (by omega), if_neg (by omega), if_pos rfl, if_neg (by omega), if_pos k1.2]
          exact ⟨by rw [c4, k2], c7, fun _ => ⟨b6, fun w => by omega⟩⟩
        · rw [if_neg (by omega), if_pos (by omega)] at c4 c7
          rw [b2i_f (by omega), if_neg (by omega), if_neg (by omega), if_neg (by omega), if_pos rfl, if_neg (by omega), if_neg (by omega), if_neg (by omega), if_neg (by omega), if_pos rfl, if_neg (by omega), if_neg (by omega)]
          exact ⟨c4, by rw [c7, k3], fun _ => ⟨b6, fun w => by omega⟩⟩
    · by_cases zD : isD c (plT c n m j) = 1
      · obtain ⟨c4, c7⟩ := bD zL zD
        by_cases y : 4 < ten c n (plT c n m j) - plT c n m j
        · have hs : soT c n m j = 4 := by rw [hso]; unfold tso; rw [if_neg zL, if_pos zD, if_pos y]
          rw [if_pos y] at c4 c7
          unfold tkF twN nwF t0F
          rw [hs, b2i_f (by omega), if_neg (by omega), if_neg (by omega), if_neg (by omega), if_neg (by omega), if_neg (by omega), if_neg (by omega), if_neg (by omega)]
          exact ⟨c4, c7, fun _ => ⟨b6, fun w => by omega⟩⟩
        · have hs : soT c n m j = 2 := by rw [hso]; unfold tso; rw [if_neg zL, if_pos zD, if_neg y]
          have hv : vaT c n m j = dvl (fun i => c (plT c n m j + i) - 48) (ten c n (plT c n m j) - plT c n m j) := by rw [hva]; unfold tva; rw [if_neg zL, if_pos zD, show min (ten c n (plT c n m j) - plT c n m j) 4 = ten c n (plT c n m j) - plT c n m j by omega]
          rw [if_neg y] at c4 c7
          unfold tkF twN nwF t0F
          rw [hs, b2i_f (by omega), if_neg (by omega), if_pos rfl, if_neg (by omega), if_pos rfl, hv]
          exact ⟨c4, c7, fun _ => ⟨b6, fun w => by omega⟩⟩
      · obtain ⟨c4, c7⟩ := bO zL zD
        by_cases y : isG (c (plT c n m j)) = 1
        · have hs : soT c n m j = 3 := by rw [hso]; unfold tso; rw [if_neg zL, if_neg zD, if_pos y]
          have hv : vaT c n m j = c (plT c n m j) := by rw [hva]; unfold tva; rw [if_neg zL, if_neg zD]
          have hg := isG_b y
          rw [if_pos y] at c4
          unfold tkF twN nwF t0F
          rw [hs, b2i_f (by omega), if_neg (by omega), if_neg (by omega), if_pos rfl, if_neg (by omega), if_neg (by omega), if_neg (by omega), hv]
          exact ⟨c4, c7, fun _ => ⟨b6, fun w => by omega⟩⟩
        · have hs : soT c n m j = 4 := by rw [hso]; unfold tso; rw [if_neg zL, if_neg zD, if_neg y]
          rw [if_neg y] at c4
          unfold tkF twN nwF t0F
          rw [hs, b2i_f (by omega), if_neg (by omega), if_neg (by omega), if_neg (by omega), if_neg (by omega), if_neg (by omega), if_neg (by omega), if_neg (by omega)]
          exact ⟨c4, c7, fun _ => ⟨b6, fun w => by omega⟩⟩
  · have e1 : plT c n m j = n := by unfold plT; rw [if_neg (by omega)]
    obtain ⟨c4, c7⟩ := a3 (by omega)
    have hs : soT c n m j = 0 := by unfold soT; rw [if_neg (by omega)]
    show s' 52 4 = tkF (soT c n m) (vaT c n m) wd j ∧ s' 52 7 = twN (nwF (soT c n m) (vaT c n m) wd) (t0F (soT c n m) (vaT c n m) wd) (vaT c n m) nm M j ∧ (tkF (soT c n m) (vaT c n m) wd j ≠ 0 → s' 52 6 = ten c n (plT c n m j) ∧ (tkF (soT c n m) (vaT c n m) wd j = 3 → s' 52 8 = ltT c n m j))
    unfold tkF twN nwF t0F
    rw [hs, if_pos rfl, b2i_f (by omega), if_neg (by omega), if_neg (by omega), if_neg (by omega)]
    exact ⟨c4, c7, fun w => absurd rfl w⟩
theorem CTk_T {c wd nm : Int → Int} {n m M : Int} (hN : NT c n m) (hn : n ≤ 1000) (hM : 0 ≤ M ∧ M ≤ 8) : CTk (tkT c wd n m) (twN (nwT c wd n m) (t0T c wd n m) (vaT c n m) nm M) (plT c n m) m := by
  have hTP := TP_t (wd := wd) hN
  have h3 : ∀ j, soT c n m j = 3 → 40 ≤ vaT c n m j ∧ vaT c n m j ≤ 61 := fun j z => by
    unfold soT at z
    unfold vaT
    by_cases q : 0 ≤ j ∧ j < m
    · rw [if_pos q] at z ⊢
      exact isG_b ((tso_c (hN.2.2 j q.1 q.2)).2.1 z).1
    · rw [if_neg q] at z; omega
  have h2 : ∀ j, soT c n m j = 2 → 0 ≤ vaT c n m j ∧ vaT c n m j ≤ 9999 := fun j z => by
    unfold soT at z
    unfold vaT
    by_cases q : 0 ≤ j ∧ j < m
    · rw [if_pos q] at z ⊢
      exact (tso_c (hN.2.2 j q.1 q.2)).2.2 z
    · rw [if_neg q] at z; omega
  have ht0 : ∀ j, -1 ≤ t0T c wd n m j ∧ t0T c wd n m j ≤ 9999 := fun j => by
    have hf := fnd_bd (r := wd) (v := vaT c n m j) (n := 20) (by omega)
    show -1 ≤ t0F (soT c n m) (vaT c n m) wd j ∧ t0F (soT c n m) (vaT c n m) wd j ≤ 9999
    unfold t0F
    split
    · have := h2 j (by assumption); omega
    · split
      · split
        · omega
        · split <;> omega
      · omega
  refine ⟨fun j => ?_, fun j => ?_, ⟨hN.1.1, by have := hN.1; omega⟩, hTP.1, fun j => (hTP.2 j).1, fun j hj => ?_⟩
  · have hf := fnd_bd (r := wd) (v := vaT c n m j) (n := 20) (by omega)
    show tkF (soT c n m) (vaT c n m) wd j ≤ 255 ∧ 0 ≤ tkF (soT c n m) (vaT c n m) wd j
    unfold tkF
    split
    · omega
    · split
      · omega
      · split
        · have := h3 j (by assumption); omega
        · split
          · split
            · omega
            · split <;> omega
          · omega
  · unfold twN
    split
    · rcases idx_c (R := nm) (T := M) (y := vaT c n m j) hM.1 with y | y <;> omega
    · exact ht0 j
  · unfold twN
    have hn1 : nwT c wd n m j ≠ 1 := fun w => by
      have := (hTP.2 j).2.1.mpr w
      have hj : tkF (soT c n m) (vaT c n m) wd j = 135 := hj
      omega
    rw [if_neg hn1]
    have hj : tkF (soT c n m) (vaT c n m) wd j = 135 := hj
    show t0F (soT c n m) (vaT c n m) wd j = 0
    have hf := fnd_bd (r := wd) (v := vaT c n m j) (n := 20) (by omega)
    have h3j := h3 j
    unfold tkF at hj
    unfold t0F
    generalize soT c n m j = so at *
    generalize vaT c n m j = va at *
    split at hj
    · omega
    · split at hj
      · omega
      · split at hj
        · have := h3j (by assumption); omega
        · split at hj
          · split at hj
            · omega
            · split at hj
              · rw [if_neg (by assumption), if_pos (by assumption), if_neg (by assumption), if_pos (by assumption)]
              · omega
          · omega
theorem plT_b {c : Int → Int} {n m j : Int} (h : NT c n m) (h0 : 0 ≤ j) (h1 : j ≤ m) : 0 ≤ plT c n m j ∧ plT c n m j ≤ n := by
  unfold plT
  have hb := plz_c h h0 h1
  have := h.1
  split
  · exact hb
  · omega
theorem ADV_T_37 {σ : Sg} {c wd nm : Int → Int} {n m M c0 : Int} (hA : ACx σ 37 c wd n m M nm) : ADV 6 53 σ (tkT c wd n m) (twN (nwT c wd n m) (t0T c wd n m) (vaT c n m) nm M) (plT c n m) 37 m c0 := by
  intro d hd xs t dd s S hC hf htk
  obtain ⟨a1, a2, a3, a4, ⟨a5, a5'⟩, a6⟩ := id hC
  obtain ⟨b1, b2, b3, b4, b5, b6⟩ := a6 hf
  obtain ⟨⟨h53, h52⟩, hN, hn, hch, h54, h55, h76, hM, hM0, hNM, hnd⟩ := id hA
  have hTP := TP_t (wd := wd) hN
  have hj : S.1 < m := by
    by_cases z : S.1 = m
    · rw [z] at htk; exact absurd hTP.1 htk
    · omega
  obtain ⟨p1, p2, p3⟩ := pl_s hN a3.1 hj
  have e6 : s 52 6 = ten c n (plT c n m S.1) := by rw [(a5' hf htk).1, h53, h52]
  have hte := ten_ok (c := c) p2
  have s53 : s 53 = c := by rw [a1.fn 53 rfl]; exact h53
  have s52 : s 52 0 = n := by rw [a1.at 52 0 rfl]; exact h52
  have hAs : ACx s 37 c wd n m M nm := ⟨⟨s53, s52⟩, hN, hn, hch, by rw [a1.fn 54 rfl]; exact h54, by rw [a1.fn 55 rfl]; exact h55, h76, by rw [a1.at 37 1 rfl]; exact hM, hM0, (fun k k0 k1 => by rw [a1.row 56 rfl]; exact hNM k k0 k1), hnd⟩
  obtain ⟨s', hev, hP⟩ := sp_X7_advance_37 d (by omega) xs t dd 53 s n M (ten c n (plT c n m S.1)) rfl s52 ⟨by omega, hn⟩ hAs.2.2.2.2.2.2.2.1 hM0 e6 (by omega) (by rw [s53]; exact hch)
  rw [s53, p1] at hP
  refine ⟨s', hev, ?_⟩
  obtain ⟨t4, t7, t6⟩ := tok_T hAs (j := S.1 + 1) (by omega) (by omega) hP
  obtain ⟨f1, f5, -, -⟩ := hP
  have hpb := plT_b (c := c) (n := n) (m := m) (j := S.1 + 1) hN (by omega) (by omega)
  refine ⟨Fr.tr a1 f1 rfl rfl, by rw [f1.at 52 3 rfl]; exact a2, by show 0 ≤ S.1 + 1 ∧ S.1 + 1 ≤ m; omega, by rw [f5]; omega, ⟨fun x hx => by rw [f1.row 41 rfl]; exact a5 x hx, fun _ w => ?_⟩, fun _ => ⟨t4, t7, f5, by rw [f1.at 37 2 rfl]; exact b4, b5, fun q q0 q1 => by rw [f1.row 41 rfl]; exact b6 q q0 q1⟩⟩
  have w : tkT c wd n m (S.1 + 1) ≠ 0 := w
  show s' 52 6 = ten (σ 53) (σ 52 0) (plT c n m (S.1 + 1)) ∧ (tkT c wd n m (S.1 + 1) = 3 → s' 52 8 = ltC σ (plT c n m (S.1 + 1)))
  rw [h53, h52, lt_C h53 h52]
  exact t6 w
theorem ADV_T_44 {σ : Sg} {c wd nm : Int → Int} {n m M c0 : Int} (hA : ACx σ 44 c wd n m M nm) : ADV 6 60 σ (tkT c wd n m) (twN (nwT c wd n m) (t0T c wd n m) (vaT c n m) nm M) (plT c n m) 44 m c0 := by
  intro d hd xs t dd s S hC hf htk
  obtain ⟨a1, a2, a3, a4, ⟨a5, a5'⟩, a6⟩ := id hC
  obtain ⟨b1, b2, b3, b4, b5, b6⟩ := a6 hf
  obtain ⟨⟨h53, h52⟩, hN, hn, hch, h54, h55, h76, hM, hM0, hNM, hnd⟩ := id hA
  have hTP := TP_t (wd := wd) hN
  have hj : S.1 < m := by
    by_cases z : S.1 = m
    · rw [z] at htk; exact absurd hTP.1 htk
    · omega
  obtain ⟨p1, p2, p3⟩ := pl_s hN a3.1 hj
  have e6 : s 52 6 = ten c n (plT c n m S.1) := by rw [(a5' hf htk).1, h53, h52]
  have hte := ten_ok (c := c) p2
  have s53 : s 53 = c := by rw [a1.fn 53 rfl]; exact h53
  have s52 : s 52 0 = n := by rw [a1.at 52 0 rfl]; exact h52
  have hAs : ACx s 44 c wd n m M nm := ⟨⟨s53, s52⟩, hN, hn, hch, by rw [a1.fn 54 rfl]; exact h54, by rw [a1.fn 55 rfl]; exact h55, h76, by rw [a1.at 44 1 rfl]; exact hM, hM0, (fun k k0 k1 => by rw [a1.row 56 rfl]; exact hNM k k0 k1), hnd⟩
  obtain ⟨s', hev, hP⟩ := sp_X7_advance_44 d (by omega) xs t dd 60 s n M (ten c n (plT c n m S.1)) rfl s52 ⟨by omega, hn⟩ hAs.2.2.2.2.2.2.2.1 hM0 e6 (by omega) (by rw [s53]; exact hch)
  rw [s53, p1] at hP
  refine ⟨s', hev, ?_⟩
  obtain ⟨t4, t7, t6⟩ := tok_T hAs (j := S.1 + 1) (by omega) (by omega) hP
  obtain ⟨f1, f5, -, -⟩ := hP
  have hpb := plT_b (c := c) (n := n) (m := m) (j := S.1 + 1) hN (by omega) (by omega)
  refine ⟨Fr.tr a1 f1 rfl rfl, by rw [f1.at 52 3 rfl]; exact a2, by show 0 ≤ S.1 + 1 ∧ S.1 + 1 ≤ m; omega, by rw [f5]; omega, ⟨fun x hx => by rw [f1.row 48 rfl]; exact a5 x hx, fun _ w => ?_⟩, fun _ => ⟨t4, t7, f5, by rw [f1.at 44 2 rfl]; exact b4, b5, fun q q0 q1 => by rw [f1.row 48 rfl]; exact b6 q q0 q1⟩⟩
  have w : tkT c wd n m (S.1 + 1) ≠ 0 := w
  show s' 52 6 = ten (σ 53) (σ 52 0) (plT c n m (S.1 + 1)) ∧ (tkT c wd n m (S.1 + 1) = 3 → s' 52 8 = ltC σ (plT c n m (S.1 + 1)))
  rw [h53, h52, lt_C h53 h52]
  exact t6 w

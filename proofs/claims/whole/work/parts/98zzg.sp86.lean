/-- the letters of a token, to the base of the class -/
def ltT (c : Int → Int) (n m q : Int) : Int := wvl 32 (fun i => c (plT c n m q + i) - 96) (ten c n (plT c n m q) - plT c n m q)
def NMr (s : Sg) (c : Int → Int) (n m M : Int) (nm : Int → Int) : Prop := ∀ k, 0 ≤ k → k < M → ∃ q, 0 ≤ q ∧ q < m ∧ soT c n m q = 1 ∧ nm k = vaT c n m q ∧ s 56 k = ltT c n m q
def KTg (s : Sg) (B : Nat) (c wd : Int → Int) (n m : Int) (x : TXs) : Prop := (s 52 4 = tkT c wd n m x.1 ∧ s 52 5 = plT c n m x.1 ∧ (nwT c wd n m x.1 ≠ 1 → s 52 7 = t0T c wd n m x.1) ∧ (tkT c wd n m x.1 ≠ 0 → s 52 6 = ten c n (plT c n m x.1))) ∧ (s B 0 = x.2.2.1 ∧ s B 1 = x.2.2.2.1 ∧ 0 ≤ s B 2 ∧ s B 2 ≤ x.1) ∧ NMr s c n m x.2.2.2.1 x.2.2.2.2.1 ∧ s (B + 3) x.2.2.1 = s B 2 ∧ ∀ l, 0 ≤ l → l < x.2.2.1 → s (B + 1) l = 128 + x.2.2.2.2.2.1 l ∧ s (B + 2) l = x.2.2.2.2.2.2.1 l ∧ s (B + 3) (l + 1) = s (B + 3) l + x.2.2.2.2.2.2.2.1 l ∧ 0 ≤ s (B + 3) l ∧ s (B + 3) (l + 1) ≤ s B 2 ∧ ∀ q, 0 ≤ q → q < x.2.2.2.2.2.2.2.1 l → s (B + 4) (s (B + 3) l + q) = x.2.2.2.2.2.2.2.2.1 l q + 256 * x.2.2.2.2.2.2.2.2.2 l q ∧ (x.2.2.2.2.2.2.2.2.1 l q ≤ 255 ∧ 0 ≤ x.2.2.2.2.2.2.2.2.1 l q) ∧ -1 ≤ x.2.2.2.2.2.2.2.2.2 l q ∧ x.2.2.2.2.2.2.2.2.2 l q ≤ 9999
/-- the class's draft holds the lines read -/
def KT (σ0 s : Sg) (B : Nat) (c wd : Int → Int) (n m : Int) (x : TXs) : Prop := Fr [B + 1, B + 2, B + 3, B + 4, 56] [(52, 3), (52, 4), (52, 5), (52, 6), (52, 7), (52, 8), (B, 0), (B, 1), (B, 2)] σ0 s ∧ s 52 3 = x.2.1 ∧ s (B + 3) 0 = 0 ∧ (x.2.1 = 0 → KTg s B c wd n m x)
theorem lnP_len {tk tw pl : Int → Int} {N M i m : Int} (hp : ∀ j, 0 ≤ pl j) (hm : tk m = 0) (hi : 0 ≤ i ∧ i ≤ m) (h : (lnP tk tw pl N M (S0x i)).2.1 = 0) : 0 ≤ (lnP tk tw pl N M (S0x i)).2.2.1 ∧ i + (lnP tk tw pl N M (S0x i)).2.2.1 ≤ (lnP tk tw pl N M (S0x i)).1 ∧ (tk i = 128 → i + 1 < m ∧ tk (i + 1) = 3) := by
  obtain ⟨h1, h2, h3⟩ := lnP_r hp h
  rw [h3] at h ⊢
  have h1 : 128 ≤ tk i ∧ tk i ≤ 131 := h1
  have hne : i ≠ m := fun z => by rw [z, hm] at h1; omega
  have hk := ch0_k (prt_k (tk := tk) (tw := tw) (pl := pl) hm (fun j _ _ => hp j) 5) hm
  obtain ⟨t1, t2, t3⟩ := tsg_r hp h
  have e1 : (S0x i).1 = i := rfl
  rw [e1] at t1 t2 t3 ⊢
  have hs5 : (hdS tk tw pl M (tk i - 128) (pAd (S0x i))).2.1 = 0 := by
    by_cases z : (hdS tk tw pl M (tk i - 128) (pAd (S0x i))).2.1 = 0
    · exact z
    · rw [(hk.2.2.2 _).1 z] at t1; exact t1
  have hr := hdS_r (m := m) hp hm (show (pAd (S0x i)).1 ≤ m by show i + 1 ≤ m; omega) hs5
  have hlq : (hdS tk tw pl M (tk i - 128) (pAd (S0x i))).2.2 = (pAd (S0x i)).2.2 := hdS_l
  have hl1 : (hdS tk tw pl M (tk i - 128) (pAd (S0x i))).2.2.1 = 0 := by rw [hlq]; rfl
  have hr1 : i + 1 ≤ (hdS tk tw pl M (tk i - 128) (pAd (S0x i))).1 := hr.1.1
  have hP := (hk.2.2.2 (hdS tk tw pl M (tk i - 128) (pAd (S0x i)))).2 hs5 (by omega) hr.1.2
  rw [t3]
  generalize ch0 tk (prt tk tw pl 5) (hdS tk tw pl M (tk i - 128) (pAd (S0x i))) = S6 at *
  refine ⟨by show 0 ≤ S6.2.2.1; omega, by show i + S6.2.2.1 ≤ S6.1 + 1; omega, fun z => ?_⟩
  have h5 : tk (i + 1) = 3 := (hr.2.1 (by omega)).1
  refine ⟨?_, h5⟩
  by_cases w : i + 1 = m
  · rw [w, hm] at h5; omega
  · omega
theorem so_3 {c wd : Int → Int} {n m j : Int} (h : NT c n m) (hk : tkT c wd n m j = 3) : soT c n m j = 1 := by
  have := ((TP_t (wd := wd) h).2 j).2.1.mp hk
  unfold nwF b2i at this
  split at this
  · rename_i q; exact q.1
  · omega
theorem lt_C {s : Sg} {c : Int → Int} {n m q : Int} (h1 : s 53 = c) (h2 : s 52 0 = n) : ltC s (plT c n m q) = ltT c n m q := by unfold ltC ltT; rw [h1, h2]
set_option maxHeartbeats 2000000 in
theorem KT_st_37 {σ0 s s' : Sg} {c wd : Int → Int} {n m : Int} {x : TXs} (hN : NT c n m) (hc : σ0 53 = c) (hn : σ0 52 0 = n) (hK : KT σ0 s 37 c wd n m x) (hx : x.2.1 = 0) (hO : OKx m x) (h1 : ¬ (128 ≤ tkT c wd n m x.1 ∧ tkT c wd n m x.1 ≤ 131 ∧ s 37 0 ≠ 24) → Fr [] [(52, 3)] s s' ∧ s' 52 3 = (lnP (tkT c wd n m) (twX (nwT c wd n m) (t0T c wd n m) (vaT c n m) x) (plT c n m) (s 37 0) (s 37 1) (S0x x.1)).2.1) (h2 : 128 ≤ tkT c wd n m x.1 ∧ tkT c wd n m x.1 ≤ 131 ∧ s 37 0 ≠ 24 → LnC s s' (tkT c wd n m) (twX (nwT c wd n m) (t0T c wd n m) (vaT c n m) x) (plT c n m) 37 m (s 37 2) x.1 (lnP (tkT c wd n m) (twX (nwT c wd n m) (t0T c wd n m) (vaT c n m) x) (plT c n m) (s 37 0) (s 37 1) (S0x x.1))) : KT σ0 s' 37 c wd n m (txT c wd n m x) := by
  obtain ⟨i, f, N, M, nm, kd, nu, ln, K, W⟩ := x
  have hx : f = 0 := hx
  subst hx
  obtain ⟨kf, k3, kz, kg⟩ := hK
  obtain ⟨⟨g1, g2, g3, g4⟩, ⟨g5, g6, g7, g8⟩, g9, g11, gl⟩ := kg rfl
  dsimp only at g1 g2 g3 g4 g5 g6 g7 g8 g9 g11 gl h1 h2
  have hi : 0 ≤ i ∧ i ≤ m := hO.1
  have hN0 : 0 ≤ N := hO.2.1.1.1
  have hlnO : ∀ l, 0 ≤ l → l < N → 0 ≤ ln l := fun l l0 l1 => (hO.2.1.2.2 l l0 l1).2.1
  have hs53 : s 53 = c := by rw [kf.fn 53 rfl]; exact hc
  have hs52 : s 52 0 = n := by rw [kf.at 52 0 rfl]; exact hn
  have hTP := TP_t (wd := wd) hN
  have hpl : ∀ j, 0 ≤ plT c n m j := fun j => (hTP.2 j).1
  have htm : tkT c wd n m m = 0 := hTP.1
  rw [g5, g6] at h1 h2
  show KT σ0 s' 37 c wd n m (txS (tkT c wd n m) (nwT c wd n m) (t0T c wd n m) (vaT c n m) (plT c n m) (i, 0, N, M, nm, kd, nu, ln, K, W))
  unfold txS
  have hlx : lnX (tkT c wd n m) (nwT c wd n m) (t0T c wd n m) (vaT c n m) (plT c n m) (i, 0, N, M, nm, kd, nu, ln, K, W) = lnP (tkT c wd n m) (twX (nwT c wd n m) (t0T c wd n m) (vaT c n m) (i, 0, N, M, nm, kd, nu, ln, K, W)) (plT c n m) N M (S0x i) := rfl
  rw [hlx]
  dsimp only
  have hlen := lnP_len (tw := twX (nwT c wd n m) (t0T c wd n m) (vaT c n m) (i, 0, N, M, nm, kd, nu, ln, K, W)) (N := N) (M := M) (i := i) (m := m) hpl htm hi
  by_cases q : 128 ≤ tkT c wd n m i ∧ tkT c wd n m i ≤ 131 ∧ N ≠ 24
  · obtain ⟨s10, σ1, hσ1, hσ2, hC, hbad, hgood⟩ := h2 q
    have hF1 : Fr [56] [] s σ1 := by
      rcases hσ1 with z | z
      · rw [z]; exact Fr.rf
      · rw [z]; exact Fr.rf.up rfl
    have hFs : Fr [41, 56] [(52, 3), (52, 4), (52, 5), (52, 6), (52, 7), (52, 8), (37, 2)] s s10 := Fr.tr hF1 hC.1 rfl rfl
    generalize hL : lnP (tkT c wd n m) (twX (nwT c wd n m) (t0T c wd n m) (vaT c n m) (i, 0, N, M, nm, kd, nu, ln, K, W)) (plT c n m) N M (S0x i) = L at *
    by_cases z : L.2.1 = 0
    · rw [if_pos z]
      obtain ⟨j1, j2, j3, j4, j5, j6⟩ := hgood z
      rw [g5] at j2 j4 j5 j6
      rw [g6] at j3 j5
      obtain ⟨p1, p2, p3⟩ := hlen z
      obtain ⟨c1, c2, c3, c4, ⟨c5, c5'⟩, c6⟩ := hC
      obtain ⟨b1, b2, b3, b4, b5, b6⟩ := c6 z
      have e52 : ∀ y, s' 52 y = s10 52 y := fun y => j1.row 52 rfl y
      have e56 : ∀ y, s' 56 y = σ1 56 y := fun y => by rw [j1.row 56 rfl, c1.row 56 rfl]
      have eB2 : s' 37 2 = s 37 2 + L.2.2.1 := by rw [j1.at 37 2 rfl]; exact b4
      have e4 : ∀ y, s' 41 y = s10 41 y := fun y => j1.row 41 rfl y
      have e4o : ∀ y, y < s 37 2 → s' 41 y = s 41 y := fun y hy => by rw [e4, c5 y hy, hF1.row 41 rfl]
      have hM0 : 0 ≤ M := by
        have := hO.2.2.1
        dsimp only at this
        rw [this]; exact (sumZ_bd (c := 1) hN0 (fun _ _ _ => b2i_bd)).1
      have w53 : σ1 53 = c := by rw [hF1.fn 53 rfl]; exact hs53
      have w52 : σ1 52 0 = n := by rw [hF1.at 52 0 rfl]; exact hs52
      have n56 : ∀ k, 0 ≤ k → k < M → s' 56 k = s 56 k := fun k k0 k1 => by
        rw [e56]
        rcases hσ1 with y | y
        · rw [y]
        · rw [y, g6, up_i (by omega)]
      refine ⟨Fr.tr (r3 := [38, 39, 40, 41, 56]) (s3 := [(52, 3), (52, 4), (52, 5), (52, 6), (52, 7), (52, 8), (37, 0), (37, 1), (37, 2)]) kf (Fr.tr (r3 := [38, 39, 40, 41, 56]) (s3 := [(52, 3), (52, 4), (52, 5), (52, 6), (52, 7), (52, 8), (37, 0), (37, 1), (37, 2)]) hFs j1 rfl rfl) rfl rfl, by rw [e52, c2]; exact z, ?_, fun _ => ⟨⟨?_, ?_, ?_, ?_⟩, ⟨j2, j3, ?_, ?_⟩, ?_, ?_, fun l l0 l1 => ?_⟩⟩
      · show s' 40 0 = 0
        rw [j6, if_neg (by omega)]; exact kz
      · rw [e52]; exact b1
      · rw [e52]; exact b3
      · intro y
        rw [e52, b2]
        show twN _ _ _ nm M L.1 = _
        unfold twN
        rw [if_neg y]
      · intro y
        rw [e52, (c5' z y).1, w53, w52]
      · rw [eB2]; omega
      · rw [eB2]; show s 37 2 + L.2.2.1 ≤ L.1; omega
      · intro k k0 k1
        have k1 : k < (if tkT c wd n m i = 128 then M + 1 else M) := k1
        show ∃ q, 0 ≤ q ∧ q < m ∧ soT c n m q = 1 ∧ (if tkT c wd n m i = 128 then fup nm M (vaT c n m (i + 1)) else nm) k = vaT c n m q ∧ s' 56 k = ltT c n m q
        by_cases y : tkT c wd n m i = 128
        · rw [if_pos y] at k1 ⊢
          by_cases u : k = M
          · refine ⟨i + 1, by omega, (p3 y).1, so_3 hN (p3 y).2, by rw [u, fup_s], ?_⟩
            rw [e56, hσ2 y z, g6, u, up_s]
            exact lt_C hs53 hs52
          · rw [fup_o u]
            rw [n56 k k0 (by omega)]
            exact g9 k k0 (by omega)
        · rw [if_neg y] at k1 ⊢
          rw [n56 k k0 k1]
          exact g9 k k0 k1
      · show s' 40 (N + 1) = s' 37 2
        rw [j6, if_pos rfl, eB2]
      · have l1 : l < N + 1 := l1
        show s' 38 l = 128 + fup kd N (tkT c wd n m i - 128) l ∧ s' 39 l = fup nu N _ l ∧ s' 40 (l + 1) = s' 40 l + fup ln N L.2.2.1 l ∧ 0 ≤ s' 40 l ∧ s' 40 (l + 1) ≤ s' 37 2 ∧ ∀ q, 0 ≤ q → q < fup ln N L.2.2.1 l → s' 41 (s' 40 l + q) = fuk K N L.2.2.2.1 l q + 256 * fuk W N L.2.2.2.2 l q ∧ (fuk K N L.2.2.2.1 l q ≤ 255 ∧ 0 ≤ fuk K N L.2.2.2.1 l q) ∧ -1 ≤ fuk W N L.2.2.2.2 l q ∧ fuk W N L.2.2.2.2 l q ≤ 9999
        rw [j4, j5, j6, j6, eB2]
        by_cases u : l = N
        · rw [u, if_pos rfl, if_pos rfl, if_pos rfl, if_neg (by omega), fup_s, fup_s, fup_s, show fuk K N L.2.2.2.1 N = L.2.2.2.1 by unfold fuk; rw [if_pos rfl], show fuk W N L.2.2.2.2 N = L.2.2.2.2 by unfold fuk; rw [if_pos rfl], g11]
          exact ⟨by omega, rfl, rfl, g7, Int.le_refl _, fun q q0 q1 => by rw [e4]; exact b6 q q0 q1⟩
        · rw [if_neg u, if_neg u, if_neg (by omega), if_neg (by omega), fup_o u, fup_o u, fup_o u, show fuk K N L.2.2.2.1 l = K l by unfold fuk; rw [if_neg u], show fuk W N L.2.2.2.2 l = W l by unfold fuk; rw [if_neg u]]
          obtain ⟨m1, m2, m3, m4, m5, m6⟩ := gl l l0 (by omega)
          have m3 : s 40 (l + 1) = s 40 l + ln l := m3
          have m5 : s 40 (l + 1) ≤ s 37 2 := m5
          refine ⟨m1, m2, m3, m4, by omega, fun q q0 q1 => ?_⟩
          rw [e4o _ (by omega)]
          exact m6 q q0 q1
    · rw [if_neg z]
      have hs' := hbad z
      rw [hs']
      refine ⟨Fr.tr (r3 := [38, 39, 40, 41, 56]) (s3 := [(52, 3), (52, 4), (52, 5), (52, 6), (52, 7), (52, 8), (37, 0), (37, 1), (37, 2)]) kf hFs rfl rfl, hC.2.1, ?_, fun y => absurd y z⟩
      show s10 40 0 = 0
      rw [hFs.row 40 rfl]; exact kz
  · obtain ⟨a1, a2⟩ := h1 q
    have hne : (lnP (tkT c wd n m) (twX (nwT c wd n m) (t0T c wd n m) (vaT c n m) (i, 0, N, M, nm, kd, nu, ln, K, W)) (plT c n m) N M (S0x i)).2.1 ≠ 0 := fun y => by
      obtain ⟨y1, y2, -⟩ := lnP_r hpl y
      exact q ⟨y1.1, y1.2, y2⟩
    rw [if_neg hne]
    refine ⟨Fr.tr kf a1 rfl rfl, a2, ?_, fun y => absurd y hne⟩
    show s' 40 0 = 0
    rw [a1.row 40 rfl]; exact kz
set_option maxHeartbeats 2000000 in
theorem KT_st_44 {σ0 s s' : Sg} {c wd : Int → Int} {n m : Int} {x : TXs} (hN : NT c n m) (hc : σ0 53 = c) (hn : σ0 52 0 = n) (hK : KT σ0 s 44 c wd n m x) (hx : x.2.1 = 0) (hO : OKx m x) (h1 : ¬ (128 ≤ tkT c wd n m x.1 ∧ tkT c wd n m x.1 ≤ 131 ∧ s 44 0 ≠ 24) → Fr [] [(52, 3)] s s' ∧ s' 52 3 = (lnP (tkT c wd n m) (twX (nwT c wd n m) (t0T c wd n m) (vaT c n m) x) (plT c n m) (s 44 0) (s 44 1) (S0x x.1)).2.1) (h2 : 128 ≤ tkT c wd n m x.1 ∧ tkT c wd n m x.1 ≤ 131 ∧ s 44 0 ≠ 24 → LnC s s' (tkT c wd n m) (twX (nwT c wd n m) (t0T c wd n m) (vaT c n m) x) (plT c n m) 44 m (s 44 2) x.1 (lnP (tkT c wd n m) (twX (nwT c wd n m) (t0T c wd n m) (vaT c n m) x) (plT c n m) (s 44 0) (s 44 1) (S0x x.1))) : KT σ0 s' 44 c wd n m (txT c wd n m x) := by
  obtain ⟨i, f, N, M, nm, kd, nu, ln, K, W⟩ := x
  have hx : f = 0 := hx
  subst hx
  obtain ⟨kf, k3, kz, kg⟩ := hK
  obtain ⟨⟨g1, g2, g3, g4⟩, ⟨g5, g6, g7, g8⟩, g9, g11, gl⟩ := kg rfl
  dsimp only at g1 g2 g3 g4 g5 g6 g7 g8 g9 g11 gl h1 h2
  have hi : 0 ≤ i ∧ i ≤ m := hO.1
  have hN0 : 0 ≤ N := hO.2.1.1.1
  have hlnO : ∀ l, 0 ≤ l → l < N → 0 ≤ ln l := fun l l0 l1 => (hO.2.1.2.2 l l0 l1).2.1
  have hs53 : s 53 = c := by rw [kf.fn 53 rfl]; exact hc
  have hs52 : s 52 0 = n := by rw [kf.at 52 0 rfl]; exact hn
  have hTP := TP_t (wd := wd) hN
  have hpl : ∀ j, 0 ≤ plT c n m j := fun j => (hTP.2 j).1
  have htm : tkT c wd n m m = 0 := hTP.1
  rw [g5, g6] at h1 h2
  show KT σ0 s' 44 c wd n m (txS (tkT c wd n m) (nwT c wd n m) (t0T c wd n m) (vaT c n m) (plT c n m) (i, 0, N, M, nm, kd, nu, ln, K, W))
  unfold txS
  have hlx : lnX (tkT c wd n m) (nwT c wd n m) (t0T c wd n m) (vaT c n m) (plT c n m) (i, 0, N, M, nm, kd, nu, ln, K, W) = lnP (tkT c wd n m) (twX (nwT c wd n m) (t0T c wd n m) (vaT c n m) (i, 0, N, M, nm, kd, nu, ln, K, W)) (plT c n m) N M (S0x i) := rfl
  rw [hlx]
  dsimp only
  have hlen := lnP_len (tw := twX (nwT c wd n m) (t0T c wd n m) (vaT c n m) (i, 0, N, M, nm, kd, nu, ln, K, W)) (N := N) (M := M) (i := i) (m := m) hpl htm hi
  by_cases q : 128 ≤ tkT c wd n m i ∧ tkT c wd n m i ≤ 131 ∧ N ≠ 24
  · obtain ⟨s10, σ1, hσ1, hσ2, hC, hbad, hgood⟩ := h2 q
    have hF1 : Fr [56] [] s σ1 := by
      rcases hσ1 with z | z
      · rw [z]; exact Fr.rf
      · rw [z]; exact Fr.rf.up rfl
    have hFs : Fr [48, 56] [(52, 3), (52, 4), (52, 5), (52, 6), (52, 7), (52, 8), (44, 2)] s s10 := Fr.tr hF1 hC.1 rfl rfl
    generalize hL : lnP (tkT c wd n m) (twX (nwT c wd n m) (t0T c wd n m) (vaT c n m) (i, 0, N, M, nm, kd, nu, ln, K, W)) (plT c n m) N M (S0x i) = L at *
    by_cases z : L.2.1 = 0
    · rw [if_pos z]
      obtain ⟨j1, j2, j3, j4, j5, j6⟩ := hgood z
      rw [g5] at j2 j4 j5 j6
      rw [g6] at j3 j5
      obtain ⟨p1, p2, p3⟩ := hlen z
      obtain ⟨c1, c2, c3, c4, ⟨c5, c5'⟩, c6⟩ := hC
      obtain ⟨b1, b2, b3, b4, b5, b6⟩ := c6 z
      have e52 : ∀ y, s' 52 y = s10 52 y := fun y => j1.row 52 rfl y
      have e56 : ∀ y, s' 56 y = σ1 56 y := fun y => by rw [j1.row 56 rfl, c1.row 56 rfl]
      have eB2 : s' 44 2 = s 44 2 + L.2.2.1 := by rw [j1.at 44 2 rfl]; exact b4
      have e4 : ∀ y, s' 48 y = s10 48 y := fun y => j1.row 48 rfl y
      have e4o : ∀ y, y < s 44 2 → s' 48 y = s 48 y := fun y hy => by rw [e4, c5 y hy, hF1.row 48 rfl]
      have hM0 : 0 ≤ M := by
        have := hO.2.2.1
        dsimp only at this
        rw [this]; exact (sumZ_bd (c := 1) hN0 (fun _ _ _ => b2i_bd)).1
      have w53 : σ1 53 = c := by rw [hF1.fn 53 rfl]; exact hs53
      have w52 : σ1 52 0 = n := by rw [hF1.at 52 0 rfl]; exact hs52
      have n56 : ∀ k, 0 ≤ k → k < M → s' 56 k = s 56 k := fun k k0 k1 => by
        rw [e56]
        rcases hσ1 with y | y
        · rw [y]
        · rw [y, g6, up_i (by omega)]
      refine ⟨Fr.tr (r3 := [45, 46, 47, 48, 56]) (s3 := [(52, 3), (52, 4), (52, 5), (52, 6), (52, 7), (52, 8), (44, 0), (44, 1), (44, 2)]) kf (Fr.tr (r3 := [45, 46, 47, 48, 56]) (s3 := [(52, 3), (52, 4), (52, 5), (52, 6), (52, 7), (52, 8), (44, 0), (44, 1), (44, 2)]) hFs j1 rfl rfl) rfl rfl, by rw [e52, c2]; exact z, ?_, fun _ => ⟨⟨?_, ?_, ?_, ?_⟩, ⟨j2, j3, ?_, ?_⟩, ?_, ?_, fun l l0 l1 => ?_⟩⟩
      · show s' 47 0 = 0
        rw [j6, if_neg (by omega)]; exact kz
      · rw [e52]; exact b1
      · rw [e52]; exact b3
      · intro y
        rw [e52, b2]
        show twN _ _ _ nm M L.1 = _
        unfold twN
        rw [if_neg y]
      · intro y
        rw [e52, (c5' z y).1, w53, w52]
      · rw [eB2]; omega
      · rw [eB2]; show s 44 2 + L.2.2.1 ≤ L.1; omega
      · intro k k0 k1
        have k1 : k < (if tkT c wd n m i = 128 then M + 1 else M) := k1
        show ∃ q, 0 ≤ q ∧ q < m ∧ soT c n m q = 1 ∧ (if tkT c wd n m i = 128 then fup nm M (vaT c n m (i + 1)) else nm) k = vaT c n m q ∧ s' 56 k = ltT c n m q
        by_cases y : tkT c wd n m i = 128
        · rw [if_pos y] at k1 ⊢
          by_cases u : k = M
          · refine ⟨i + 1, by omega, (p3 y).1, so_3 hN (p3 y).2, by rw [u, fup_s], ?_⟩
            rw [e56, hσ2 y z, g6, u, up_s]
            exact lt_C hs53 hs52
          · rw [fup_o u]
            rw [n56 k k0 (by omega)]
            exact g9 k k0 (by omega)
        · rw [if_neg y] at k1 ⊢
          rw [n56 k k0 k1]
          exact g9 k k0 k1
      · show s' 47 (N + 1) = s' 44 2
        rw [j6, if_pos rfl, eB2]
      · have l1 : l < N + 1 := l1
        show s' 45 l = 128 + fup kd N (tkT c wd n m i - 128) l ∧ s' 46 l = fup nu N _ l ∧ s' 47 (l + 1) = s' 47 l + fup ln N L.2.2.1 l ∧ 0 ≤ s' 47 l ∧ s' 47 (l + 1) ≤ s' 44 2 ∧ ∀ q, 0 ≤ q → q < fup ln N L.2.2.1 l → s' 48 (s' 47 l + q) = fuk K N L.2.2.2.1 l q + 256 * fuk W N L.2.2.2.2 l q ∧ (fuk K N L.2.2.2.1 l q ≤ 255 ∧ 0 ≤ fuk K N L.2.2.2.1 l q) ∧ -1 ≤ fuk W N L.2.2.2.2 l q ∧ fuk W N L.2.2.2.2 l q ≤ 9999
        rw [j4, j5, j6, j6, eB2]
        by_cases u : l = N
        · rw [u, if_pos rfl, if_pos rfl, if_pos rfl, if_neg (by omega), fup_s, fup_s, fup_s, show fuk K N L.2.2.2.1 N = L.2.2.2.1 by unfold fuk; rw [if_pos rfl], show fuk W N L.2.2.2.2 N = L.2.2.2.2 by unfold fuk; rw [if_pos rfl], g11]
          exact ⟨by omega, rfl, rfl, g7, Int.le_refl _, fun q q0 q1 => by rw [e4]; exact b6 q q0 q1⟩
        · rw [if_neg u, if_neg u, if_neg (by omega), if_neg (by omega), fup_o u, fup_o u, fup_o u, show fuk K N L.2.2.2.1 l = K l by unfold fuk; rw [if_neg u], show fuk W N L.2.2.2.2 l = W l by unfold fuk; rw [if_neg u]]
          obtain ⟨m1, m2, m3, m4, m5, m6⟩ := gl l l0 (by omega)
          have m3 : s 47 (l + 1) = s 47 l + ln l := m3
          have m5 : s 47 (l + 1) ≤ s 44 2 := m5
          refine ⟨m1, m2, m3, m4, by omega, fun q q0 q1 => ?_⟩
          rw [e4o _ (by omega)]
          exact m6 q q0 q1
    · rw [if_neg z]
      have hs' := hbad z
      rw [hs']
      refine ⟨Fr.tr (r3 := [45, 46, 47, 48, 56]) (s3 := [(52, 3), (52, 4), (52, 5), (52, 6), (52, 7), (52, 8), (44, 0), (44, 1), (44, 2)]) kf hFs rfl rfl, hC.2.1, ?_, fun y => absurd y z⟩
      show s10 47 0 = 0
      rw [hFs.row 47 rfl]; exact kz
  · obtain ⟨a1, a2⟩ := h1 q
    have hne : (lnP (tkT c wd n m) (twX (nwT c wd n m) (t0T c wd n m) (vaT c n m) (i, 0, N, M, nm, kd, nu, ln, K, W)) (plT c n m) N M (S0x i)).2.1 ≠ 0 := fun y => by
      obtain ⟨y1, y2, -⟩ := lnP_r hpl y
      exact q ⟨y1.1, y1.2, y2⟩
    rw [if_neg hne]
    refine ⟨Fr.tr kf a1 rfl rfl, a2, ?_, fun y => absurd y hne⟩
    show s' 47 0 = 0
    rw [a1.row 47 rfl]; exact kz

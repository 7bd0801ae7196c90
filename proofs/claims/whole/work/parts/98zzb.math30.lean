-- the reference's text, line by line
def RTxg (s : Sg) (h : Int) (x : TXs) : Prop := s 71 7 = x.1 ∧ s 77 h = x.2.2.1 ∧ s 81 h = x.2.2.2.1 ∧ (∀ k, 0 ≤ k → k < x.2.2.2.1 → s 82 (8 * h + k) = x.2.2.2.2.1 k) ∧ ∀ l, 0 ≤ l → l < x.2.2.1 → s 78 (24 * h + l) = x.2.2.2.2.2.1 l ∧ s 79 (24 * h + l) = x.2.2.2.2.2.2.1 l ∧ (1100 * h ≤ s 80 (24 * h + l) ∧ s 80 (24 * h + l) + x.2.2.2.2.2.2.2.1 l < 1100 * h + s 71 18) ∧ (∀ q, 0 ≤ q → q < x.2.2.2.2.2.2.2.1 l → s 83 (s 80 (24 * h + l) + q) = opOf (x.2.2.2.2.2.2.2.2.1 l q) ∧ s 84 (s 80 (24 * h + l) + q) = x.2.2.2.2.2.2.2.2.2 l q) ∧ s 83 (s 80 (24 * h + l) + x.2.2.2.2.2.2.2.1 l) = 0
def RTxf (σ0 s : Sg) (h : Int) : Prop := Fr [77, 78, 79, 80, 81, 82, 83, 84] [(71, 7), (71, 8), (71, 18)] σ0 s ∧ (∀ y, y ≠ h → s 77 y = σ0 77 y ∧ s 81 y = σ0 81 y) ∧ (∀ y, y < 24 * h ∨ 24 * h + 24 ≤ y → s 78 y = σ0 78 y ∧ s 79 y = σ0 79 y ∧ s 80 y = σ0 80 y) ∧ ∀ y, y < 1100 * h ∨ 1100 * h + 1100 ≤ y → s 83 y = σ0 83 y ∧ s 84 y = σ0 84 y
def RTx (σ0 s : Sg) (h m : Int) (x : TXs) : Prop := RTxf σ0 s h ∧ s 71 8 = x.2.1 ∧ 0 ≤ x.2.1 ∧ (0 ≤ s 71 7 ∧ s 71 7 ≤ m) ∧ (0 ≤ s 71 18 ∧ s 71 18 ≤ s 71 7) ∧ (0 ≤ s 77 h ∧ s 77 h ≤ 24) ∧ (0 ≤ s 81 h ∧ s 81 h ≤ 8) ∧ (x.2.1 = 0 → RTxg s h x)
theorem BT_fr {σ0 s : Sg} {c : Int → Int} {n m : Int} (h : BT σ0 c n m) (hF : Fr [77, 78, 79, 80, 81, 82, 83, 84] [(71, 7), (71, 8), (71, 18)] σ0 s) : BT s c n m := by
  obtain ⟨a1, a2, a3, a4, a5, a6, a7⟩ := h
  refine ⟨a1, a2, ?_, ?_, ?_, ?_, ?_⟩
  · intro j j0 j1
    rw [hF.fn 73 rfl, hF.fn 74 rfl, hF.fn 75 rfl]
    exact a3 j j0 j1
  · rw [hF.fn 73 rfl]; exact a4
  · rw [hF.fn 74 rfl]; exact a5
  · rw [hF.at 71 11 rfl]; exact a6
  · rw [hF.fn 76 rfl]; exact a7
abbrev tkT (c wd : Int → Int) (n m : Int) : Int → Int := tkF (soT c n m) (vaT c n m) wd
abbrev nwT (c wd : Int → Int) (n m : Int) : Int → Int := nwF (soT c n m) (vaT c n m) wd
abbrev t0T (c wd : Int → Int) (n m : Int) : Int → Int := t0F (soT c n m) (vaT c n m) wd
abbrev lnT (c wd : Int → Int) (n m : Int) (x : TXs) : PSt := lnX (tkT c wd n m) (nwT c wd n m) (t0T c wd n m) (vaT c n m) (plT c n m) x
abbrev txT (c wd : Int → Int) (n m : Int) (x : TXs) : TXs := txS (tkT c wd n m) (nwT c wd n m) (t0T c wd n m) (vaT c n m) (plT c n m) x
set_option maxHeartbeats 2000000 in
theorem RT_st {σ0 s s' : Sg} {c : Int → Int} {n m h : Int} {x : TXs} (hB : BT σ0 c n m) (hh : σ0 71 11 = h) (hR : RTx σ0 s h m x) (hx : x.2.1 = 0) (hO : OKx m x) (h1 : 128 ≤ tkM s (s 71 7) ∧ tkM s (s 71 7) ≤ 131 ∧ s 77 (s 71 11) ≠ 24 → LnP s s' m) (h2 : ¬ (128 ≤ tkM s (s 71 7) ∧ tkM s (s 71 7) ≤ 131 ∧ s 77 (s 71 11) ≠ 24) → Fr [] [(71, 8)] s s' ∧ s' 71 8 = (lnP (tkM s) (twM s) (s 74) (s 77 (s 71 11)) (s 81 (s 71 11)) ((s 71 7, 0, 0, fun _ => 0, fun _ => 0) : PSt)).2.1) : RTx σ0 s' h m (txT c (σ0 76) n m x) := by
  obtain ⟨i, f, N, M, nm, kd, nu, ln, K, W⟩ := x
  have hx : f = 0 := hx
  subst hx
  obtain ⟨⟨rf1, rf2, rf3, rf4⟩, r8, -, r7, r18, r77, r81, rg⟩ := hR
  obtain ⟨g7, gN, gM, gn, gl⟩ := rg rfl
  dsimp only at r8 g7 gN gM gn gl
  have hBs := BT_fr hB rf1
  have hh' : s 71 11 = h := by rw [rf1.at 71 11 rfl]; exact hh
  have h76 : s 76 = σ0 76 := rf1.fn 76 rfl
  have hTR : TR s m := TR_of hBs (by rw [hh']; exact r81)
  rw [hh', gN] at h1
  rw [hh', gN, gM] at h2
  have hh01 : h = 0 ∨ h = 1 := by rw [← hh]; exact hB.2.2.2.2.2.1
  have ht : ∀ j, 0 ≤ j → j ≤ m → tkM s j = tkT c (σ0 76) n m j ∧ twM s j = twN (nwT c (σ0 76) n m) (t0T c (σ0 76) n m) (vaT c n m) nm M j ∧ s 74 j = plT c n m j := fun j j0 j1 => by
    have e1 := tk_T hBs j0 j1
    have e2 := tw_T (nm := nm) (M := M) hBs j0 j1 (by rw [hh']; exact gM) (fun k k0 k1 => by rw [hh']; exact gn k k0 k1)
    rw [h76] at e1 e2
    exact ⟨e1, e2, (BT_rows hBs j0 j1).2.1⟩
  have htm : tkM s m = 0 := by unfold tkM; rw [if_pos hBs.2.2.2.1]
  have hpl : ∀ j, 0 ≤ j → j ≤ m → 0 ≤ s 74 j := fun j j0 j1 => (hTR.2.2.1 j j0 j1).2.1.1
  have hplT : ∀ j, 0 ≤ plT c n m j := fun j => ((TP_t (wd := σ0 76) hB.1).2 j).1
  have eL := lnP_c (N := N) (M := M) ht htm hpl (S0x i) (show 0 ≤ i by omega) (show i ≤ m by omega)
  have eL : lnP (tkM s) (twM s) (s 74) N M (S0x i) = lnT c (σ0 76) n m (i, 0, N, M, nm, kd, nu, ln, K, W) := eL
  have eti : tkM s i = tkT c (σ0 76) n m i := (ht i (by omega) (by omega)).1
  have hlnO : ∀ l, 0 ≤ l → l < N → 0 ≤ ln l := fun l l0 l1 => (hO.2.1.2.2 l l0 l1).2.1
  generalize hxe : ((i, 0, N, M, nm, kd, nu, ln, K, W) : TXs) = x at *
  show RTx σ0 s' h m (txS (tkT c (σ0 76) n m) (nwT c (σ0 76) n m) (t0T c (σ0 76) n m) (vaT c n m) (plT c n m) x)
  unfold txS
  by_cases q : 128 ≤ tkM s i ∧ tkM s i ≤ 131 ∧ N ≠ 24
  · have hL := h1 (by rw [g7]; exact q)
    obtain ⟨σ5, s10, tl, cX, w, hF5, h78, h79, hE, hc, hs'⟩ := hL
    simp only [hh', gN, gM, g7] at h78 h79 hE hc hs'
    have eZ : tsg (tkM s) (s 74) 59 (ch0 (tkM s) (prt (tkM s) (twM s) (s 74) 5) (hdS (tkM s) (twM s) (s 74) M (tkM s i - 128) ((i + 1, 0, 0, fun _ => 0, fun _ => 0) : PSt))) = lnT c (σ0 76) n m x := by
      rw [← eL]
      unfold lnP
      rw [if_neg (show ¬ ¬ (128 ≤ tkM s (S0x i).1 ∧ tkM s (S0x i).1 ≤ 131) from fun z => z ⟨q.1, q.2.1⟩), if_neg q.2.2]
      rfl
    rw [eZ] at hE hc hs'
    obtain ⟨e0, e8, e80, e7, e18, e83, eg⟩ := hE
    have b11 : (up2 σ5 80 (24 * h + N) (1100 * h + cX)) 71 11 = h := by rw [up_k (by decide), hF5.at 71 11 rfl]; exact hh'
    rw [b11] at e83 eg
    have hF10 : Fr [78, 79, 80, 83, 84] [(71, 7), (71, 8), (71, 18)] s s10 := Fr.tr (Fr.up (k := 80) (i := 24 * h + N) (v := 1100 * h + cX) (Fr.tr (r3 := [78, 79, 80]) (s3 := []) hF5 (Fr.rf (rows := []) (sl := [])) rfl rfl) rfl) e0 rfl rfl
    have f78 : ∀ y, s10 78 y = if y = 24 * h + N then tkM s i - 128 else s 78 y := fun y => by rw [e0.row 78 rfl y, up_k (by decide)]; exact h78 y
    have f79 : ∀ y, s10 79 y = if y = 24 * h + N then w else s 79 y := fun y => by rw [e0.row 79 rfl y, up_k (by decide)]; exact h79 y
    have f80 : ∀ y, s10 80 y = if y = 24 * h + N then 1100 * h + cX else s 80 y := fun y => by
      rw [e0.row 80 rfl y]
      by_cases z : y = 24 * h + N
      · rw [if_pos z, z, up_s]
      · rw [if_neg z, up_i z, hF5.row 80 rfl]
    have f83 : ∀ y, y < 1100 * h + s 71 18 ∨ 1100 * h + 1100 ≤ y → s10 83 y = s 83 y ∧ s10 84 y = s 84 y := fun y z => by
      have := e83 y (by omega)
      rw [up_k (by decide), up_k (by decide), hF5.row 83 rfl, hF5.row 84 rfl] at this
      exact this
    have f77 : ∀ y, s10 77 y = s 77 y := fun y => hF10.row 77 rfl y
    have f81 : ∀ y, s10 81 y = s 81 y := fun y => hF10.row 81 rfl y
    have f82 : ∀ y, s10 82 y = s 82 y := fun y => hF10.row 82 rfl y
    clear e83 e0 h78 h79 hF5 h1 h2
    by_cases z : (lnT c (σ0 76) n m x).2.1 = 0
    · rw [if_pos z]
      rw [if_pos z] at hs'
      obtain ⟨c1, c2, c3, c4⟩ := hc z
      subst c1
      obtain ⟨d7, d18, dz, dq⟩ := eg z
      have hlx : lnX (tkT c (σ0 76) n m) (nwT c (σ0 76) n m) (t0T c (σ0 76) n m) (vaT c n m) (plT c n m) x = lnT c (σ0 76) n m x := rfl
      rw [hlx]
      generalize lnT c (σ0 76) n m x = L at *
      rw [← hxe]
      dsimp only
      rw [← eti]
      -- the world
      have w71 : ∀ y, s' 71 y = s10 71 y := fun y => by
        rw [hs', up_k (by decide)]
        split
        · rw [up_k (by decide), up_k (by decide), up_k (by decide)]
        · rfl
      have w83 : ∀ y, s' 83 y = s10 83 y ∧ s' 84 y = s10 84 y := fun y => by
        rw [hs', up_k (by decide), up_k (by decide)]
        split
        · rw [up_k (by decide), up_k (by decide), up_k (by decide), up_k (by decide), up_k (by decide), up_k (by decide)]; exact ⟨rfl, rfl⟩
        · exact ⟨rfl, rfl⟩
      have w78 : ∀ y, s' 78 y = (if y = 24 * h + N then tkM s i - 128 else s 78 y) ∧ s' 80 y = if y = 24 * h + N then 1100 * h + s 71 18 else s 80 y := fun y => by
        rw [hs', up_k (by decide), up_k (by decide)]
        split
        · rw [up_k (by decide), up_k (by decide), up_k (by decide), up_k (by decide), up_k (by decide), up_k (by decide)]; exact ⟨f78 y, f80 y⟩
        · exact ⟨f78 y, f80 y⟩
      have w77 : s' 77 h = N + 1 ∧ ∀ y, y ≠ h → s' 77 y = s 77 y := by
        refine ⟨by rw [hs', up_s], fun y hy => ?_⟩
        rw [hs', up_i hy]
        split
        · rw [up_k (by decide), up_k (by decide), up_k (by decide)]; exact f77 y
        · exact f77 y
      have w81 : s' 81 h = (if tkM s i = 128 then M + 1 else M) ∧ ∀ y, y ≠ h → s' 81 y = s 81 y := by
        rw [hs']
        refine ⟨?_, fun y hy => ?_⟩
        · rw [up_k (by decide)]
          by_cases v : tkM s i = 128
          · rw [if_pos v, if_pos v, up_s]
          · rw [if_neg v, if_neg v, f81]; exact gM
        · rw [up_k (by decide)]
          by_cases v : tkM s i = 128
          · rw [if_pos v, up_i hy, up_k (by decide), up_k (by decide)]; exact f81 y
          · rw [if_neg v]; exact f81 y
      have w79 : ∀ y, s' 79 y = if y = 24 * h + N then lnN (tkT c (σ0 76) n m) (twX (nwT c (σ0 76) n m) (t0T c (σ0 76) n m) (vaT c n m) ((i, 0, N, M, nm, kd, nu, ln, K, W) : TXs)) M i else s 79 y := fun y => by
        rw [hs', up_k (by decide)]
        unfold lnN
        rw [← eti]
        by_cases v : tkM s i = 128
        · rw [if_pos v, up_k (by decide), up_k (by decide), if_pos v]
          by_cases u : y = 24 * h + N
          · rw [if_pos u, u, up_s]
          · rw [if_neg u, up_i u, f79, if_neg u]
        · rw [if_neg v, if_neg v, f79]
          by_cases u : y = 24 * h + N
          · rw [if_pos u, if_pos u]
            by_cases p : tkM s i = 130 ∨ tkM s i = 131
            · rw [if_pos p, c2 p]
              have hi1 : i < m := by
                by_cases o : i = m
                · rw [o, htm] at p; omega
                · omega
              exact (ht (i + 1) (by omega) (by omega)).2.1
            · rw [if_neg p]; exact c3 (by omega)
          · rw [if_neg u, if_neg u]
      have w82 : ∀ k, 0 ≤ k → k < (if tkM s i = 128 then M + 1 else M) → s' 82 (8 * h + k) = (if tkM s i = 128 then fup nm M (vaT c n m (i + 1)) else nm) k := fun k k0 k1 => by
        rw [hs', up_k (by decide)]
        by_cases v : tkM s i = 128
        · rw [if_pos v] at k1 ⊢
          rw [if_pos v, up_k (by decide)]
          by_cases u : k = M
          · rw [u, up_s, fup_s, (c4 v).1]
            have hi1 : i < m := by
              by_cases o : i = m
              · rw [o, htm] at v; omega
              · omega
            have hb := BT_rows hBs (j := i + 1) (by omega) (by omega)
            refine hb.2.2 (fun o => ?_)
            have t3 : tkM s (i + 1) = 0 := by unfold tkM; rw [if_pos o]
            have hz : (lnP (tkM s) (twM s) (s 74) N M (S0x i)).2.1 = 0 := by rw [eL]; exact z
            unfold lnP at hz
            rw [if_neg (show ¬ ¬ (128 ≤ tkM s (S0x i).1 ∧ tkM s (S0x i).1 ≤ 131) from fun z => z ⟨q.1, q.2.1⟩), if_neg q.2.2] at hz
            have hs5 := U_S htm hpl hz
            have hk0 : tkM s (S0x i).1 - 128 = 0 := by show tkM s i - 128 = 0; omega
            rw [hk0] at hs5
            unfold hdS at hs5
            rw [if_pos rfl] at hs5
            have hs6 := tsg_f hs5
            unfold tnn at hs6
            have z0 : (pAd (S0x i)).2.1 = 0 := rfl
            have z1 : (pAd (S0x i)).1 = i + 1 := rfl
            rw [if_neg (by omega), z1, if_pos (by omega)] at hs6
            have hs6 : 1 + 16 * s 74 (i + 1) = 0 := hs6
            have := hpl (i + 1) (by omega) (by omega)
            omega
          · rw [up_i (by omega), up_k (by decide), fup_o u, f82]
            exact gn k k0 (by omega)
        · rw [if_neg v] at k1 ⊢
          rw [if_neg v, f82]
          exact gn k k0 k1
      have hM1 : 0 ≤ (if tkM s i = 128 then M + 1 else M) ∧ (if tkM s i = 128 then M + 1 else M) ≤ 8 := by
        split
        · rename_i v; have := (c4 v).2; omega
        · omega
      have hN1 : N < 24 := by have := q.2.2; omega
      refine ⟨⟨?_, fun y hy => ?_, fun y hy => ?_, fun y hy => ?_⟩, ?_, Int.le_refl _, ?_, ?_, ?_, ?_, fun _ => ?_⟩
      · refine Fr.tr (r1 := [77, 78, 79, 80, 81, 82, 83, 84]) (r2 := [77, 78, 79, 80, 81, 82, 83, 84]) (s2 := [(71, 7), (71, 8), (71, 18)]) rf1 ?_ rfl rfl
        rw [hs']
        refine Fr.up ?_ rfl
        have hF11 : Fr [77, 78, 79, 80, 81, 82, 83, 84] [(71, 7), (71, 8), (71, 18)] s s10 := Fr.tr hF10 (Fr.rf (rows := []) (sl := [])) rfl rfl
        split
        · exact ((hF11.up rfl).up rfl).up rfl
        · exact hF11
      · rw [w77.2 y hy, w81.2 y hy]; exact rf2 y hy
      · rw [(w78 y).1, (w78 y).2, w79, if_neg (by omega), if_neg (by omega), if_neg (by omega)]; exact rf3 y hy
      · rw [(w83 y).1, (w83 y).2, (f83 y (by omega)).1, (f83 y (by omega)).2]; exact rf4 y hy
      · rw [w71, e8]; exact z
      · rw [w71]; exact e7
      · rw [w71, w71]; omega
      · rw [w77.1]; omega
      · rw [w81.1]; exact hM1
      · refine ⟨?_, w77.1, w81.1, w82, fun l l0 l1 => ?_⟩
        · rw [w71]; exact d7
        · have l1 : l < N + 1 := l1
          show s' 78 (24 * h + l) = fup kd N (tkM s i - 128) l ∧ s' 79 (24 * h + l) = fup nu N _ l ∧ (1100 * h ≤ s' 80 (24 * h + l) ∧ s' 80 (24 * h + l) + fup ln N L.2.2.1 l < 1100 * h + s' 71 18) ∧ (∀ q, 0 ≤ q → q < fup ln N L.2.2.1 l → s' 83 (s' 80 (24 * h + l) + q) = opOf (fuk K N L.2.2.2.1 l q) ∧ s' 84 (s' 80 (24 * h + l) + q) = fuk W N L.2.2.2.2 l q) ∧ s' 83 (s' 80 (24 * h + l) + fup ln N L.2.2.1 l) = 0
          rw [(w78 _).1, (w78 _).2, w79, w71]
          by_cases u : l = N
          · rw [u, if_pos rfl, if_pos rfl, if_pos rfl, fup_s, fup_s, fup_s, show fuk K N L.2.2.2.1 N = L.2.2.2.1 by unfold fuk; rw [if_pos rfl], show fuk W N L.2.2.2.2 N = L.2.2.2.2 by unfold fuk; rw [if_pos rfl]]
            refine ⟨rfl, rfl, by omega, fun q q0 q1 => ?_, ?_⟩
            · rw [(w83 _).1, (w83 _).2]; exact dq q q0 q1
            · rw [(w83 _).1]; exact dz
          · rw [if_neg (by omega), if_neg (by omega), if_neg (by omega), fup_o u, fup_o u, fup_o u, show fuk K N L.2.2.2.1 l = K l by unfold fuk; rw [if_neg u], show fuk W N L.2.2.2.2 l = W l by unfold fuk; rw [if_neg u]]
            obtain ⟨p1, p2, p3, p4, p5⟩ := gl l l0 (by omega)
            have hln := hlnO l l0 (by omega)
            refine ⟨p1, p2, by omega, fun q q0 q1 => ?_, ?_⟩
            · rw [(w83 _).1, (w83 _).2, (f83 _ (by omega)).1, (f83 _ (by omega)).2]; exact p4 q q0 q1
            · rw [(w83 _).1, (f83 _ (by omega)).1]; exact p5
    · have hlx : lnX (tkT c (σ0 76) n m) (nwT c (σ0 76) n m) (t0T c (σ0 76) n m) (vaT c n m) (plT c n m) x = lnT c (σ0 76) n m x := rfl
      rw [if_neg z, hlx]
      rw [if_neg z] at hs'
      have w71 : ∀ y, s' 71 y = s10 71 y := fun y => by rw [hs', up_k (by decide)]
      have hN1 : N < 24 := by have := q.2.2; omega
      refine ⟨⟨?_, fun y hy => ?_, fun y hy => ?_, fun y hy => ?_⟩, ?_, e80, ?_, ?_, ?_, ?_, fun o => absurd o z⟩
      · refine Fr.tr (r1 := [77, 78, 79, 80, 81, 82, 83, 84]) (r2 := [77, 78, 79, 80, 81, 82, 83, 84]) (s2 := [(71, 7), (71, 8), (71, 18)]) rf1 ?_ rfl rfl
        rw [hs']
        refine Fr.up ?_ rfl
        exact Fr.tr hF10 (Fr.rf (rows := []) (sl := [])) rfl rfl
      · rw [hs', up_i hy, up_k (by decide), f77, f81]; exact rf2 y hy
      · rw [hs', up_k (by decide), up_k (by decide), up_k (by decide), f78, f79, f80, if_neg (by omega), if_neg (by omega), if_neg (by omega)]; exact rf3 y hy
      · rw [hs', up_k (by decide), up_k (by decide), (f83 y (by omega)).1, (f83 y (by omega)).2]; exact rf4 y hy
      · rw [w71, e8]
      · rw [w71]; exact e7
      · rw [w71, w71]; omega
      · rw [hs', up_s]; omega
      · rw [hs', up_k (by decide), f81]; exact r81
  · obtain ⟨a1, a2⟩ := h2 (by rw [g7]; exact q)
    rw [g7] at a2
    have a2 : s' 71 8 = (lnP (tkM s) (twM s) (s 74) N M (S0x i)).2.1 := a2
    have hne : 0 < (lnP (tkM s) (twM s) (s 74) N M (S0x i)).2.1 := by
      have := hpl i (by omega) (by omega)
      unfold lnP
      by_cases v : ¬ (128 ≤ tkM s (S0x i).1 ∧ tkM s (S0x i).1 ≤ 131)
      · rw [if_pos v]; show 0 < 1 + 16 * s 74 i; omega
      · rw [if_neg v]
        have v : 128 ≤ tkM s i ∧ tkM s i ≤ 131 := by
          by_cases o : 128 ≤ tkM s i ∧ tkM s i ≤ 131
          · exact o
          · exact absurd o v
        rw [if_pos (by omega)]; show 0 < 5 + 16 * s 74 i; omega
    rw [eL] at a2 hne
    have hlx : lnX (tkT c (σ0 76) n m) (nwT c (σ0 76) n m) (t0T c (σ0 76) n m) (vaT c n m) (plT c n m) x = lnT c (σ0 76) n m x := rfl
    rw [hlx, if_neg (by omega)]
    refine ⟨⟨Fr.tr rf1 a1 rfl rfl, fun y hy => ?_, fun y hy => ?_, fun y hy => ?_⟩, a2, Int.le_of_lt hne, ?_, ?_, ?_, ?_, fun o => absurd o (Int.ne_of_gt hne)⟩
    · rw [a1.row 77 rfl, a1.row 81 rfl]; exact rf2 y hy
    · rw [a1.row 78 rfl, a1.row 79 rfl, a1.row 80 rfl]; exact rf3 y hy
    · rw [a1.row 83 rfl, a1.row 84 rfl]; exact rf4 y hy
    · rw [a1.at 71 7 rfl]; exact r7
    · rw [a1.at 71 7 rfl, a1.at 71 18 rfl]; exact r18
    · rw [a1.row 77 rfl]; exact r77
    · rw [a1.row 81 rfl]; exact r81

theorem erun_kn {nm kn kn' K W : Int → Int} {n : Int} (h : ∀ m, 0 ≤ m → m < n → K m = 4 → kn (W m) = kn' (W m)) : ∀ j : Nat, (j : Int) ≤ n → erun nm kn K W j = erun nm kn' K W j := by
  intro j
  induction j with
  | zero => intro _; rfl
  | succ j ih =>
    intro hj
    have e : erun nm kn K W ((j + 1 : Nat) : Int) = _ := erun_s (n := j) (by omega)
    have e' : erun nm kn' K W ((j + 1 : Nat) : Int) = _ := erun_s (n := j) (by omega)
    rw [e, e', ih (by omega)]
    have hp : pln nm kn (K j) (W j) = pln nm kn' (K j) (W j) := by
      unfold pln
      by_cases q : K j = 3
      · rw [if_pos q, if_pos q]
      · rw [if_neg q, if_neg q]
        by_cases q4 : K j = 4
        · rw [if_pos q4, if_pos q4]; exact h j (by omega) (by omega) q4
        · rw [if_neg q4, if_neg q4]
    unfold estep
    rw [hp]
theorem vln_kn {nm kn kn' : Int → Int} {N : Int} {kd nu len : Int → Int} {K W : Int → Int → Int} (h : WT N kd nu len K W) {l : Int} (h0 : 0 ≤ l) (h1 : l < N) (hn : ∀ w, 0 ≤ w → w < 12 → kn w = kn' w) : vln nm kn K W len l = vln nm kn' K W len l := by
  have hl := h.2.2 l h0 h1
  unfold vln
  have := erun_kn (nm := nm) (kn := kn) (kn' := kn') (K := K l) (W := W l) (n := len l) (fun m m0 m1 hk => by
    have := (hl.2.2.1.1 m m0 m1).1
    unfold okst isBin at this
    exact hn _ (by omega) (by omega)) (len l).toNat (by omega)
  rw [Int.toNat_of_nonneg hl.2.1] at this
  rw [this]
theorem nms_kn {kn kn' : Int → Int} {N : Int} {kd nu len : Int → Int} {K W : Int → Int → Int} (h : WT N kd nu len K W) (hn : ∀ w, 0 ≤ w → w < 12 → kn w = kn' w) : ∀ j : Nat, (j : Int) ≤ N → nms kn kd nu len K W j = nms kn' kd nu len K W j := by
  intro j
  induction j with
  | zero => intro _; rfl
  | succ j ih =>
    intro hj
    have e : nms kn kd nu len K W ((j + 1 : Nat) : Int) = _ := nms_s (n := j) (by omega)
    have e' : nms kn' kd nu len K W ((j + 1 : Nat) : Int) = _ := nms_s (n := j) (by omega)
    rw [e, e', ih (by omega), vln_kn h (by omega) (by omega) hn]
theorem hld_kn {kn kn' : Int → Int} {N : Int} {kd nu len : Int → Int} {K W : Int → Int → Int} (h : WT N kd nu len K W) (hn : ∀ w, 0 ≤ w → w < 12 → kn w = kn' w) {k l : Int} (h0 : 0 ≤ l) (h1 : l < N) : hld kn kd nu len K W k l = hld kn' kd nu len K W k l := by
  have e := nms_kn h hn l.toNat (by omega)
  rw [Int.toNat_of_nonneg h0] at e
  unfold hld vl
  rw [e, vln_kn h h0 h1 hn]
theorem frst_c {g g' nu : Int → Int} {N : Int} (h : ∀ l, 0 ≤ l → l < N → g l = g' l) : frst g nu N = frst g' nu N := foldZ_congr (fun i i0 i1 x => by rw [h i i0 i1])
/-- the stone of a piece: as told, or by the first stone line that holds -/
def stn (st kn : Int → Int) (N : Int) (kd nu len : Int → Int) (K W : Int → Int → Int) (p : Int) : Int := if st p = -1 then frst (hld kn kd nu len K W 3) nu N else st p

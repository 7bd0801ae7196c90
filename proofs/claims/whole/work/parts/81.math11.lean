-- a text's lines: kind (0 let, 1 bar, 2 doubt, 3 stone), number, steps
theorem erun_nm {nm nm' kn K W : Int → Int} {n : Int} (h : ∀ m, 0 ≤ m → m < n → K m = 3 → nm (W m) = nm' (W m)) : ∀ j : Nat, (j : Int) ≤ n → erun nm kn K W j = erun nm' kn K W j := by
  intro j
  induction j with
  | zero => intro _; rfl
  | succ j ih =>
    intro hj
    have e : erun nm kn K W ((j + 1 : Nat) : Int) = _ := erun_s (n := j) (by omega)
    have e' : erun nm' kn K W ((j + 1 : Nat) : Int) = _ := erun_s (n := j) (by omega)
    rw [e, e', ih (by omega)]
    have hp : pln nm kn (K j) (W j) = pln nm' kn (K j) (W j) := by
      unfold pln
      by_cases q : K j = 3
      · rw [if_pos q, if_pos q]; exact h j (by omega) (by omega) q
      · rw [if_neg q, if_neg q]
    unfold estep
    rw [hp]
def vln (nm kn : Int → Int) (K W : Int → Int → Int) (len : Int → Int) (l : Int) : Int := (erun nm kn (K l) (W l) (len l)).2 0
def nms (kn kd nu len : Int → Int) (K W : Int → Int → Int) (n : Int) : Int → Int := foldZ (fun l nm => if kd l = 0 then fup nm (nu l) (vln nm kn K W len l) else nm) n (fun _ => 0)
theorem nms_s {kn kd nu len : Int → Int} {K W : Int → Int → Int} {n : Int} (h : 0 ≤ n) : nms kn kd nu len K W (n + 1) = (if kd n = 0 then fup (nms kn kd nu len K W n) (nu n) (vln (nms kn kd nu len K W n) kn K W len n) else nms kn kd nu len K W n) := foldZ_s h
def letc (kd : Int → Int) (n : Int) : Int := cnt kd 0 n
/-- what a text that was read is like -/
def WT (N : Int) (kd nu len : Int → Int) (K W : Int → Int → Int) : Prop := (0 ≤ N ∧ N ≤ 24) ∧ letc kd N ≤ 8 ∧ ∀ l, 0 ≤ l → l < N → (0 ≤ kd l ∧ kd l ≤ 3) ∧ 0 ≤ len l ∧ WF (K l) (W l) (len l) ∧ (kd l = 0 → nu l = letc kd l) ∧ (∀ m, 0 ≤ m → m < len l → K l m = 3 → 0 ≤ W l m ∧ W l m < letc kd l)
theorem vln_nm {nm nm' kn : Int → Int} {N : Int} {kd nu len : Int → Int} {K W : Int → Int → Int} (h : WT N kd nu len K W) {l : Int} (h0 : 0 ≤ l) (h1 : l < N) (hn : ∀ w, 0 ≤ w → w < letc kd l → nm w = nm' w) : vln nm kn K W len l = vln nm' kn K W len l := by
  have hl := h.2.2 l h0 h1
  unfold vln
  have := erun_nm (nm := nm) (nm' := nm') (kn := kn) (K := K l) (W := W l) (n := len l) (fun m m0 m1 hk => by
    have := hl.2.2.2.2 m m0 m1 hk
    exact hn _ this.1 this.2) (len l).toNat (by omega)
  rw [Int.toNat_of_nonneg hl.2.1] at this
  rw [this]
/-- names told stay as they are -/
theorem nms_keep {kn : Int → Int} {N : Int} {kd nu len : Int → Int} {K W : Int → Int → Int} (h : WT N kd nu len K W) {l : Int} (h0 : 0 ≤ l) : ∀ j : Nat, l + j ≤ N → ∀ w, w < letc kd l → nms kn kd nu len K W (l + j) w = nms kn kd nu len K W l w := by
  intro j
  induction j with
  | zero => intro _ w _; simp
  | succ j ih =>
    intro hj w hw
    have e : nms kn kd nu len K W (l + j + 1) = _ := nms_s (n := l + j) (by omega)
    rw [show l + ((j + 1 : Nat) : Int) = l + j + 1 by omega, e]
    by_cases q : kd (l + j) = 0
    · rw [if_pos q, (h.2.2 (l + j) (by omega) (by omega)).2.2.2.1 q]
      have hm := sumZ_mono (f := fun p => b2i (kd p = 0)) (n := l + j) (fun _ _ _ => b2i_bd.1) l h0 (by omega)
      have hm : letc kd l ≤ letc kd (l + j) := hm
      rw [fup_o (by omega)]
      exact ih (by omega) w hw
    · rw [if_neg q]; exact ih (by omega) w hw

-- lines that hold
def vl (kn kd nu len : Int → Int) (K W : Int → Int → Int) (l : Int) : Int := vln (nms kn kd nu len K W l) kn K W len l
def hld (kn kd nu len : Int → Int) (K W : Int → Int → Int) (k l : Int) : Int := b2i (kd l = k ∧ vl kn kd nu len K W l ≠ 0)
theorem hld_bd {kn kd nu len : Int → Int} {K W : Int → Int → Int} {k l : Int} : 0 ≤ hld kn kd nu len K W k l ∧ hld kn kd nu len K W k l ≤ 1 := b2i_bd
def frst (g nu : Int → Int) (N : Int) : Int := foldZ (fun l x => if x = -1 then (if g l = 1 then nu l else -1) else x) N (-1)
theorem frst_s {g nu : Int → Int} {n : Int} (h : 0 ≤ n) : frst g nu (n + 1) = if frst g nu n = -1 then (if g n = 1 then nu n else -1) else frst g nu n := foldZ_s h
theorem frst_f {g nu : Int → Int} {l : Int} (h0 : 0 ≤ l) (h : frst g nu l = -1) (hg : g l = 1) (hn : nu l ≠ -1) : ∀ j : Nat, frst g nu (l + 1 + j) = nu l := by
  intro j
  induction j with
  | zero => simp; rw [frst_s h0, if_pos h, if_pos hg]
  | succ j ih =>
    have e : frst g nu (l + 1 + j + 1) = _ := frst_s (n := l + 1 + j) (by omega)
    rw [show l + 1 + ((j + 1 : Nat) : Int) = l + 1 + j + 1 by omega, e, ih, if_neg hn]
/-- class rows (Rules at cell B) hold this text -/
def CT (σ : Sg) (B : Nat) (N : Int) (kd nu len : Int → Int) (K W : Int → Int → Int) : Prop := σ B 0 = N ∧ ∀ l, 0 ≤ l → l < N → σ (B + 1) l = 128 + kd l ∧ σ (B + 2) l = nu l ∧ σ (B + 3) (l + 1) = σ (B + 3) l + len l ∧ (0 ≤ σ (B + 3) l ∧ σ (B + 3) l + len l ≤ 1000) ∧ ∀ m, 0 ≤ m → m < len l → pAnd (σ (B + 4) (σ (B + 3) l + m)) 255 = K l m ∧ pShr (σ (B + 4) (σ (B + 3) l + m)) 8 = W l m

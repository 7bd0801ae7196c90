-- how a line's steps run
abbrev ES : Type := Int × (Int → Int)
def estep (nm kn : Int → Int) (k w : Int) (s : ES) : ES := if k = 135 then (s.1, fup s.2 (s.1 - 1) (nt (s.2 (s.1 - 1)))) else if k = 2 ∨ k = 3 ∨ k = 4 then (s.1 + 1, fup s.2 s.1 (pln nm kn k w)) else (s.1 - 1, fup s.2 (s.1 - 2) (bino k (s.2 (s.1 - 2)) (s.2 (s.1 - 1))))
def erun (nm kn K W : Int → Int) (n : Int) : ES := foldZ (fun i s => estep nm kn (K i) (W i) s) n (0, fun _ => 0)
theorem erun_s {nm kn K W : Int → Int} {n : Int} (h : 0 ≤ n) : erun nm kn K W (n + 1) = estep nm kn (K n) (W n) (erun nm kn K W n) := foldZ_s h
def hgt (K : Int → Int) (n : Int) : Int := foldZ (fun i h => if K i = 135 then h else if K i = 2 ∨ K i = 3 ∨ K i = 4 then h + 1 else h - 1) n 0
theorem hgt_s {K : Int → Int} {n : Int} (h : 0 ≤ n) : hgt K (n + 1) = (if K n = 135 then hgt K n else if K n = 2 ∨ K n = 3 ∨ K n = 4 then hgt K n + 1 else hgt K n - 1) := foldZ_s h
theorem erun_h {nm kn K W : Int → Int} : ∀ n : Nat, (erun nm kn K W n).1 = hgt K n := by
  intro n
  induction n with
  | zero => rfl
  | succ n ih =>
    have e : erun nm kn K W ((n + 1 : Nat) : Int) = _ := erun_s (n := n) (by omega)
    have e2 : hgt K ((n + 1 : Nat) : Int) = _ := hgt_s (n := n) (by omega)
    rw [e, e2]
    unfold estep
    split
    · exact ih
    · split
      · dsimp only; omega
      · dsimp only; omega
def okst (k w h : Int) : Prop := (k = 135 ∧ 1 ≤ h) ∨ ((k = 2 ∨ (k = 3 ∧ 0 ≤ w ∧ w < 8) ∨ (k = 4 ∧ 0 ≤ w ∧ w < 12)) ∧ 0 ≤ h ∧ h < 32) ∨ (isBin k ∧ 2 ≤ h)
/-- a line's steps are sound: the stack holds what they take, and one is left -/
def WF (K W : Int → Int) (n : Int) : Prop := (∀ i, 0 ≤ i → i < n → okst (K i) (W i) (hgt K i) ∧ hgt K i ≤ 32) ∧ hgt K n = 1
def AG (R : Int → Int) (s : ES) : Prop := ∀ i, 0 ≤ i → i < s.1 → R i = s.2 i
theorem AG_not {nm kn R : Int → Int} {k w : Int} {s : ES} (h : AG R s) (hk : k = 135) (h1 : 1 ≤ s.1) : AG (fup R (s.1 - 1) (nt (R (s.1 - 1)))) (estep nm kn k w s) := by
  unfold estep
  rw [if_pos hk]
  intro i i0 i1
  dsimp only at i1 ⊢
  by_cases q : i = s.1 - 1
  · rw [q, fup_s, fup_s, h (s.1 - 1) (by omega) (by omega)]
  · rw [fup_o q, fup_o q]; exact h i i0 i1
theorem AG_pln {nm kn R : Int → Int} {k w : Int} {s : ES} (h : AG R s) (hk : k = 2 ∨ k = 3 ∨ k = 4) : AG (fup R s.1 (pln nm kn k w)) (estep nm kn k w s) := by
  unfold estep
  rw [if_neg (by omega), if_pos hk]
  intro i i0 i1
  dsimp only at i1 ⊢
  by_cases q : i = s.1
  · rw [q, fup_s, fup_s]
  · rw [fup_o q, fup_o q]; exact h i i0 (by omega)
theorem AG_bin {nm kn R : Int → Int} {k w : Int} {s : ES} (h : AG R s) (hk : isBin k) (h2 : 2 ≤ s.1) : AG (fup R (s.1 - 2) (bino k (R (s.1 - 2)) (R (s.1 - 1)))) (estep nm kn k w s) := by
  unfold isBin at hk
  unfold estep
  rw [if_neg (by omega), if_neg (by omega)]
  intro i i0 i1
  dsimp only at i1 ⊢
  by_cases q : i = s.1 - 2
  · rw [q, fup_s, fup_s, h (s.1 - 2) (by omega) (by omega), h (s.1 - 1) (by omega) (by omega)]
  · rw [fup_o q, fup_o q]; exact h i i0 (by omega)

/-- references by a table -/
def lk : List (Nat × Nat × Nat) → Nat → Nat → Nat
  | [], _, _ => 2
  | e :: T, k, f => if k = e.1 ∧ f = e.2.1 then e.2.2 else lk T k f
/-- a world under construction: the first n cells -/
def Wc (n : Nat) (T : List (Nat × Nat × Nat)) (σ : Sg) : pW := (sh0.take n, lk T, σ)
theorem lk_n {n : Nat} : ∀ {T : List (Nat × Nat × Nat)}, T.all (fun e => !(Nat.beq e.1 n)) = true → ∀ f, lk T n f = 2 := by
  intro T
  induction T with
  | nil => intro _ f; rfl
  | cons e T ih =>
    intro h f
    rw [List.all_cons, Bool.and_eq_true] at h
    unfold lk
    rw [if_neg (fun z => by rw [z.1, Nat.beq_refl] at h; exact absurd h.1 (by decide))]
    exact ih h.2 f
theorem cl2_id {ι α : Type} {f : Nat → ι → α} {n : Nat} {v : α} (h : ∀ i, f n i = v) : cl2 f n v = f := by
  funext k i
  unfold cl2
  split
  · rename_i z; rw [z]; exact (h i).symm
  · rfl
theorem take_l {n : Nat} (h : Nat.ble n 123 = true) : (sh0.take n).length = n := by
  have h := Nat.le_of_ble_eq_true h
  have e : sh0.length = 123 := rfl
  rw [List.length_take, e]; omega
theorem Wc_b {a b : Nat} {T T' : List (Nat × Nat × Nat)} {σ σ' : Sg} (h1 : Nat.ble (sh0.take a).length (sh0.take b).length = true) (h2 : Nat.ble ((sh0.take a).map (fun q => q.2)).sum ((sh0.take b).map (fun q => q.2)).sum = true) : (Wc a T σ).1.length ≤ (Wc b T' σ').1.length ∧ nS (Wc a T σ) ≤ nS (Wc b T' σ') := ⟨Nat.le_of_ble_eq_true h1, Nat.le_of_ble_eq_true h2⟩
section PN
variable {Φ : pC} {code : Nat → Option pT} {E : pE} {pc nx : Nat} {L S : List pV} {T : List (Nat × Nat × Nat)} {σ : Sg}
theorem Wc_n {n : Nat} {q : Nat × Nat} (hs : sh0[n]? = some q) (hl : Nat.ble n 123 = true) (hT : T.all (fun e => !(Nat.beq e.1 n)) = true) (hσ : ∀ i, σ n i = 0) : (((sh0.take n) ++ [q], cl2 (lk T) (sh0.take n).length 2, cl2 σ (sh0.take n).length 0) : pW) = Wc (n + 1) T σ := by
  unfold Wc
  rw [take_l hl, cl2_id (lk_n hT), cl2_id hσ, List.take_succ, hs]
  rfl
theorem N_newa {tag N n : Nat} {x : Int} (h : code pc = some (i_newa tag nx)) (hx : x = (N : Int)) (hN : Nat.blt N 1000000 = true) (hs : sh0[n]? = some (tag, N)) (hl : Nat.ble n 123 = true) (hT : T.all (fun e => !(Nat.beq e.1 n)) = true) (hσ : ∀ i, σ n i = 0) (k : pCm Φ code E nx L ((n + 16, 0) :: S) (Wc (n + 1) T σ)) : pCm Φ code E pc L ((0, x) :: S) (Wc n T σ) := by
  refine R_newa h hx hN ?_
  have e := Wc_n hs hl hT hσ
  have el := take_l hl
  show pCm Φ code E nx L (((sh0.take n).length + 16, 0) :: S) (((sh0.take n) ++ [(tag, N)], cl2 (lk T) (sh0.take n).length 2, cl2 σ (sh0.take n).length 0) : pW)
  rw [e, el]; exact k
theorem N_new {ci N n : Nat} (h : code pc = some (i_new ci N nx)) (hs : sh0[n]? = some (ci + 4, N)) (hl : Nat.ble n 123 = true) (hT : T.all (fun e => !(Nat.beq e.1 n)) = true) (hσ : ∀ i, σ n i = 0) (k : pCm Φ code E nx L ((n + 16, 0) :: S) (Wc (n + 1) T σ)) : pCm Φ code E pc L S (Wc n T σ) := by
  refine R_new h ?_
  have e := Wc_n hs hl hT hσ
  have el := take_l hl
  show pCm Φ code E nx L (((sh0.take n).length + 16, 0) :: S) (((sh0.take n) ++ [(ci + 4, N)], cl2 (lk T) (sh0.take n).length 2, cl2 σ (sh0.take n).length 0) : pW)
  rw [e, el]; exact k
theorem N_putr {ci f o n m v : Nat} {y z : Int} (h : code pc = some (i_putr ci f nx)) (hs : (sh0.take n)[o]? = some (ci + 4, m)) (hf : Nat.blt f m = true) (k : pCm Φ code E nx L S (Wc n ((o, f, v + 16) :: T) σ)) : pCm Φ code E pc L ((v + 16, y) :: (o + 16, z) :: S) (Wc n T σ) := R_putr (w := Wc n T σ) h hs hf k
theorem N_getr {ci f o n m v : Nat} {z : Int} (h : code pc = some (i_getr ci f nx)) (hs : (sh0.take n)[o]? = some (ci + 4, m)) (hf : Nat.blt f m = true) (hv : lk T o f = v) (k : pCm Φ code E nx L ((v, 0) :: S) (Wc n T σ)) : pCm Φ code E pc L ((o + 16, z) :: S) (Wc n T σ) := R_getr (w := Wc n T σ) h hs hf hv k
theorem N_puti {ci o n m : Nat} {f : Int} {x z : Int} (h : code pc = some (i_puti ci f nx)) (hs : (sh0.take n)[o]? = some (ci + 4, m)) (hf : (decide (0 ≤ f) && decide (f < m)) = true) (k : pCm Φ code E nx L S (Wc n T (up2 σ o f x))) : pCm Φ code E pc L ((0, x) :: (o + 16, z) :: S) (Wc n T σ) := R_puti (w := Wc n T σ) h hs hf k
theorem N_last {o n m : Nat} {x i z : Int} (h : code pc = some (i_ast 1 1 id nx)) (hs : (sh0.take n)[o]? = some (1, m)) (h0 : 0 ≤ i) (hi : i < m) (k : pCm Φ code E nx L S (Wc n T (up2 σ o i x))) : pCm Φ code E pc L ((1, x) :: (0, i) :: (o + 16, z) :: S) (Wc n T σ) := R_ast (w := Wc n T σ) h hs h0 hi k
end PN
set_option maxRecDepth 20000 in
set_option maxHeartbeats 2000000 in
theorem ct_X6_init_2 (d : Nat) (hd : 1 ≤ d) (σ : Sg) (hz : ∀ (k : Nat) (i : Int), 2 ≤ k → σ k i = 0) : Ev d 209 [(17, 0)] (Wc 2 [] σ) (8, 0) (Wc 12 [(1, 10, 27), (1, 9, 26), (1, 8, 25), (1, 7, 24), (1, 6, 23), (1, 5, 22), (1, 4, 21), (1, 3, 20), (1, 2, 19), (1, 1, 18)] (σ)) := by
  obtain ⟨d, rfl⟩ : ∃ e, d = e + 1 := ⟨d - 1, by omega⟩
  refine evP (nL := 1) (code := k_X6_init) rfl (Wc_b rfl rfl) rfl (fun E hE => ?_)
  show pCm (Ev d) k_X6_init E 0 [(17, 0)] [] _
  refine R_aload rfl rfl rfl ?_
  refine R_oinit rfl rfl ?_
  refine R_aload rfl rfl rfl ?_
  refine R_push rfl ?_
  refine N_newa (N := 40) rfl rfl rfl rfl rfl rfl (fun i => by first | exact hz _ _ (by decide) | (skip; exact hz _ _ (by decide))) ?_
  refine N_putr (v := 2) (o := 1) rfl rfl rfl ?_
  refine R_aload rfl rfl rfl ?_
  refine R_push rfl ?_
  refine N_newa (N := 40) rfl rfl rfl rfl rfl rfl (fun i => by first | exact hz _ _ (by decide) | (skip; exact hz _ _ (by decide))) ?_
  refine N_putr (v := 3) (o := 1) rfl rfl rfl ?_
  refine R_aload rfl rfl rfl ?_
  refine R_push rfl ?_
  refine N_newa (N := 40) rfl rfl rfl rfl rfl rfl (fun i => by first | exact hz _ _ (by decide) | (skip; exact hz _ _ (by decide))) ?_
  refine N_putr (v := 4) (o := 1) rfl rfl rfl ?_
  refine R_aload rfl rfl rfl ?_
  refine R_push rfl ?_
  refine N_newa (N := 40) rfl rfl rfl rfl rfl rfl (fun i => by first | exact hz _ _ (by decide) | (skip; exact hz _ _ (by decide))) ?_
  refine N_putr (v := 5) (o := 1) rfl rfl rfl ?_
  refine R_aload rfl rfl rfl ?_
  refine R_push rfl ?_
  refine N_newa (N := 40) rfl rfl rfl rfl rfl rfl (fun i => by first | exact hz _ _ (by decide) | (skip; exact hz _ _ (by decide))) ?_
  refine N_putr (v := 6) (o := 1) rfl rfl rfl ?_
  refine R_aload rfl rfl rfl ?_
  refine R_push rfl ?_
  refine N_newa (N := 40) rfl rfl rfl rfl rfl rfl (fun i => by first | exact hz _ _ (by decide) | (skip; exact hz _ _ (by decide))) ?_
  refine N_putr (v := 7) (o := 1) rfl rfl rfl ?_
  refine R_aload rfl rfl rfl ?_
  refine R_push rfl ?_
  refine N_newa (N := 40) rfl rfl rfl rfl rfl rfl (fun i => by first | exact hz _ _ (by decide) | (skip; exact hz _ _ (by decide))) ?_
  refine N_putr (v := 8) (o := 1) rfl rfl rfl ?_
  refine R_aload rfl rfl rfl ?_
  refine R_push rfl ?_
  refine N_newa (N := 40) rfl rfl rfl rfl rfl rfl (fun i => by first | exact hz _ _ (by decide) | (skip; exact hz _ _ (by decide))) ?_
  refine N_putr (v := 9) (o := 1) rfl rfl rfl ?_
  refine R_aload rfl rfl rfl ?_
  refine R_push rfl ?_
  refine N_newa (N := 40) rfl rfl rfl rfl rfl rfl (fun i => by first | exact hz _ _ (by decide) | (skip; exact hz _ _ (by decide))) ?_
  refine N_putr (v := 10) (o := 1) rfl rfl rfl ?_
  refine R_aload rfl rfl rfl ?_
  refine R_push rfl ?_
  refine N_newa (N := 40) rfl rfl rfl rfl rfl rfl (fun i => by first | exact hz _ _ (by decide) | (skip; exact hz _ _ (by decide))) ?_
  refine N_putr (v := 11) (o := 1) rfl rfl rfl ?_
  refine R_vret rfl ?_
  exact hE _ rfl
set_option maxRecDepth 20000 in
set_option maxHeartbeats 2000000 in
theorem ct_X1_init_13 (d : Nat) (hd : 1 ≤ d) (σ : Sg) (hz : ∀ (k : Nat) (i : Int), 13 ≤ k → σ k i = 0) : Ev d 151 [(28, 0)] (Wc 13 [(0, 0, 17), (1, 10, 27), (1, 9, 26), (1, 8, 25), (1, 7, 24), (1, 6, 23), (1, 5, 22), (1, 4, 21), (1, 3, 20), (1, 2, 19), (1, 1, 18)] σ) (8, 0) (Wc 21 [(12, 7, 36), (12, 6, 35), (12, 5, 34), (12, 4, 33), (12, 3, 32), (12, 2, 31), (12, 1, 30), (12, 0, 29), (0, 0, 17), (1, 10, 27), (1, 9, 26), (1, 8, 25), (1, 7, 24), (1, 6, 23), (1, 5, 22), (1, 4, 21), (1, 3, 20), (1, 2, 19), (1, 1, 18)] (σ)) := by
  obtain ⟨d, rfl⟩ : ∃ e, d = e + 1 := ⟨d - 1, by omega⟩
  refine evP (nL := 1) (code := k_X1_init) rfl (Wc_b rfl rfl) rfl (fun E hE => ?_)
  show pCm (Ev d) k_X1_init E 0 [(28, 0)] [] _
  refine R_aload rfl rfl rfl ?_
  refine R_oinit rfl rfl ?_
  refine R_aload rfl rfl rfl ?_
  refine R_push rfl ?_
  refine N_newa (N := 40) rfl rfl rfl rfl rfl rfl (fun i => by first | exact hz _ _ (by decide) | (skip; exact hz _ _ (by decide))) ?_
  refine N_putr (v := 13) (o := 12) rfl rfl rfl ?_
  refine R_aload rfl rfl rfl ?_
  refine R_push rfl ?_
  refine N_newa (N := 320) rfl rfl rfl rfl rfl rfl (fun i => by first | exact hz _ _ (by decide) | (skip; exact hz _ _ (by decide))) ?_
  refine N_putr (v := 14) (o := 12) rfl rfl rfl ?_
  refine R_aload rfl rfl rfl ?_
  refine R_push rfl ?_
  refine N_newa (N := 320) rfl rfl rfl rfl rfl rfl (fun i => by first | exact hz _ _ (by decide) | (skip; exact hz _ _ (by decide))) ?_
  refine N_putr (v := 15) (o := 12) rfl rfl rfl ?_
  refine R_aload rfl rfl rfl ?_
  refine R_push rfl ?_
  refine N_newa (N := 320) rfl rfl rfl rfl rfl rfl (fun i => by first | exact hz _ _ (by decide) | (skip; exact hz _ _ (by decide))) ?_
  refine N_putr (v := 16) (o := 12) rfl rfl rfl ?_
  refine R_aload rfl rfl rfl ?_
  refine R_push rfl ?_
  refine N_newa (N := 320) rfl rfl rfl rfl rfl rfl (fun i => by first | exact hz _ _ (by decide) | (skip; exact hz _ _ (by decide))) ?_
  refine N_putr (v := 17) (o := 12) rfl rfl rfl ?_
  refine R_aload rfl rfl rfl ?_
  refine R_push rfl ?_
  refine N_newa (N := 320) rfl rfl rfl rfl rfl rfl (fun i => by first | exact hz _ _ (by decide) | (skip; exact hz _ _ (by decide))) ?_
  refine N_putr (v := 18) (o := 12) rfl rfl rfl ?_
  refine R_aload rfl rfl rfl ?_
  refine R_push rfl ?_
  refine N_newa (N := 8) rfl rfl rfl rfl rfl rfl (fun i => by first | exact hz _ _ (by decide) | (skip; exact hz _ _ (by decide))) ?_
  refine N_putr (v := 19) (o := 12) rfl rfl rfl ?_
  refine R_aload rfl rfl rfl ?_
  refine R_push rfl ?_
  refine N_newa (N := 8) rfl rfl rfl rfl rfl rfl (fun i => by first | exact hz _ _ (by decide) | (skip; exact hz _ _ (by decide))) ?_
  refine N_putr (v := 20) (o := 12) rfl rfl rfl ?_
  refine R_vret rfl ?_
  exact hE _ rfl
set_option maxRecDepth 20000 in
set_option maxHeartbeats 2000000 in
theorem ct_X4_init_22 (d : Nat) (hd : 1 ≤ d) (σ : Sg) (hz : ∀ (k : Nat) (i : Int), 22 ≤ k → σ k i = 0) : Ev d 191 [(37, 0)] (Wc 22 [(0, 1, 28), (12, 7, 36), (12, 6, 35), (12, 5, 34), (12, 4, 33), (12, 3, 32), (12, 2, 31), (12, 1, 30), (12, 0, 29), (0, 0, 17), (1, 10, 27), (1, 9, 26), (1, 8, 25), (1, 7, 24), (1, 6, 23), (1, 5, 22), (1, 4, 21), (1, 3, 20), (1, 2, 19), (1, 1, 18)] σ) (8, 0) (Wc 28 [(21, 6, 43), (21, 5, 42), (21, 4, 41), (21, 3, 40), (21, 2, 39), (21, 1, 38), (0, 1, 28), (12, 7, 36), (12, 6, 35), (12, 5, 34), (12, 4, 33), (12, 3, 32), (12, 2, 31), (12, 1, 30), (12, 0, 29), (0, 0, 17), (1, 10, 27), (1, 9, 26), (1, 8, 25), (1, 7, 24), (1, 6, 23), (1, 5, 22), (1, 4, 21), (1, 3, 20), (1, 2, 19), (1, 1, 18)] (σ)) := by
  obtain ⟨d, rfl⟩ : ∃ e, d = e + 1 := ⟨d - 1, by omega⟩
  refine evP (nL := 1) (code := k_X4_init) rfl (Wc_b rfl rfl) rfl (fun E hE => ?_)
  show pCm (Ev d) k_X4_init E 0 [(37, 0)] [] _
  refine R_aload rfl rfl rfl ?_
  refine R_oinit rfl rfl ?_
  refine R_aload rfl rfl rfl ?_
  refine R_push rfl ?_
  refine N_newa (N := 80) rfl rfl rfl rfl rfl rfl (fun i => by first | exact hz _ _ (by decide) | (skip; exact hz _ _ (by decide))) ?_
  refine N_putr (v := 22) (o := 21) rfl rfl rfl ?_
  refine R_aload rfl rfl rfl ?_
  refine R_push rfl ?_
  refine N_newa (N := 80) rfl rfl rfl rfl rfl rfl (fun i => by first | exact hz _ _ (by decide) | (skip; exact hz _ _ (by decide))) ?_
  refine N_putr (v := 23) (o := 21) rfl rfl rfl ?_
  refine R_aload rfl rfl rfl ?_
  refine R_push rfl ?_
  refine N_newa (N := 80) rfl rfl rfl rfl rfl rfl (fun i => by first | exact hz _ _ (by decide) | (skip; exact hz _ _ (by decide))) ?_
  refine N_putr (v := 24) (o := 21) rfl rfl rfl ?_
  refine R_aload rfl rfl rfl ?_
  refine R_push rfl ?_
  refine N_newa (N := 80) rfl rfl rfl rfl rfl rfl (fun i => by first | exact hz _ _ (by decide) | (skip; exact hz _ _ (by decide))) ?_
  refine N_putr (v := 25) (o := 21) rfl rfl rfl ?_
  refine R_aload rfl rfl rfl ?_
  refine R_push rfl ?_
  refine N_newa (N := 80) rfl rfl rfl rfl rfl rfl (fun i => by first | exact hz _ _ (by decide) | (skip; exact hz _ _ (by decide))) ?_
  refine N_putr (v := 26) (o := 21) rfl rfl rfl ?_
  refine R_aload rfl rfl rfl ?_
  refine R_push rfl ?_
  refine N_newa (N := 80) rfl rfl rfl rfl rfl rfl (fun i => by first | exact hz _ _ (by decide) | (skip; exact hz _ _ (by decide))) ?_
  refine N_putr (v := 27) (o := 21) rfl rfl rfl ?_
  refine R_vret rfl ?_
  exact hE _ rfl
set_option maxRecDepth 20000 in
set_option maxHeartbeats 2000000 in
theorem ct_X3_init_29 (d : Nat) (hd : 1 ≤ d) (σ : Sg) (hz : ∀ (k : Nat) (i : Int), 29 ≤ k → σ k i = 0) : Ev d 174 [(44, 0), (17, 0), (37, 0)] (Wc 29 [(0, 2, 37), (21, 6, 43), (21, 5, 42), (21, 4, 41), (21, 3, 40), (21, 2, 39), (21, 1, 38), (0, 1, 28), (12, 7, 36), (12, 6, 35), (12, 5, 34), (12, 4, 33), (12, 3, 32), (12, 2, 31), (12, 1, 30), (12, 0, 29), (0, 0, 17), (1, 10, 27), (1, 9, 26), (1, 8, 25), (1, 7, 24), (1, 6, 23), (1, 5, 22), (1, 4, 21), (1, 3, 20), (1, 2, 19), (1, 1, 18)] σ) (8, 0) (Wc 36 [(28, 1, 37), (28, 0, 17), (28, 8, 51), (28, 7, 50), (28, 6, 49), (28, 5, 48), (28, 4, 47), (28, 3, 46), (28, 2, 45), (0, 2, 37), (21, 6, 43), (21, 5, 42), (21, 4, 41), (21, 3, 40), (21, 2, 39), (21, 1, 38), (0, 1, 28), (12, 7, 36), (12, 6, 35), (12, 5, 34), (12, 4, 33), (12, 3, 32), (12, 2, 31), (12, 1, 30), (12, 0, 29), (0, 0, 17), (1, 10, 27), (1, 9, 26), (1, 8, 25), (1, 7, 24), (1, 6, 23), (1, 5, 22), (1, 4, 21), (1, 3, 20), (1, 2, 19), (1, 1, 18)] (σ)) := by
  obtain ⟨d, rfl⟩ : ∃ e, d = e + 1 := ⟨d - 1, by omega⟩
  refine evP (nL := 3) (code := k_X3_init) rfl (Wc_b rfl rfl) rfl (fun E hE => ?_)
  show pCm (Ev d) k_X3_init E 0 [(44, 0), (17, 0), (37, 0)] [] _
  refine R_aload rfl rfl rfl ?_
  refine R_oinit rfl rfl ?_
  refine R_aload rfl rfl rfl ?_
  refine R_push rfl ?_
  refine N_newa (N := 40) rfl rfl rfl rfl rfl rfl (fun i => by first | exact hz _ _ (by decide) | (skip; exact hz _ _ (by decide))) ?_
  refine N_putr (v := 29) (o := 28) rfl rfl rfl ?_
  refine R_aload rfl rfl rfl ?_
  refine R_push rfl ?_
  refine N_newa (N := 40) rfl rfl rfl rfl rfl rfl (fun i => by first | exact hz _ _ (by decide) | (skip; exact hz _ _ (by decide))) ?_
  refine N_putr (v := 30) (o := 28) rfl rfl rfl ?_
  refine R_aload rfl rfl rfl ?_
  refine R_push rfl ?_
  refine N_newa (N := 40) rfl rfl rfl rfl rfl rfl (fun i => by first | exact hz _ _ (by decide) | (skip; exact hz _ _ (by decide))) ?_
  refine N_putr (v := 31) (o := 28) rfl rfl rfl ?_
  refine R_aload rfl rfl rfl ?_
  refine R_push rfl ?_
  refine N_newa (N := 40) rfl rfl rfl rfl rfl rfl (fun i => by first | exact hz _ _ (by decide) | (skip; exact hz _ _ (by decide))) ?_
  refine N_putr (v := 32) (o := 28) rfl rfl rfl ?_
  refine R_aload rfl rfl rfl ?_
  refine R_push rfl ?_
  refine N_newa (N := 40) rfl rfl rfl rfl rfl rfl (fun i => by first | exact hz _ _ (by decide) | (skip; exact hz _ _ (by decide))) ?_
  refine N_putr (v := 33) (o := 28) rfl rfl rfl ?_
  refine R_aload rfl rfl rfl ?_
  refine R_push rfl ?_
  refine N_newa (N := 40) rfl rfl rfl rfl rfl rfl (fun i => by first | exact hz _ _ (by decide) | (skip; exact hz _ _ (by decide))) ?_
  refine N_putr (v := 34) (o := 28) rfl rfl rfl ?_
  refine R_aload rfl rfl rfl ?_
  refine R_push rfl ?_
  refine N_newa (N := 5) rfl rfl rfl rfl rfl rfl (fun i => by first | exact hz _ _ (by decide) | (skip; exact hz _ _ (by decide))) ?_
  refine N_putr (v := 35) (o := 28) rfl rfl rfl ?_
  refine R_aload rfl rfl rfl ?_
  refine R_aload rfl rfl rfl ?_
  refine N_putr (v := 1) (o := 28) rfl rfl rfl ?_
  refine R_aload rfl rfl rfl ?_
  refine R_aload rfl rfl rfl ?_
  refine N_putr (v := 21) (o := 28) rfl rfl rfl ?_
  refine R_vret rfl ?_
  exact hE _ rfl
set_option maxRecDepth 20000 in
set_option maxHeartbeats 2000000 in
theorem ct_X8_init_38 (d : Nat) (hd : 1 ≤ d) (σ : Sg) (hz : ∀ (k : Nat) (i : Int), 38 ≤ k → σ k i = 0) : Ev d 232 [(53, 0)] (Wc 38 [(0, 3, 44), (28, 1, 37), (28, 0, 17), (28, 8, 51), (28, 7, 50), (28, 6, 49), (28, 5, 48), (28, 4, 47), (28, 3, 46), (28, 2, 45), (0, 2, 37), (21, 6, 43), (21, 5, 42), (21, 4, 41), (21, 3, 40), (21, 2, 39), (21, 1, 38), (0, 1, 28), (12, 7, 36), (12, 6, 35), (12, 5, 34), (12, 4, 33), (12, 3, 32), (12, 2, 31), (12, 1, 30), (12, 0, 29), (0, 0, 17), (1, 10, 27), (1, 9, 26), (1, 8, 25), (1, 7, 24), (1, 6, 23), (1, 5, 22), (1, 4, 21), (1, 3, 20), (1, 2, 19), (1, 1, 18)] σ) (8, 0) (Wc 44 [(37, 8, 59), (37, 7, 58), (37, 6, 57), (37, 5, 56), (37, 4, 55), (37, 3, 54), (0, 3, 44), (28, 1, 37), (28, 0, 17), (28, 8, 51), (28, 7, 50), (28, 6, 49), (28, 5, 48), (28, 4, 47), (28, 3, 46), (28, 2, 45), (0, 2, 37), (21, 6, 43), (21, 5, 42), (21, 4, 41), (21, 3, 40), (21, 2, 39), (21, 1, 38), (0, 1, 28), (12, 7, 36), (12, 6, 35), (12, 5, 34), (12, 4, 33), (12, 3, 32), (12, 2, 31), (12, 1, 30), (12, 0, 29), (0, 0, 17), (1, 10, 27), (1, 9, 26), (1, 8, 25), (1, 7, 24), (1, 6, 23), (1, 5, 22), (1, 4, 21), (1, 3, 20), (1, 2, 19), (1, 1, 18)] (σ)) := by
  obtain ⟨d, rfl⟩ : ∃ e, d = e + 1 := ⟨d - 1, by omega⟩
  refine evP (nL := 1) (code := k_X8_init) rfl (Wc_b rfl rfl) rfl (fun E hE => ?_)
  show pCm (Ev d) k_X8_init E 0 [(53, 0)] [] _
  refine R_aload rfl rfl rfl ?_
  refine R_oinit rfl rfl ?_
  refine R_aload rfl rfl rfl ?_
  refine R_push rfl ?_
  refine N_newa (N := 24) rfl rfl rfl rfl rfl rfl (fun i => by first | exact hz _ _ (by decide) | (skip; exact hz _ _ (by decide))) ?_
  refine N_putr (v := 38) (o := 37) rfl rfl rfl ?_
  refine R_aload rfl rfl rfl ?_
  refine R_push rfl ?_
  refine N_newa (N := 24) rfl rfl rfl rfl rfl rfl (fun i => by first | exact hz _ _ (by decide) | (skip; exact hz _ _ (by decide))) ?_
  refine N_putr (v := 39) (o := 37) rfl rfl rfl ?_
  refine R_aload rfl rfl rfl ?_
  refine R_push rfl ?_
  refine N_newa (N := 25) rfl rfl rfl rfl rfl rfl (fun i => by first | exact hz _ _ (by decide) | (skip; exact hz _ _ (by decide))) ?_
  refine N_putr (v := 40) (o := 37) rfl rfl rfl ?_
  refine R_aload rfl rfl rfl ?_
  refine R_push rfl ?_
  refine N_newa (N := 1000) rfl rfl rfl rfl rfl rfl (fun i => by first | exact hz _ _ (by decide) | (skip; exact hz _ _ (by decide))) ?_
  refine N_putr (v := 41) (o := 37) rfl rfl rfl ?_
  refine R_aload rfl rfl rfl ?_
  refine R_push rfl ?_
  refine N_newa (N := 8) rfl rfl rfl rfl rfl rfl (fun i => by first | exact hz _ _ (by decide) | (skip; exact hz _ _ (by decide))) ?_
  refine N_putr (v := 42) (o := 37) rfl rfl rfl ?_
  refine R_aload rfl rfl rfl ?_
  refine R_push rfl ?_
  refine N_newa (N := 32) rfl rfl rfl rfl rfl rfl (fun i => by first | exact hz _ _ (by decide) | (skip; exact hz _ _ (by decide))) ?_
  refine N_putr (v := 43) (o := 37) rfl rfl rfl ?_
  refine R_vret rfl ?_
  exact hE _ rfl
set_option maxRecDepth 20000 in
set_option maxHeartbeats 2000000 in
theorem ct_X8_init_45 (d : Nat) (hd : 1 ≤ d) (σ : Sg) (hz : ∀ (k : Nat) (i : Int), 45 ≤ k → σ k i = 0) : Ev d 232 [(60, 0)] (Wc 45 [(36, 3, 53), (37, 8, 59), (37, 7, 58), (37, 6, 57), (37, 5, 56), (37, 4, 55), (37, 3, 54), (0, 3, 44), (28, 1, 37), (28, 0, 17), (28, 8, 51), (28, 7, 50), (28, 6, 49), (28, 5, 48), (28, 4, 47), (28, 3, 46), (28, 2, 45), (0, 2, 37), (21, 6, 43), (21, 5, 42), (21, 4, 41), (21, 3, 40), (21, 2, 39), (21, 1, 38), (0, 1, 28), (12, 7, 36), (12, 6, 35), (12, 5, 34), (12, 4, 33), (12, 3, 32), (12, 2, 31), (12, 1, 30), (12, 0, 29), (0, 0, 17), (1, 10, 27), (1, 9, 26), (1, 8, 25), (1, 7, 24), (1, 6, 23), (1, 5, 22), (1, 4, 21), (1, 3, 20), (1, 2, 19), (1, 1, 18)] σ) (8, 0) (Wc 51 [(44, 8, 66), (44, 7, 65), (44, 6, 64), (44, 5, 63), (44, 4, 62), (44, 3, 61), (36, 3, 53), (37, 8, 59), (37, 7, 58), (37, 6, 57), (37, 5, 56), (37, 4, 55), (37, 3, 54), (0, 3, 44), (28, 1, 37), (28, 0, 17), (28, 8, 51), (28, 7, 50), (28, 6, 49), (28, 5, 48), (28, 4, 47), (28, 3, 46), (28, 2, 45), (0, 2, 37), (21, 6, 43), (21, 5, 42), (21, 4, 41), (21, 3, 40), (21, 2, 39), (21, 1, 38), (0, 1, 28), (12, 7, 36), (12, 6, 35), (12, 5, 34), (12, 4, 33), (12, 3, 32), (12, 2, 31), (12, 1, 30), (12, 0, 29), (0, 0, 17), (1, 10, 27), (1, 9, 26), (1, 8, 25), (1, 7, 24), (1, 6, 23), (1, 5, 22), (1, 4, 21), (1, 3, 20), (1, 2, 19), (1, 1, 18)] (σ)) := by
  obtain ⟨d, rfl⟩ : ∃ e, d = e + 1 := ⟨d - 1, by omega⟩
  refine evP (nL := 1) (code := k_X8_init) rfl (Wc_b rfl rfl) rfl (fun E hE => ?_)
  show pCm (Ev d) k_X8_init E 0 [(60, 0)] [] _
  refine R_aload rfl rfl rfl ?_
  refine R_oinit rfl rfl ?_
  refine R_aload rfl rfl rfl ?_
  refine R_push rfl ?_
  refine N_newa (N := 24) rfl rfl rfl rfl rfl rfl (fun i => by first | exact hz _ _ (by decide) | (skip; exact hz _ _ (by decide))) ?_
  refine N_putr (v := 45) (o := 44) rfl rfl rfl ?_
  refine R_aload rfl rfl rfl ?_
  refine R_push rfl ?_
  refine N_newa (N := 24) rfl rfl rfl rfl rfl rfl (fun i => by first | exact hz _ _ (by decide) | (skip; exact hz _ _ (by decide))) ?_
  refine N_putr (v := 46) (o := 44) rfl rfl rfl ?_
  refine R_aload rfl rfl rfl ?_
  refine R_push rfl ?_
  refine N_newa (N := 25) rfl rfl rfl rfl rfl rfl (fun i => by first | exact hz _ _ (by decide) | (skip; exact hz _ _ (by decide))) ?_
  refine N_putr (v := 47) (o := 44) rfl rfl rfl ?_
  refine R_aload rfl rfl rfl ?_
  refine R_push rfl ?_
  refine N_newa (N := 1000) rfl rfl rfl rfl rfl rfl (fun i => by first | exact hz _ _ (by decide) | (skip; exact hz _ _ (by decide))) ?_
  refine N_putr (v := 48) (o := 44) rfl rfl rfl ?_
  refine R_aload rfl rfl rfl ?_
  refine R_push rfl ?_
  refine N_newa (N := 8) rfl rfl rfl rfl rfl rfl (fun i => by first | exact hz _ _ (by decide) | (skip; exact hz _ _ (by decide))) ?_
  refine N_putr (v := 49) (o := 44) rfl rfl rfl ?_
  refine R_aload rfl rfl rfl ?_
  refine R_push rfl ?_
  refine N_newa (N := 32) rfl rfl rfl rfl rfl rfl (fun i => by first | exact hz _ _ (by decide) | (skip; exact hz _ _ (by decide))) ?_
  refine N_putr (v := 50) (o := 44) rfl rfl rfl ?_
  refine R_vret rfl ?_
  exact hE _ rfl
set_option maxRecDepth 20000 in
set_option maxHeartbeats 2000000 in
theorem ct_X5_init_37 (d : Nat) (hd : 2 ≤ d) (σ : Sg) (hz : ∀ (k : Nat) (i : Int), 37 ≤ k → σ k i = 0) : Ev d 199 [(52, 0), (17, 0), (28, 0)] (Wc 37 [(0, 3, 44), (28, 1, 37), (28, 0, 17), (28, 8, 51), (28, 7, 50), (28, 6, 49), (28, 5, 48), (28, 4, 47), (28, 3, 46), (28, 2, 45), (0, 2, 37), (21, 6, 43), (21, 5, 42), (21, 4, 41), (21, 3, 40), (21, 2, 39), (21, 1, 38), (0, 1, 28), (12, 7, 36), (12, 6, 35), (12, 5, 34), (12, 4, 33), (12, 3, 32), (12, 2, 31), (12, 1, 30), (12, 0, 29), (0, 0, 17), (1, 10, 27), (1, 9, 26), (1, 8, 25), (1, 7, 24), (1, 6, 23), (1, 5, 22), (1, 4, 21), (1, 3, 20), (1, 2, 19), (1, 1, 18)] σ) (8, 0) (Wc 52 [(36, 1, 28), (36, 0, 17), (36, 5, 67), (36, 4, 60), (44, 8, 66), (44, 7, 65), (44, 6, 64), (44, 5, 63), (44, 4, 62), (44, 3, 61), (36, 3, 53), (37, 8, 59), (37, 7, 58), (37, 6, 57), (37, 5, 56), (37, 4, 55), (37, 3, 54), (0, 3, 44), (28, 1, 37), (28, 0, 17), (28, 8, 51), (28, 7, 50), (28, 6, 49), (28, 5, 48), (28, 4, 47), (28, 3, 46), (28, 2, 45), (0, 2, 37), (21, 6, 43), (21, 5, 42), (21, 4, 41), (21, 3, 40), (21, 2, 39), (21, 1, 38), (0, 1, 28), (12, 7, 36), (12, 6, 35), (12, 5, 34), (12, 4, 33), (12, 3, 32), (12, 2, 31), (12, 1, 30), (12, 0, 29), (0, 0, 17), (1, 10, 27), (1, 9, 26), (1, 8, 25), (1, 7, 24), (1, 6, 23), (1, 5, 22), (1, 4, 21), (1, 3, 20), (1, 2, 19), (1, 1, 18)] (up2 (σ) 36 2 (20))) := by
  obtain ⟨d, rfl⟩ : ∃ e, d = e + 1 := ⟨d - 1, by omega⟩
  refine evP (nL := 3) (code := k_X5_init) rfl (Wc_b rfl rfl) rfl (fun E hE => ?_)
  show pCm (Ev d) k_X5_init E 0 [(52, 0), (17, 0), (28, 0)] [] _
  refine R_aload rfl rfl rfl ?_
  refine R_oinit rfl rfl ?_
  refine R_aload rfl rfl rfl ?_
  refine R_push rfl ?_
  refine N_puti rfl rfl rfl ?_
  refine R_aload rfl rfl rfl ?_
  refine N_new rfl rfl rfl rfl (fun i => by first | exact hz _ _ (by decide) | (rw [up_k (by decide)]; exact hz _ _ (by decide))) ?_
  refine R_dup rfl rfl ?_
  refine R_invi rfl rfl rfl rfl rfl (ct_X8_init_38 d (by omega) (up2 (σ) 36 2 (20)) (fun k i hk => by first | exact hz k i (by omega) | (rw [up_k (by omega)]; exact hz k i (by omega)))) rfl ?_
  show pCm _ _ _ 18 _ [(53, 0), (52, 0)] _
  refine N_putr (v := 37) (o := 36) rfl rfl rfl ?_
  refine R_aload rfl rfl rfl ?_
  refine N_new rfl rfl rfl rfl (fun i => by first | exact hz _ _ (by decide) | (rw [up_k (by decide)]; exact hz _ _ (by decide))) ?_
  refine R_dup rfl rfl ?_
  refine R_invi rfl rfl rfl rfl rfl (ct_X8_init_45 d (by omega) (up2 (σ) 36 2 (20)) (fun k i hk => by first | exact hz k i (by omega) | (rw [up_k (by omega)]; exact hz k i (by omega)))) rfl ?_
  show pCm _ _ _ 29 _ [(60, 0), (52, 0)] _
  refine N_putr (v := 44) (o := 36) rfl rfl rfl ?_
  refine R_aload rfl rfl rfl ?_
  refine R_push rfl ?_
  refine N_newa (N := 12) rfl rfl rfl rfl rfl rfl (fun i => by first | exact hz _ _ (by decide) | (rw [up_k (by decide)]; exact hz _ _ (by decide))) ?_
  refine N_putr (v := 51) (o := 36) rfl rfl rfl ?_
  refine R_aload rfl rfl rfl ?_
  refine R_aload rfl rfl rfl ?_
  refine N_putr (v := 1) (o := 36) rfl rfl rfl ?_
  refine R_aload rfl rfl rfl ?_
  refine R_aload rfl rfl rfl ?_
  refine N_putr (v := 12) (o := 36) rfl rfl rfl ?_
  refine R_vret rfl ?_
  exact hE _ rfl

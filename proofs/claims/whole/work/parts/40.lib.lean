/-! words for walks over the pure machine -/
abbrev Sg : Type := Nat → Int → Int
abbrev Wd (xs : List (Nat × Nat)) (t dd rr : Nat) (σ : Sg) : pW := (sh0 ++ xs, rf0 t dd rr, σ)
theorem ev_in {d μ : Nat} {as : List pV} {w w' : pW} {r : pV} (hb : w.1.length ≤ w'.1.length ∧ nS w ≤ nS w') (hf : Nat.ble (as.flatMap (fun v => if v.1 = 1 then [v, ((9, 0) : pV)] else [v])).length (pP μ).1 = true) (h : pCm (Ev d) (pP μ).2 (fun r1 w1 => r1 = r ∧ w1 = w') 0 (pEnt (pP μ).1 as) [] w) : Ev (d + 1) μ as w r w' := ⟨hb, hf, h⟩
section PL
variable {Φ : pC} {code : Nat → Option pT} {E : pE} {pc nx : Nat} {L S : List pV} {w : pW}
theorem loop {α : Type} (μ : α → Nat) (St : α → List pV × pW) (I : α → Prop) (body : ∀ a, I a → (∀ a', I a' → μ a' < μ a → pCm Φ code E pc (St a').1 [] (St a').2) → pCm Φ code E pc (St a).1 [] (St a).2) (a : α) (h : I a) : pCm Φ code E pc (St a).1 [] (St a).2 := by
  have key : ∀ n a, μ a ≤ n → I a → pCm Φ code E pc (St a).1 [] (St a).2 := by
    intro n
    induction n with
    | zero => intro a hn hI; exact body a hI (fun a' _ hlt => absurd hlt (by omega))
    | succ n ih => intro a hn hI; exact body a hI (fun a' hI' hlt => ih a' (by omega) hI')
  exact key (μ a) a (Nat.le_refl _) h
theorem pIdiv_nn {a b : Int} (h0 : 0 ≤ a) (h1 : a < 2147483648) (hb : 0 < b ∧ b < 2147483648) : pIdiv a b = a / b := by
  unfold pIdiv
  rw [Int32.toInt_div, i32_toInt (by unfold r32; omega), i32_toInt (by unfold r32; omega), Int.tdiv_eq_ediv_of_nonneg h0]
  have h2 : 0 ≤ a / b := Int.ediv_nonneg h0 (by omega)
  have h3 : a / b ≤ a := Int.ediv_le_self b h0
  simp only [Int.bmod]
  rw [Int.emod_eq_of_lt (by omega) (by omega)]
  split <;> omega
theorem pIrem_nn {a b : Int} (h0 : 0 ≤ a) (h1 : a < 2147483648) (hb : 0 < b ∧ b < 2147483648) : pIrem a b = a % b := by
  have hd := pIdiv_nn h0 h1 hb
  have ra : r32 a := by unfold r32; omega
  have rb : r32 b := by unfold r32; omega
  have hm : 0 ≤ a % b := Int.emod_nonneg _ (by omega)
  have hm2 : a % b < b := Int.emod_lt_of_pos _ (by omega)
  have e1 : i32 a / i32 b = i32 (a / b) := by rw [← hd]; unfold pIdiv; rw [i32_of]
  unfold pIrem
  rw [e1, ← i32_mul, i32_w, ← i32_sub, i32_w, i32_toInt]
  · have := Int.mul_ediv_add_emod a b
    rw [Int.mul_comm (a / b) b]; omega
  · have := Int.mul_ediv_add_emod a b
    rw [Int.mul_comm (a / b) b]; unfold r32; omega
theorem R_dv {a b : Int} (h : code pc = some (i_div pIdiv nx)) (h0 : 0 ≤ a) (h1 : a < 2147483648) (hb : 0 < b ∧ b < 2147483648) (k : pCm Φ code E nx L ((0, a / b) :: S) w) : pCm Φ code E pc L ((0, b) :: (0, a) :: S) w := R_div h (by omega) (by rw [pIdiv_nn h0 h1 hb]; exact k)
theorem R_rm {a b : Int} (h : code pc = some (i_div pIrem nx)) (h0 : 0 ≤ a) (h1 : a < 2147483648) (hb : 0 < b ∧ b < 2147483648) (k : pCm Φ code E nx L ((0, a % b) :: S) w) : pCm Φ code E pc L ((0, b) :: (0, a) :: S) w := R_div h (by omega) (by rw [pIrem_nn h0 h1 hb]; exact k)
theorem w64_id {x : Int} (h : r64 x) : w64 x = x := by unfold r64 at h; unfold w64; omega
theorem R_ladd {a b : Int} (h : code pc = some (i_lbin (fun a b => w64 (a + b)) nx)) (h1 : -9223372036854775808 ≤ a + b) (h2 : a + b < 9223372036854775808) (k : pCm Φ code E nx L ((1, a + b) :: S) w) : pCm Φ code E pc L ((1, b) :: (1, a) :: S) w := R_lbin h (by rw [w64_id ⟨h1, h2⟩]; exact k)
theorem R_lsub {a b : Int} (h : code pc = some (i_lbin (fun a b => w64 (a - b)) nx)) (h1 : -9223372036854775808 ≤ a - b) (h2 : a - b < 9223372036854775808) (k : pCm Φ code E nx L ((1, a - b) :: S) w) : pCm Φ code E pc L ((1, b) :: (1, a) :: S) w := R_lbin h (by rw [w64_id ⟨h1, h2⟩]; exact k)
theorem R_lmul {a b : Int} (h : code pc = some (i_lbin (fun a b => w64 (a * b)) nx)) (h1 : -9223372036854775808 ≤ a * b) (h2 : a * b < 9223372036854775808) (k : pCm Φ code E nx L ((1, a * b) :: S) w) : pCm Φ code E pc L ((1, b) :: (1, a) :: S) w := R_lbin h (by rw [w64_id ⟨h1, h2⟩]; exact k)
def tswA (a lo : Int) (K : Nat → Prop) : List Nat → Prop
  | [] => True
  | t :: ts => (a = lo → K t) ∧ tswA a (lo + 1) K ts
theorem tswA_get {a : Int} {K : Nat → Prop} : ∀ (tb : List Nat) (lo : Int), tswA a lo K tb → ∀ (j tg : Nat), tb[j]? = some tg → a = lo + j → K tg
  | [], _, _, j, tg, h, _ => by simp at h
  | t :: ts, lo, h, 0, tg, hj, ha => by simp at hj; subst hj; exact h.1 (by omega)
  | t :: ts, lo, h, j + 1, tg, hj, ha => tswA_get ts (lo + 1) h.2 j tg (by simpa using hj) (by omega)
theorem R_tswL {lo : Int} {tb : List Nat} {df : Nat} {a : Int} (h : code pc = some (i_tsw lo tb df)) (kt : tswA a lo (fun tg => pCm Φ code E tg L S w) tb) (kf : (a < lo ∨ lo + tb.length ≤ a) → pCm Φ code E df L S w) : pCm Φ code E pc L ((0, a) :: S) w := R_tsw h (fun j tg h1 h2 => tswA_get tb lo kt j tg h1 h2) kf
def lswA (a : Int) (K : Nat → Prop) : List (Int × Nat) → Prop
  | [] => True
  | t :: ts => (a = t.1 → K t.2) ∧ lswA a K ts
theorem lswA_get {a : Int} {K : Nat → Prop} : ∀ (tb : List (Int × Nat)), lswA a K tb → ∀ q, q ∈ tb → a = q.1 → K q.2
  | [], _, q, h, _ => by simp at h
  | t :: ts, h, q, hq, ha => by
    rcases List.mem_cons.mp hq with rfl | hq
    · exact h.1 ha
    · exact lswA_get ts h.2 q hq ha
def lswN (a : Int) : List (Int × Nat) → Prop
  | [] => True
  | t :: ts => a ≠ t.1 ∧ lswN a ts
theorem lswN_of {a : Int} : ∀ (tb : List (Int × Nat)), (∀ q, q ∈ tb → a ≠ q.1) → lswN a tb
  | [], _ => trivial
  | t :: ts, h => ⟨h t List.mem_cons_self, lswN_of ts (fun q hq => h q (List.mem_cons_of_mem _ hq))⟩
theorem R_lswL {tb : List (Int × Nat)} {df : Nat} {a : Int} (h : code pc = some (i_lsw tb df)) (kt : lswA a (fun tg => pCm Φ code E tg L S w) tb) (kf : lswN a tb → pCm Φ code E df L S w) : pCm Φ code E pc L ((0, a) :: S) w := R_lsw h (fun q h1 h2 => lswA_get tb kt q h1 h2) (fun q => kf (lswN_of tb q))
end PL
-- sums and folds over 0 .. n - 1
def foldN {α : Type} (f : Int → α → α) : Nat → α → α
  | 0, a => a
  | n + 1, a => f n (foldN f n a)
def foldZ {α : Type} (f : Int → α → α) (n : Int) (a : α) : α := foldN f n.toNat a
theorem foldZ_0 {α : Type} {f : Int → α → α} {a : α} : foldZ f 0 a = a := rfl
theorem foldZ_s {α : Type} {f : Int → α → α} {a : α} {n : Int} (h : 0 ≤ n) : foldZ f (n + 1) a = f n (foldZ f n a) := by
  unfold foldZ
  rw [show (n + 1).toNat = n.toNat + 1 by omega]
  show f (n.toNat : Int) _ = _
  rw [Int.toNat_of_nonneg h]
theorem foldN_congr {α : Type} {f g : Int → α → α} {a : α} : ∀ (n : Nat), (∀ i : Int, 0 ≤ i → i < n → ∀ x, f i x = g i x) → foldN f n a = foldN g n a
  | 0, _ => rfl
  | n + 1, h => by
    show f n _ = g n _
    rw [foldN_congr n (fun i h0 h1 => h i h0 (by omega)), h n (by omega) (by omega)]
theorem foldZ_congr {α : Type} {f g : Int → α → α} {a : α} {n : Int} (h : ∀ i : Int, 0 ≤ i → i < n → ∀ x, f i x = g i x) : foldZ f n a = foldZ g n a := foldN_congr _ (fun i h0 h1 => h i h0 (by omega))
def sumZ (f : Int → Int) (n : Int) : Int := foldZ (fun i x => x + f i) n 0
theorem sumZ_0 {f : Int → Int} : sumZ f 0 = 0 := rfl
theorem sumZ_s {f : Int → Int} {n : Int} (h : 0 ≤ n) : sumZ f (n + 1) = sumZ f n + f n := foldZ_s h
theorem sumZ_congr {f g : Int → Int} {n : Int} (h : ∀ i : Int, 0 ≤ i → i < n → f i = g i) : sumZ f n = sumZ g n := foldZ_congr (fun i h0 h1 x => by rw [h i h0 h1])
theorem sumZ_bd {f : Int → Int} {c : Int} {n : Int} (h0 : 0 ≤ n) (h : ∀ i : Int, 0 ≤ i → i < n → 0 ≤ f i ∧ f i ≤ c) : 0 ≤ sumZ f n ∧ sumZ f n ≤ c * n := by
  have key : ∀ m : Nat, (m : Int) ≤ n → 0 ≤ sumZ f m ∧ sumZ f m ≤ c * m := by
    intro m
    induction m with
    | zero => intro _; exact ⟨Int.le_refl _, by simp [sumZ, foldZ, foldN]⟩
    | succ m ih =>
      intro hm
      have h1 := ih (by omega)
      have h2 := h m (by omega) (by omega)
      have e : sumZ f ((m + 1 : Nat) : Int) = sumZ f m + f m := sumZ_s (n := m) (by omega)
      rw [e]
      have e2 : c * ((m + 1 : Nat) : Int) = c * m + c := by rw [Int.natCast_add, Int.mul_add]; simp
      rw [e2]; omega
  have := key n.toNat (by omega)
  rwa [Int.toNat_of_nonneg h0] at this
def b2i (p : Prop) [Decidable p] : Int := if p then 1 else 0
theorem b2i_t {p : Prop} [Decidable p] (h : p) : b2i p = 1 := if_pos h
theorem b2i_f {p : Prop} [Decidable p] (h : ¬ p) : b2i p = 0 := if_neg h
theorem b2i_bd {p : Prop} [Decidable p] : 0 ≤ b2i p ∧ b2i p ≤ 1 := by unfold b2i; split <;> omega
theorem b2i_iff {p q : Prop} [Decidable p] [Decidable q] (h : p ↔ q) : b2i p = b2i q := by
  by_cases hp : p
  · rw [b2i_t hp, b2i_t (h.mp hp)]
  · rw [b2i_f hp, b2i_f (fun z => hp (h.mpr z))]
section PT
variable {Φ : pC} {code : Nat → Option pT} {E : pE} {pc nx : Nat} {L S : List pV} {sh : List (Nat × Nat)} {rf : Nat → Nat → Nat} {σ : Sg}
theorem T_geti {ci o n : Nat} {f : Int} {z : Int} (h : code pc = some (i_geti ci f nx)) (hs : sh[o]? = some (ci + 4, n)) (hf : (decide (0 ≤ f) && decide (f < n)) = true) (k : pCm Φ code E nx L ((0, σ o f) :: S) (sh, rf, σ)) : pCm Φ code E pc L ((o + 16, z) :: S) (sh, rf, σ) := R_geti h hs hf k
theorem T_getl {ci o n : Nat} {f : Int} {z : Int} (h : code pc = some (i_getl ci f nx)) (hs : sh[o]? = some (ci + 4, n)) (hf : (decide (0 ≤ f) && decide (f < n)) = true) (k : pCm Φ code E nx L ((1, σ o f) :: S) (sh, rf, σ)) : pCm Φ code E pc L ((o + 16, z) :: S) (sh, rf, σ) := R_getl h hs hf k
theorem T_getr {ci f o n : Nat} {z : Int} {v : Nat} (h : code pc = some (i_getr ci f nx)) (hs : sh[o]? = some (ci + 4, n)) (hf : Nat.blt f n = true) (hv : rf o f = v) (k : pCm Φ code E nx L ((v, 0) :: S) (sh, rf, σ)) : pCm Φ code E pc L ((o + 16, z) :: S) (sh, rf, σ) := R_getr h hs hf hv k
theorem T_puti {ci o n : Nat} {f : Int} {x z : Int} (h : code pc = some (i_puti ci f nx)) (hs : sh[o]? = some (ci + 4, n)) (hf : (decide (0 ≤ f) && decide (f < n)) = true) (k : pCm Φ code E nx L S (sh, rf, up2 σ o f x)) : pCm Φ code E pc L ((0, x) :: (o + 16, z) :: S) (sh, rf, σ) := R_puti h hs hf k
theorem T_putl {ci o n : Nat} {f : Int} {x z : Int} (h : code pc = some (i_putl ci f nx)) (hs : sh[o]? = some (ci + 4, n)) (hf : (decide (0 ≤ f) && decide (f < n)) = true) (k : pCm Φ code E nx L S (sh, rf, up2 σ o f x)) : pCm Φ code E pc L ((1, x) :: (o + 16, z) :: S) (sh, rf, σ) := R_putl h hs hf k
theorem T_putr {ci f o n v : Nat} {y z : Int} (h : code pc = some (i_putr ci f nx)) (hs : sh[o]? = some (ci + 4, n)) (hf : Nat.blt f n = true) (k : pCm Φ code E nx L S (sh, up2 rf o f (v + 16), σ)) : pCm Φ code E pc L ((v + 16, y) :: (o + 16, z) :: S) (sh, rf, σ) := R_putr h hs hf k
theorem T_ald {tag kd o n : Nat} {i z : Int} (h : code pc = some (i_ald tag kd nx)) (hs : sh[o]? = some (tag, n)) (h0 : 0 ≤ i) (hi : i < n) (k : pCm Φ code E nx L ((kd, σ o i) :: S) (sh, rf, σ)) : pCm Φ code E pc L ((0, i) :: (o + 16, z) :: S) (sh, rf, σ) := R_ald h hs h0 hi k
theorem T_iast {o n : Nat} {x i z : Int} (h : code pc = some (i_ast 0 0 id nx)) (hs : sh[o]? = some (0, n)) (h0 : 0 ≤ i) (hi : i < n) (k : pCm Φ code E nx L S (sh, rf, up2 σ o i x)) : pCm Φ code E pc L ((0, x) :: (0, i) :: (o + 16, z) :: S) (sh, rf, σ) := R_ast h hs h0 hi k
theorem T_last {o n : Nat} {x i z : Int} (h : code pc = some (i_ast 1 1 id nx)) (hs : sh[o]? = some (1, n)) (h0 : 0 ≤ i) (hi : i < n) (k : pCm Φ code E nx L S (sh, rf, up2 σ o i x)) : pCm Φ code E pc L ((1, x) :: (0, i) :: (o + 16, z) :: S) (sh, rf, σ) := R_ast h hs h0 hi k
theorem pNarZ_b {x : Int} (h : x = 0 ∨ x = 1) : pNarZ x = x := by rcases h with rfl | rfl <;> rfl
theorem T_zast {o n : Nat} {x i z : Int} (h : code pc = some (i_ast 3 0 pNarZ nx)) (hs : sh[o]? = some (3, n)) (h0 : 0 ≤ i) (hi : i < n) (hx : x = 0 ∨ x = 1) (k : pCm Φ code E nx L S (sh, rf, up2 σ o i x)) : pCm Φ code E pc L ((0, x) :: (0, i) :: (o + 16, z) :: S) (sh, rf, σ) := R_ast h hs h0 hi (by rw [pNarZ_b hx]; exact k)
theorem T_ast {tag kd o n : Nat} {f : Int → Int} {x i z : Int} (h : code pc = some (i_ast tag kd f nx)) (hs : sh[o]? = some (tag, n)) (h0 : 0 ≤ i) (hi : i < n) (k : pCm Φ code E nx L S (sh, rf, up2 σ o i (f x))) : pCm Φ code E pc L ((kd, x) :: (0, i) :: (o + 16, z) :: S) (sh, rf, σ) := R_ast h hs h0 hi k
end PT
theorem b2i_e {p : Prop} [Decidable p] : (b2i p = 0) ↔ ¬ p := by unfold b2i; split <;> simp_all
theorem b2i_1 {p : Prop} [Decidable p] : (b2i p = 1) ↔ p := by unfold b2i; split <;> simp_all

/-! the instructions, each as what it asks of what comes behind it; 'pCm': the least set of states from which the code comes to its end -/
def pCm (Φ : pC) (code : Nat → Option pT) (E : pE) : pK := fun pc L S w => ∀ X : pK, (∀ pc L S w, (∃ t, code pc = some t ∧ t Φ X E L S w) → X pc L S w) → X pc L S w
def kill (L : List pV) : Nat → List pV
  | 0 => L
  | j + 1 => match L[j]? with
    | some (1, _) => L.set j (9, 0)
    | _ => L
def setL (L : List pV) (i : Nat) (v : pV) : List pV := (kill L i).set i v
def setL2 (L : List pV) (i : Nat) (v : pV) : List pV := ((kill L i).set i v).set (i + 1) (9, 0)
def cat (v : pV) : Nat := if v.1 = 1 then 2 else 1
def cl2 {ι α : Type} (f : Nat → ι → α) (n : Nat) (v : α) : Nat → ι → α := fun k i => if k = n then v else f k i
def pIdiv (a b : Int) : Int := (i32 a / i32 b).toInt
def pIrem (a b : Int) : Int := (i32 a - i32 a / i32 b * i32 b).toInt
def pAnd (a b : Int) : Int := (i32 a &&& i32 b).toInt
def pOr (a b : Int) : Int := (i32 a ||| i32 b).toInt
def pXor (a b : Int) : Int := (i32 a ^^^ i32 b).toInt
def pShl (a b : Int) : Int := (i32 a <<< (i32 b &&& 31)).toInt
def pShr (a b : Int) : Int := (i32 a >>> (i32 b &&& 31)).toInt
def pUshr (a b : Int) : Int := ((i32 a).toUInt32 >>> ((i32 b).toUInt32 &&& Int32.toUInt32 31)).toInt32.toInt
def pLand (a b : Int) : Int := (i64 a &&& i64 b).toInt
def pLor (a b : Int) : Int := (i64 a ||| i64 b).toInt
def pLshl (a b : Int) : Int := (i64 a <<< ((i32 b).toInt64 &&& 63)).toInt
def pLshr (a b : Int) : Int := (i64 a >>> ((i32 b).toInt64 &&& 63)).toInt
def pLushr (a b : Int) : Int := ((i64 a).toUInt64 >>> ((i32 b).toInt64.toUInt64 &&& Int64.toUInt64 63)).toInt64.toInt
def pL2i (a : Int) : Int := (i64 a).toInt32.toInt
def pI2c (a : Int) : Int := ((i32 a).toUInt32 % 65536).toInt32.toInt
def pLcmp (a b : Int) : Int := if a > b then 1 else if a = b then 0 else -1
def pNarC (a : Int) : Int := (vp_nar .char (i32 a)).toInt
def pNarZ (a : Int) : Int := (vp_nar .boolean (i32 a)).toInt
def pRet (r : pV) (S : List pV) : List pV := if r.1 = 8 then S else r :: S
-- constants and locals
def i_push (v : pV) (nx : Nat) : pT := fun _ K _ L S w => K nx L (v :: S) w
def i_iload (i nx : Nat) : pT := fun _ K _ L S w => ∃ x, L[i]? = some (0, x) ∧ K nx L ((0, x) :: S) w
def i_lload (i nx : Nat) : pT := fun _ K _ L S w => ∃ x, L[i]? = some (1, x) ∧ K nx L ((1, x) :: S) w
def i_aload (i nx : Nat) : pT := fun _ K _ L S w => ∃ n x, L[i]? = some (n, x) ∧ 2 ≤ n ∧ n ≠ 9 ∧ K nx L ((n, x) :: S) w
def i_istore (i nx : Nat) : pT := fun _ K _ L S w => ∃ x S', S = (0, x) :: S' ∧ i < L.length ∧ K nx (setL L i (0, x)) S' w
def i_lstore (i nx : Nat) : pT := fun _ K _ L S w => ∃ x S', S = (1, x) :: S' ∧ i + 1 < L.length ∧ K nx (setL2 L i (1, x)) S' w
def i_astore (i nx : Nat) : pT := fun _ K _ L S w => ∃ n x S', S = (n, x) :: S' ∧ 2 ≤ n ∧ n ≠ 9 ∧ i < L.length ∧ K nx (setL L i (n, x)) S' w
def i_iinc (i : Nat) (a : Int) (nx : Nat) : pT := fun _ K _ L S w => ∃ x, L[i]? = some (0, x) ∧ K nx (setL L i (0, w32 (x + a))) S w
-- arithmetic
def i_bin (f : Int → Int → Int) (nx : Nat) : pT := fun _ K _ L S w => ∃ a b S', S = (0, b) :: (0, a) :: S' ∧ K nx L ((0, f a b) :: S') w
def i_div (f : Int → Int → Int) (nx : Nat) : pT := fun _ K _ L S w => ∃ a b S', S = (0, b) :: (0, a) :: S' ∧ b ≠ 0 ∧ K nx L ((0, f a b) :: S') w
def i_lbin (f : Int → Int → Int) (nx : Nat) : pT := fun _ K _ L S w => ∃ a b S', S = (1, b) :: (1, a) :: S' ∧ K nx L ((1, f a b) :: S') w
def i_lsh (f : Int → Int → Int) (nx : Nat) : pT := fun _ K _ L S w => ∃ a b S', S = (0, b) :: (1, a) :: S' ∧ K nx L ((1, f a b) :: S') w
def i_i2l (nx : Nat) : pT := fun _ K _ L S w => ∃ a S', S = (0, a) :: S' ∧ K nx L ((1, a) :: S') w
def i_l2i (nx : Nat) : pT := fun _ K _ L S w => ∃ a S', S = (1, a) :: S' ∧ K nx L ((0, pL2i a) :: S') w
def i_i2c (nx : Nat) : pT := fun _ K _ L S w => ∃ a S', S = (0, a) :: S' ∧ K nx L ((0, pI2c a) :: S') w
def i_lcmp (nx : Nat) : pT := fun _ K _ L S w => ∃ a b S', S = (1, b) :: (1, a) :: S' ∧ K nx L ((0, pLcmp a b) :: S') w
def i_dup (nx : Nat) : pT := fun _ K _ L S w => ∃ v S', S = v :: S' ∧ v.1 ≠ 1 ∧ K nx L (v :: v :: S') w
def i_dup2 (nx : Nat) : pT := fun _ K _ L S w => ∃ u v S', S = u :: v :: S' ∧ u.1 ≠ 1 ∧ v.1 ≠ 1 ∧ K nx L (u :: v :: u :: v :: S') w
def i_pop (nx : Nat) : pT := fun _ K _ L S w => ∃ v S', S = v :: S' ∧ v.1 ≠ 1 ∧ K nx L S' w
-- jumps
def i_goto (tg : Nat) : pT := fun _ K _ L S w => K tg L S w
def i_if (f : Int → Prop) (tg nx : Nat) : pT := fun _ K _ L S w => ∃ a S', S = (0, a) :: S' ∧ (f a → K tg L S' w) ∧ (¬ f a → K nx L S' w)
def i_ic (f : Int → Int → Prop) (tg nx : Nat) : pT := fun _ K _ L S w => ∃ a b S', S = (0, b) :: (0, a) :: S' ∧ (f a b → K tg L S' w) ∧ (¬ f a b → K nx L S' w)
def i_tsw (lo : Int) (tb : List Nat) (df : Nat) : pT := fun _ K _ L S w => ∃ a S', S = (0, a) :: S' ∧ (∀ (j tg : Nat), tb[j]? = some tg → a = lo + j → K tg L S' w) ∧ ((a < lo ∨ lo + tb.length ≤ a) → K df L S' w)
def i_lsw (tb : List (Int × Nat)) (df : Nat) : pT := fun _ K _ L S w => ∃ a S', S = (0, a) :: S' ∧ (∀ q, q ∈ tb → a = q.1 → K q.2 L S' w) ∧ ((∀ q, q ∈ tb → a ≠ q.1) → K df L S' w)
-- fields and arrays
def i_geti (ci : Nat) (f : Int) (nx : Nat) : pT := fun _ K _ L S w => ∃ (o : Nat) (z : Int) (n : Nat) (S' : List pV), S = (o + 16, z) :: S' ∧ w.1[o]? = some (ci + 4, n) ∧ 0 ≤ f ∧ f < n ∧ K nx L ((0, w.2.2 o f) :: S') w
def i_getl (ci : Nat) (f : Int) (nx : Nat) : pT := fun _ K _ L S w => ∃ (o : Nat) (z : Int) (n : Nat) (S' : List pV), S = (o + 16, z) :: S' ∧ w.1[o]? = some (ci + 4, n) ∧ 0 ≤ f ∧ f < n ∧ K nx L ((1, w.2.2 o f) :: S') w
def i_getr (ci f nx : Nat) : pT := fun _ K _ L S w => ∃ o z n S', S = (o + 16, z) :: S' ∧ w.1[o]? = some (ci + 4, n) ∧ f < n ∧ K nx L ((w.2.1 o f, 0) :: S') w
def i_puti (ci : Nat) (f : Int) (nx : Nat) : pT := fun _ K _ L S w => ∃ (x : Int) (o : Nat) (z : Int) (n : Nat) (S' : List pV), S = (0, x) :: (o + 16, z) :: S' ∧ w.1[o]? = some (ci + 4, n) ∧ 0 ≤ f ∧ f < n ∧ K nx L S' (w.1, w.2.1, up2 w.2.2 o f x)
def i_putl (ci : Nat) (f : Int) (nx : Nat) : pT := fun _ K _ L S w => ∃ (x : Int) (o : Nat) (z : Int) (n : Nat) (S' : List pV), S = (1, x) :: (o + 16, z) :: S' ∧ w.1[o]? = some (ci + 4, n) ∧ 0 ≤ f ∧ f < n ∧ K nx L S' (w.1, w.2.1, up2 w.2.2 o f x)
def i_putr (ci f nx : Nat) : pT := fun _ K _ L S w => ∃ v y o z n S', S = (v + 16, y) :: (o + 16, z) :: S' ∧ w.1[o]? = some (ci + 4, n) ∧ f < n ∧ K nx L S' (w.1, up2 w.2.1 o f (v + 16), w.2.2)
def i_ald (tag kd nx : Nat) : pT := fun _ K _ L S w => ∃ (i : Int) (o : Nat) (z : Int) (n : Nat) (S' : List pV), S = (0, i) :: (o + 16, z) :: S' ∧ w.1[o]? = some (tag, n) ∧ 0 ≤ i ∧ i < n ∧ K nx L ((kd, w.2.2 o i) :: S') w
def i_ast (tag kd : Nat) (f : Int → Int) (nx : Nat) : pT := fun _ K _ L S w => ∃ (x i : Int) (o : Nat) (z : Int) (n : Nat) (S' : List pV), S = (kd, x) :: (0, i) :: (o + 16, z) :: S' ∧ w.1[o]? = some (tag, n) ∧ 0 ≤ i ∧ i < n ∧ K nx L S' (w.1, w.2.1, up2 w.2.2 o i (f x))
def i_alen (nx : Nat) : pT := fun _ K _ L S w => ∃ (o : Nat) (z : Int) (t n : Nat) (S' : List pV), S = (o + 16, z) :: S' ∧ w.1[o]? = some (t, n) ∧ t < 4 ∧ n < 2147483648 ∧ K nx L ((0, (n : Int)) :: S') w
-- calls, ends, making
def i_inv (μ n nx : Nat) : pT := fun Φ K _ L S w => ∃ r w1, n ≤ S.length ∧ ((S.drop n).map cat).sum ≤ 8 ∧ Φ μ (S.take n).reverse w r w1 ∧ r.1 ≠ 7 ∧ K nx L (pRet r (S.drop n)) w1
def i_invv (μ n ci nx : Nat) : pT := fun Φ K _ L S w => ∃ r w1 o z as' N, n ≤ S.length ∧ ((S.drop n).map cat).sum ≤ 8 ∧ (S.take n).reverse = (o + 16, z) :: as' ∧ w.1[o]? = some (ci + 4, N) ∧ Φ μ ((o + 16, z) :: as') w r w1 ∧ r.1 ≠ 7 ∧ K nx L (pRet r (S.drop n)) w1
def i_invi (μ n nx : Nat) : pT := fun Φ K _ L S w => ∃ r w1 o z as', n ≤ S.length ∧ ((S.drop n).map cat).sum ≤ 8 ∧ (S.take n).reverse = (o + 16, z) :: as' ∧ Φ μ ((o + 16, z) :: as') w r w1 ∧ r.1 ≠ 7 ∧ K nx L (pRet r (S.drop n)) w1
def i_iret : pT := fun _ _ E _ S w => ∃ x, S = [(0, x)] ∧ E (0, x) w
def i_zret : pT := fun _ _ E _ S w => ∃ x, S = [(0, x)] ∧ (x = 0 ∨ x = 1) ∧ E (0, x) w
def i_lret : pT := fun _ _ E _ S w => ∃ x, S = [(1, x)] ∧ E (1, x) w
def i_vret : pT := fun _ _ E _ S w => S = [] ∧ E (8, 0) w
def i_thr : pT := fun _ _ E _ S w => S = [] ∧ E (7, 0) w
def i_new (ci N nx : Nat) : pT := fun _ K _ L S w => K nx L ((w.1.length + 16, 0) :: S) (w.1 ++ [(ci + 4, N)], cl2 w.2.1 w.1.length 2, cl2 w.2.2 w.1.length 0)
def i_newa (tag nx : Nat) : pT := fun _ K _ L S w => ∃ n S', S = (0, ((n : Nat) : Int)) :: S' ∧ n < 1000000 ∧ K nx L ((w.1.length + 16, 0) :: S') (w.1 ++ [(tag, n)], cl2 w.2.1 w.1.length 2, cl2 w.2.2 w.1.length 0)
def i_oinit (nx : Nat) : pT := fun _ K _ L S w => ∃ o z S', S = (o + 16, z) :: S' ∧ (S'.map cat).sum ≤ 8 ∧ K nx L S' w
theorem pfld {f : Int} {n : Nat} (h : (decide (0 ≤ f) && decide (f < n)) = true) : 0 ≤ f ∧ f < n := by
  rw [Bool.and_eq_true] at h; exact ⟨of_decide_eq_true h.1, of_decide_eq_true h.2⟩
-- the steps of a walk
section PR
variable {Φ : pC} {code : Nat → Option pT} {E : pE} {pc nx : Nat} {L S : List pV} {w : pW}
theorem R_push {v : pV} (h : code pc = some (i_push v nx)) (k : pCm Φ code E nx L (v :: S) w) : pCm Φ code E pc L S w := fun X hX => hX _ _ _ _ ⟨_, h, k X hX⟩
theorem R_iload {i : Nat} {x : Int} (h : code pc = some (i_iload i nx)) (hL : L[i]? = some (0, x)) (k : pCm Φ code E nx L ((0, x) :: S) w) : pCm Φ code E pc L S w := fun X hX => hX _ _ _ _ ⟨_, h, x, hL, k X hX⟩
theorem R_lload {i : Nat} {x : Int} (h : code pc = some (i_lload i nx)) (hL : L[i]? = some (1, x)) (k : pCm Φ code E nx L ((1, x) :: S) w) : pCm Φ code E pc L S w := fun X hX => hX _ _ _ _ ⟨_, h, x, hL, k X hX⟩
theorem R_aload {i n : Nat} {x : Int} (h : code pc = some (i_aload i nx)) (hL : L[i]? = some (n, x)) (h2 : (Nat.ble 2 n && !(Nat.beq n 9)) = true) (k : pCm Φ code E nx L ((n, x) :: S) w) : pCm Φ code E pc L S w := by
  rw [Bool.and_eq_true] at h2
  refine fun X hX => hX _ _ _ _ ⟨_, h, n, x, hL, Nat.le_of_ble_eq_true h2.1, fun e => ?_, k X hX⟩
  subst e; exact absurd h2.2 (by decide)
theorem R_istore {i : Nat} {x : Int} (h : code pc = some (i_istore i nx)) (hi : Nat.blt i L.length = true) (k : pCm Φ code E nx (setL L i (0, x)) S w) : pCm Φ code E pc L ((0, x) :: S) w := fun X hX => hX _ _ _ _ ⟨_, h, x, S, rfl, Nat.le_of_ble_eq_true hi, k X hX⟩
theorem R_lstore {i : Nat} {x : Int} (h : code pc = some (i_lstore i nx)) (hi : Nat.blt (i + 1) L.length = true) (k : pCm Φ code E nx (setL2 L i (1, x)) S w) : pCm Φ code E pc L ((1, x) :: S) w := fun X hX => hX _ _ _ _ ⟨_, h, x, S, rfl, Nat.le_of_ble_eq_true hi, k X hX⟩
theorem R_astore {i n : Nat} {x : Int} (h : code pc = some (i_astore i nx)) (h2 : (Nat.ble 2 n && !(Nat.beq n 9)) = true) (hi : Nat.blt i L.length = true) (k : pCm Φ code E nx (setL L i (n, x)) S w) : pCm Φ code E pc L ((n, x) :: S) w := by
  rw [Bool.and_eq_true] at h2
  refine fun X hX => hX _ _ _ _ ⟨_, h, n, x, S, rfl, Nat.le_of_ble_eq_true h2.1, fun e => ?_, Nat.le_of_ble_eq_true hi, k X hX⟩
  subst e; exact absurd h2.2 (by decide)
theorem R_iinc {i : Nat} {a x : Int} (h : code pc = some (i_iinc i a nx)) (hL : L[i]? = some (0, x)) (k : pCm Φ code E nx (setL L i (0, w32 (x + a))) S w) : pCm Φ code E pc L S w := fun X hX => hX _ _ _ _ ⟨_, h, x, hL, k X hX⟩
theorem R_bin {f : Int → Int → Int} {a b : Int} (h : code pc = some (i_bin f nx)) (k : pCm Φ code E nx L ((0, f a b) :: S) w) : pCm Φ code E pc L ((0, b) :: (0, a) :: S) w := fun X hX => hX _ _ _ _ ⟨_, h, a, b, S, rfl, k X hX⟩
theorem R_div {f : Int → Int → Int} {a b : Int} (h : code pc = some (i_div f nx)) (hb : b ≠ 0) (k : pCm Φ code E nx L ((0, f a b) :: S) w) : pCm Φ code E pc L ((0, b) :: (0, a) :: S) w := fun X hX => hX _ _ _ _ ⟨_, h, a, b, S, rfl, hb, k X hX⟩
theorem R_lbin {f : Int → Int → Int} {a b : Int} (h : code pc = some (i_lbin f nx)) (k : pCm Φ code E nx L ((1, f a b) :: S) w) : pCm Φ code E pc L ((1, b) :: (1, a) :: S) w := fun X hX => hX _ _ _ _ ⟨_, h, a, b, S, rfl, k X hX⟩
theorem R_lsh {f : Int → Int → Int} {a b : Int} (h : code pc = some (i_lsh f nx)) (k : pCm Φ code E nx L ((1, f a b) :: S) w) : pCm Φ code E pc L ((0, b) :: (1, a) :: S) w := fun X hX => hX _ _ _ _ ⟨_, h, a, b, S, rfl, k X hX⟩
theorem R_i2l {a : Int} (h : code pc = some (i_i2l nx)) (k : pCm Φ code E nx L ((1, a) :: S) w) : pCm Φ code E pc L ((0, a) :: S) w := fun X hX => hX _ _ _ _ ⟨_, h, a, S, rfl, k X hX⟩
theorem R_l2i {a : Int} (h : code pc = some (i_l2i nx)) (k : pCm Φ code E nx L ((0, pL2i a) :: S) w) : pCm Φ code E pc L ((1, a) :: S) w := fun X hX => hX _ _ _ _ ⟨_, h, a, S, rfl, k X hX⟩
theorem R_i2c {a : Int} (h : code pc = some (i_i2c nx)) (k : pCm Φ code E nx L ((0, pI2c a) :: S) w) : pCm Φ code E pc L ((0, a) :: S) w := fun X hX => hX _ _ _ _ ⟨_, h, a, S, rfl, k X hX⟩
theorem R_lcmp {a b : Int} (h : code pc = some (i_lcmp nx)) (k : pCm Φ code E nx L ((0, pLcmp a b) :: S) w) : pCm Φ code E pc L ((1, b) :: (1, a) :: S) w := fun X hX => hX _ _ _ _ ⟨_, h, a, b, S, rfl, k X hX⟩
theorem R_dup {v : pV} (h : code pc = some (i_dup nx)) (hv : Nat.beq v.1 1 = false) (k : pCm Φ code E nx L (v :: v :: S) w) : pCm Φ code E pc L (v :: S) w := fun X hX => hX _ _ _ _ ⟨_, h, v, S, rfl, (fun e => by rw [e] at hv; cases hv), k X hX⟩
theorem R_dup2 {u v : pV} (h : code pc = some (i_dup2 nx)) (hu : Nat.beq u.1 1 = false) (hv : Nat.beq v.1 1 = false) (k : pCm Φ code E nx L (u :: v :: u :: v :: S) w) : pCm Φ code E pc L (u :: v :: S) w := fun X hX => hX _ _ _ _ ⟨_, h, u, v, S, rfl, (fun e => by rw [e] at hu; cases hu), (fun e => by rw [e] at hv; cases hv), k X hX⟩
theorem R_pop {v : pV} (h : code pc = some (i_pop nx)) (hv : Nat.beq v.1 1 = false) (k : pCm Φ code E nx L S w) : pCm Φ code E pc L (v :: S) w := fun X hX => hX _ _ _ _ ⟨_, h, v, S, rfl, (fun e => by rw [e] at hv; cases hv), k X hX⟩
theorem R_goto {tg : Nat} (h : code pc = some (i_goto tg)) (k : pCm Φ code E tg L S w) : pCm Φ code E pc L S w := fun X hX => hX _ _ _ _ ⟨_, h, k X hX⟩
theorem R_if {f : Int → Prop} {tg : Nat} {a : Int} (h : code pc = some (i_if f tg nx)) (kt : f a → pCm Φ code E tg L S w) (kf : ¬ f a → pCm Φ code E nx L S w) : pCm Φ code E pc L ((0, a) :: S) w := fun X hX => hX _ _ _ _ ⟨_, h, a, S, rfl, fun q => kt q X hX, fun q => kf q X hX⟩
theorem R_ic {f : Int → Int → Prop} {tg : Nat} {a b : Int} (h : code pc = some (i_ic f tg nx)) (kt : f a b → pCm Φ code E tg L S w) (kf : ¬ f a b → pCm Φ code E nx L S w) : pCm Φ code E pc L ((0, b) :: (0, a) :: S) w := fun X hX => hX _ _ _ _ ⟨_, h, a, b, S, rfl, fun q => kt q X hX, fun q => kf q X hX⟩
theorem R_tsw {lo : Int} {tb : List Nat} {df : Nat} {a : Int} (h : code pc = some (i_tsw lo tb df)) (kt : ∀ (j tg : Nat), tb[j]? = some tg → a = lo + j → pCm Φ code E tg L S w) (kf : (a < lo ∨ lo + tb.length ≤ a) → pCm Φ code E df L S w) : pCm Φ code E pc L ((0, a) :: S) w := fun X hX => hX _ _ _ _ ⟨_, h, a, S, rfl, fun j tg q1 q2 => kt j tg q1 q2 X hX, fun q => kf q X hX⟩
theorem R_lsw {tb : List (Int × Nat)} {df : Nat} {a : Int} (h : code pc = some (i_lsw tb df)) (kt : ∀ q, q ∈ tb → a = q.1 → pCm Φ code E q.2 L S w) (kf : (∀ q, q ∈ tb → a ≠ q.1) → pCm Φ code E df L S w) : pCm Φ code E pc L ((0, a) :: S) w := fun X hX => hX _ _ _ _ ⟨_, h, a, S, rfl, fun q q1 q2 => kt q q1 q2 X hX, fun q => kf q X hX⟩
theorem R_geti {ci o n : Nat} {f : Int} {z : Int} (h : code pc = some (i_geti ci f nx)) (hs : w.1[o]? = some (ci + 4, n)) (hf : (decide (0 ≤ f) && decide (f < n)) = true) (k : pCm Φ code E nx L ((0, w.2.2 o f) :: S) w) : pCm Φ code E pc L ((o + 16, z) :: S) w := fun X hX => hX _ _ _ _ ⟨_, h, o, z, n, S, rfl, hs, (pfld hf).1, (pfld hf).2, k X hX⟩
theorem R_getl {ci o n : Nat} {f : Int} {z : Int} (h : code pc = some (i_getl ci f nx)) (hs : w.1[o]? = some (ci + 4, n)) (hf : (decide (0 ≤ f) && decide (f < n)) = true) (k : pCm Φ code E nx L ((1, w.2.2 o f) :: S) w) : pCm Φ code E pc L ((o + 16, z) :: S) w := fun X hX => hX _ _ _ _ ⟨_, h, o, z, n, S, rfl, hs, (pfld hf).1, (pfld hf).2, k X hX⟩
theorem R_getr {ci f o n : Nat} {z : Int} {v : Nat} (h : code pc = some (i_getr ci f nx)) (hs : w.1[o]? = some (ci + 4, n)) (hf : Nat.blt f n = true) (hv : w.2.1 o f = v) (k : pCm Φ code E nx L ((v, 0) :: S) w) : pCm Φ code E pc L ((o + 16, z) :: S) w := fun X hX => hX _ _ _ _ ⟨_, h, o, z, n, S, rfl, hs, Nat.le_of_ble_eq_true hf, by rw [hv]; exact k X hX⟩
theorem R_puti {ci o n : Nat} {f : Int} {x z : Int} (h : code pc = some (i_puti ci f nx)) (hs : w.1[o]? = some (ci + 4, n)) (hf : (decide (0 ≤ f) && decide (f < n)) = true) (k : pCm Φ code E nx L S (w.1, w.2.1, up2 w.2.2 o f x)) : pCm Φ code E pc L ((0, x) :: (o + 16, z) :: S) w := fun X hX => hX _ _ _ _ ⟨_, h, x, o, z, n, S, rfl, hs, (pfld hf).1, (pfld hf).2, k X hX⟩
theorem R_putl {ci o n : Nat} {f : Int} {x z : Int} (h : code pc = some (i_putl ci f nx)) (hs : w.1[o]? = some (ci + 4, n)) (hf : (decide (0 ≤ f) && decide (f < n)) = true) (k : pCm Φ code E nx L S (w.1, w.2.1, up2 w.2.2 o f x)) : pCm Φ code E pc L ((1, x) :: (o + 16, z) :: S) w := fun X hX => hX _ _ _ _ ⟨_, h, x, o, z, n, S, rfl, hs, (pfld hf).1, (pfld hf).2, k X hX⟩
theorem R_putr {ci f o n v : Nat} {y z : Int} (h : code pc = some (i_putr ci f nx)) (hs : w.1[o]? = some (ci + 4, n)) (hf : Nat.blt f n = true) (k : pCm Φ code E nx L S (w.1, up2 w.2.1 o f (v + 16), w.2.2)) : pCm Φ code E pc L ((v + 16, y) :: (o + 16, z) :: S) w := fun X hX => hX _ _ _ _ ⟨_, h, v, y, o, z, n, S, rfl, hs, Nat.le_of_ble_eq_true hf, k X hX⟩
theorem R_ald {tag kd o n : Nat} {i z : Int} (h : code pc = some (i_ald tag kd nx)) (hs : w.1[o]? = some (tag, n)) (h0 : 0 ≤ i) (hi : i < n) (k : pCm Φ code E nx L ((kd, w.2.2 o i) :: S) w) : pCm Φ code E pc L ((0, i) :: (o + 16, z) :: S) w := fun X hX => hX _ _ _ _ ⟨_, h, i, o, z, n, S, rfl, hs, h0, hi, k X hX⟩
theorem R_ast {tag kd o n : Nat} {f : Int → Int} {x i z : Int} (h : code pc = some (i_ast tag kd f nx)) (hs : w.1[o]? = some (tag, n)) (h0 : 0 ≤ i) (hi : i < n) (k : pCm Φ code E nx L S (w.1, w.2.1, up2 w.2.2 o i (f x))) : pCm Φ code E pc L ((kd, x) :: (0, i) :: (o + 16, z) :: S) w := fun X hX => hX _ _ _ _ ⟨_, h, x, i, o, z, n, S, rfl, hs, h0, hi, k X hX⟩
theorem R_iast {o n : Nat} {x i z : Int} (h : code pc = some (i_ast 0 0 id nx)) (hs : w.1[o]? = some (0, n)) (h0 : 0 ≤ i) (hi : i < n) (k : pCm Φ code E nx L S (w.1, w.2.1, up2 w.2.2 o i x)) : pCm Φ code E pc L ((0, x) :: (0, i) :: (o + 16, z) :: S) w := R_ast h hs h0 hi k
theorem R_last {o n : Nat} {x i z : Int} (h : code pc = some (i_ast 1 1 id nx)) (hs : w.1[o]? = some (1, n)) (h0 : 0 ≤ i) (hi : i < n) (k : pCm Φ code E nx L S (w.1, w.2.1, up2 w.2.2 o i x)) : pCm Φ code E pc L ((1, x) :: (0, i) :: (o + 16, z) :: S) w := R_ast h hs h0 hi k
theorem R_add {a b : Int} (h : code pc = some (i_bin (fun a b => w32 (a + b)) nx)) (h1 : -2147483648 ≤ a + b) (h2 : a + b < 2147483648) (k : pCm Φ code E nx L ((0, a + b) :: S) w) : pCm Φ code E pc L ((0, b) :: (0, a) :: S) w := R_bin h (by rw [w32_id ⟨h1, h2⟩]; exact k)
theorem R_sub {a b : Int} (h : code pc = some (i_bin (fun a b => w32 (a - b)) nx)) (h1 : -2147483648 ≤ a - b) (h2 : a - b < 2147483648) (k : pCm Φ code E nx L ((0, a - b) :: S) w) : pCm Φ code E pc L ((0, b) :: (0, a) :: S) w := R_bin h (by rw [w32_id ⟨h1, h2⟩]; exact k)
theorem R_mul {a b : Int} (h : code pc = some (i_bin (fun a b => w32 (a * b)) nx)) (h1 : -2147483648 ≤ a * b) (h2 : a * b < 2147483648) (k : pCm Φ code E nx L ((0, a * b) :: S) w) : pCm Φ code E pc L ((0, b) :: (0, a) :: S) w := R_bin h (by rw [w32_id ⟨h1, h2⟩]; exact k)
theorem R_inc {i : Nat} {a x : Int} (h : code pc = some (i_iinc i a nx)) (hL : L[i]? = some (0, x)) (h1 : -2147483648 ≤ x + a) (h2 : x + a < 2147483648) (k : pCm Φ code E nx (setL L i (0, x + a)) S w) : pCm Φ code E pc L S w := R_iinc h hL (by rw [w32_id ⟨h1, h2⟩]; exact k)
theorem R_alen {o t n : Nat} {z : Int} (h : code pc = some (i_alen nx)) (hs : w.1[o]? = some (t, n)) (ht : Nat.blt t 4 = true) (hn : Nat.blt n 2147483648 = true) (k : pCm Φ code E nx L ((0, n) :: S) w) : pCm Φ code E pc L ((o + 16, z) :: S) w := fun X hX => hX _ _ _ _ ⟨_, h, o, z, t, n, S, rfl, hs, Nat.le_of_ble_eq_true ht, Nat.le_of_ble_eq_true hn, k X hX⟩
theorem R_inv {μ n : Nat} {r : pV} {w1 : pW} {as S' : List pV} (h : code pc = some (i_inv μ n nx)) (hn : Nat.ble n S.length = true) (hd : S.drop n = S') (hc : Nat.ble (S'.map cat).sum 8 = true) (ht : (S.take n).reverse = as) (hΦ : Φ μ as w r w1) (hr : Nat.beq r.1 7 = false) (k : pCm Φ code E nx L (pRet r S') w1) : pCm Φ code E pc L S w := by
  subst hd; subst ht
  exact fun X hX => hX _ _ _ _ ⟨_, h, r, w1, Nat.le_of_ble_eq_true hn, Nat.le_of_ble_eq_true hc, hΦ, (fun e => by rw [e] at hr; cases hr), k X hX⟩
theorem R_invv {μ n ci o N : Nat} {z : Int} {r : pV} {w1 : pW} {as' S' : List pV} (h : code pc = some (i_invv μ n ci nx)) (hn : Nat.ble n S.length = true) (hd : S.drop n = S') (hc : Nat.ble (S'.map cat).sum 8 = true) (ht : (S.take n).reverse = (o + 16, z) :: as') (hs : w.1[o]? = some (ci + 4, N)) (hΦ : Φ μ ((o + 16, z) :: as') w r w1) (hr : Nat.beq r.1 7 = false) (k : pCm Φ code E nx L (pRet r S') w1) : pCm Φ code E pc L S w := by
  subst hd
  exact fun X hX => hX _ _ _ _ ⟨_, h, r, w1, o, z, as', N, Nat.le_of_ble_eq_true hn, Nat.le_of_ble_eq_true hc, ht, hs, hΦ, (fun e => by rw [e] at hr; cases hr), k X hX⟩
theorem R_invi {μ n o : Nat} {z : Int} {r : pV} {w1 : pW} {as' S' : List pV} (h : code pc = some (i_invi μ n nx)) (hn : Nat.ble n S.length = true) (hd : S.drop n = S') (hc : Nat.ble (S'.map cat).sum 8 = true) (ht : (S.take n).reverse = (o + 16, z) :: as') (hΦ : Φ μ ((o + 16, z) :: as') w r w1) (hr : Nat.beq r.1 7 = false) (k : pCm Φ code E nx L (pRet r S') w1) : pCm Φ code E pc L S w := by
  subst hd
  exact fun X hX => hX _ _ _ _ ⟨_, h, r, w1, o, z, as', Nat.le_of_ble_eq_true hn, Nat.le_of_ble_eq_true hc, ht, hΦ, (fun e => by rw [e] at hr; cases hr), k X hX⟩
theorem R_iret {x : Int} (h : code pc = some i_iret) (k : E (0, x) w) : pCm Φ code E pc L [(0, x)] w := fun X hX => hX _ _ _ _ ⟨_, h, x, rfl, k⟩
theorem R_zret {x : Int} (h : code pc = some i_zret) (hx : x = 0 ∨ x = 1) (k : E (0, x) w) : pCm Φ code E pc L [(0, x)] w := fun X hX => hX _ _ _ _ ⟨_, h, x, rfl, hx, k⟩
theorem R_lret {x : Int} (h : code pc = some i_lret) (k : E (1, x) w) : pCm Φ code E pc L [(1, x)] w := fun X hX => hX _ _ _ _ ⟨_, h, x, rfl, k⟩
theorem R_vret (h : code pc = some i_vret) (k : E (8, 0) w) : pCm Φ code E pc L [] w := fun X hX => hX _ _ _ _ ⟨_, h, rfl, k⟩
theorem R_thr (h : code pc = some i_thr) (k : E (7, 0) w) : pCm Φ code E pc L [] w := fun X hX => hX _ _ _ _ ⟨_, h, rfl, k⟩
theorem R_new {ci N : Nat} (h : code pc = some (i_new ci N nx)) (k : pCm Φ code E nx L ((w.1.length + 16, 0) :: S) (w.1 ++ [(ci + 4, N)], cl2 w.2.1 w.1.length 2, cl2 w.2.2 w.1.length 0)) : pCm Φ code E pc L S w := fun X hX => hX _ _ _ _ ⟨_, h, k X hX⟩
theorem R_newa {tag n : Nat} {x : Int} (h : code pc = some (i_newa tag nx)) (hx : x = (n : Int)) (hn : Nat.blt n 1000000 = true) (k : pCm Φ code E nx L ((w.1.length + 16, 0) :: S) (w.1 ++ [(tag, n)], cl2 w.2.1 w.1.length 2, cl2 w.2.2 w.1.length 0)) : pCm Φ code E pc L ((0, x) :: S) w := by
  subst hx
  exact fun X hX => hX _ _ _ _ ⟨_, h, n, S, rfl, Nat.le_of_ble_eq_true hn, k X hX⟩
theorem R_oinit {o : Nat} {z : Int} (h : code pc = some (i_oinit nx)) (hc : Nat.ble (S.map cat).sum 8 = true) (k : pCm Φ code E nx L S w) : pCm Φ code E pc L ((o + 16, z) :: S) w := fun X hX => hX _ _ _ _ ⟨_, h, o, z, S, rfl, Nat.le_of_ble_eq_true hc, k X hX⟩
end PR
/-- the locals at a method's entry -/
def pEnt (n : Nat) (as : List pV) : List pV := let l := as.flatMap (fun v => if v.1 = 1 then [v, (9, 0)] else [v]); l ++ List.replicate (n - l.length) (9, 0)
def nS (w : pW) : Nat := (w.1.map (fun q => q.2)).sum
/-- calls of depth d -/
def pEv (P : Nat → Nat × (Nat → Option pT)) : Nat → pC
  | 0 => fun _ _ _ _ _ => False
  | d + 1 => fun μ as w r w' => (w.1.length ≤ w'.1.length ∧ nS w ≤ nS w') ∧ Nat.ble (as.flatMap (fun v => if v.1 = 1 then [v, ((9, 0) : pV)] else [v])).length (P μ).1 = true ∧ pCm (pEv P d) (P μ).2 (fun r1 w1 => r1 = r ∧ w1 = w') 0 (pEnt (P μ).1 as) [] w
theorem pb0 {sh : List (Nat × Nat)} {a a' : Nat → Nat → Nat} {b b' : Nat → Int → Int} : ((sh, a, b) : pW).1.length ≤ ((sh, a', b') : pW).1.length ∧ nS (sh, a, b) ≤ nS (sh, a', b') := ⟨Nat.le_refl _, Nat.le_refl _⟩

/-! instructions over the three texts of the class: kind 5 a text, kind 6 its bytes, kind 4 a thing that is only handed on -/
def sB : List (List Int32) := [[108, 101, 116, 32, 98, 97, 114, 32, 100, 111, 117, 98, 116, 32, 115, 116, 111, 110, 101, 32, 119, 104, 101, 110, 32, 97, 110, 100, 32, 111, 114, 32, 110, 111, 116, 32], [103, 97, 112, 32, 115, 109, 97, 108, 108, 32, 103, 114, 101, 97, 116, 32, 102, 97, 114, 32, 108, 97, 121, 101, 114, 115, 32, 98, 117, 114, 110, 116, 32, 98, 114, 101, 97, 107, 115, 32, 99, 111, 108, 111, 117, 114, 32, 103, 114, 97, 105, 110, 32, 115, 112, 111, 116, 115, 32, 102, 105, 114, 101, 32, 115, 105, 122, 101, 32], [40, 41, 60, 61, 43, 45, 42, 59]]
def sL : List Nat := [36, 69, 8]
def sLn (k : Int) : Int := ((sB.getD k.toNat []).length : Int)
def sBt (k i : Int) : Int := ((sB.getD k.toNat []).getD i.toNat 0).toInt
def pI2b (a : Int) : Int := (i32 a).toInt8.toInt32.toInt
def i_sval (nx : Nat) : pT := fun _ K _ L S w => ∃ (k : Int) (S' : List pV), S = (5, k) :: S' ∧ 0 ≤ k ∧ k < 3 ∧ K nx L ((6, k) :: S') w
def i_scod (nx : Nat) : pT := fun _ K _ L S w => ∃ (k : Int) (S' : List pV), S = (5, k) :: S' ∧ 0 ≤ k ∧ k < 3 ∧ K nx L ((0, 0) :: S') w
def i_slen (nx : Nat) : pT := fun _ K _ L S w => ∃ (k : Int) (S' : List pV), S = (6, k) :: S' ∧ 0 ≤ k ∧ k < 3 ∧ K nx L ((0, sLn k) :: S') w
def i_sbl (nx : Nat) : pT := fun _ K _ L S w => ∃ (i k : Int) (S' : List pV), S = (0, i) :: (6, k) :: S' ∧ 0 ≤ k ∧ k < 3 ∧ 0 ≤ i ∧ i < sLn k ∧ K nx L ((0, sBt k i) :: S') w
def i_i2b (nx : Nat) : pT := fun _ K _ L S w => ∃ a S', S = (0, a) :: S' ∧ K nx L ((0, pI2b a) :: S') w
def i_gq (nx : Nat) : pT := fun _ K _ L S w => K nx L ((2, 0) :: S) w ∧ K nx L ((4, 0) :: S) w
def i_nret : pT := fun _ _ E _ S w => ∃ x, S = [(0, x)] ∧ 0 ≤ x ∧ x ≤ 127 ∧ E (0, x) w
def i_invS (μ n nx : Nat) : pT := fun Φ K _ L S w => ∃ (r : pV) (w1 : pW) (k : Int) (as' : List pV), n ≤ S.length ∧ ((S.drop n).map cat).sum ≤ 8 ∧ (S.take n).reverse = (5, k) :: as' ∧ 0 ≤ k ∧ k < 3 ∧ Φ μ ((5, k) :: as') w r w1 ∧ r.1 ≠ 7 ∧ K nx L (pRet r (S.drop n)) w1
section PR
variable {Φ : pC} {code : Nat → Option pT} {E : pE} {pc nx : Nat} {L S : List pV} {w : pW}
theorem R_sval {k : Int} (h : code pc = some (i_sval nx)) (h0 : 0 ≤ k) (h3 : k < 3) (kk : pCm Φ code E nx L ((6, k) :: S) w) : pCm Φ code E pc L ((5, k) :: S) w := fun X hX => hX _ _ _ _ ⟨_, h, k, S, rfl, h0, h3, kk X hX⟩
theorem R_scod {k : Int} (h : code pc = some (i_scod nx)) (h0 : 0 ≤ k) (h3 : k < 3) (kk : pCm Φ code E nx L ((0, 0) :: S) w) : pCm Φ code E pc L ((5, k) :: S) w := fun X hX => hX _ _ _ _ ⟨_, h, k, S, rfl, h0, h3, kk X hX⟩
theorem R_slen {k : Int} (h : code pc = some (i_slen nx)) (h0 : 0 ≤ k) (h3 : k < 3) (kk : pCm Φ code E nx L ((0, sLn k) :: S) w) : pCm Φ code E pc L ((6, k) :: S) w := fun X hX => hX _ _ _ _ ⟨_, h, k, S, rfl, h0, h3, kk X hX⟩
theorem R_sbl {i k : Int} (h : code pc = some (i_sbl nx)) (h0 : 0 ≤ k) (h3 : k < 3) (g0 : 0 ≤ i) (g1 : i < sLn k) (kk : pCm Φ code E nx L ((0, sBt k i) :: S) w) : pCm Φ code E pc L ((0, i) :: (6, k) :: S) w := fun X hX => hX _ _ _ _ ⟨_, h, i, k, S, rfl, h0, h3, g0, g1, kk X hX⟩
theorem R_i2b {a : Int} (h : code pc = some (i_i2b nx)) (kk : pCm Φ code E nx L ((0, pI2b a) :: S) w) : pCm Φ code E pc L ((0, a) :: S) w := fun X hX => hX _ _ _ _ ⟨_, h, a, S, rfl, kk X hX⟩
theorem R_gq (h : code pc = some (i_gq nx)) (k2 : pCm Φ code E nx L ((2, 0) :: S) w) (k3 : pCm Φ code E nx L ((4, 0) :: S) w) : pCm Φ code E pc L S w := fun X hX => hX _ _ _ _ ⟨_, h, k2 X hX, k3 X hX⟩
theorem R_nret {x : Int} (h : code pc = some i_nret) (h0 : 0 ≤ x) (h1 : x ≤ 127) (k : E (0, x) w) : pCm Φ code E pc L [(0, x)] w := fun X hX => hX _ _ _ _ ⟨_, h, x, rfl, h0, h1, k⟩
theorem R_invS {μ n : Nat} {k : Int} {r : pV} {w1 : pW} {as' S' : List pV} (h : code pc = some (i_invS μ n nx)) (hn : Nat.ble n S.length = true) (hd : S.drop n = S') (hc : Nat.ble (S'.map cat).sum 8 = true) (ht : (S.take n).reverse = (5, k) :: as') (h0 : 0 ≤ k) (h3 : k < 3) (hΦ : Φ μ ((5, k) :: as') w r w1) (hr : Nat.beq r.1 7 = false) (kk : pCm Φ code E nx L (pRet r S') w1) : pCm Φ code E pc L S w := by
  subst hd
  exact fun X hX => hX _ _ _ _ ⟨_, h, r, w1, k, as', Nat.le_of_ble_eq_true hn, Nat.le_of_ble_eq_true hc, ht, h0, h3, hΦ, (fun e => by rw [e] at hr; cases hr), kk X hX⟩
end PR

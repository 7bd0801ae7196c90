-- the cut's nibbles
theorem i32_ti (x : Int32) : i32 x.toInt = x := Int32.ofInt_toInt x
theorem bv15 : ∀ i, i < 32 → (15#32).getLsbD i = decide (i < 4) := by decide
theorem nib_bv {X W : BitVec 32} {b k : Nat} (hb : b < 8) (hk : k < 8) (hW : W.toNat < 16) : (((X &&& ~~~(15#32 <<< (4 * b))) ||| (W <<< (4 * b))) >>> (4 * k)) &&& 15#32 = if k = b then W else (X >>> (4 * k)) &&& 15#32 := by
  have hw : ∀ j, 4 ≤ j → W.getLsbD j = false := fun j hj => Nat.testBit_lt_two_pow (Nat.lt_of_lt_of_le (show W.toNat < 2 ^ 4 from hW) (Nat.pow_le_pow_right (by decide) hj))
  have h15 : ∀ i, (15#32).getLsbD i = decide (i < 4) := fun i => by
    by_cases q : i < 32
    · exact bv15 i q
    · rw [BitVec.getLsbD_of_ge _ _ (by omega)]; simp; omega
  apply BitVec.eq_of_getLsbD_eq
  intro i hi
  by_cases q : k = b
  · rw [if_pos q, q]
    simp only [BitVec.getLsbD_and, BitVec.getLsbD_ushiftRight, BitVec.getLsbD_or, BitVec.getLsbD_not, BitVec.getLsbD_shiftLeft, h15]
    by_cases q4 : i < 4
    · have e1 : 4 * b + i < 32 := by omega
      have e2 : ¬ 4 * b + i < 4 * b := by omega
      have e3 : 4 * b + i - 4 * b = i := by omega
      simp [e1, e2, e3, q4]
    · simp [q4, hw i (by omega)]
  · rw [if_neg q]
    simp only [BitVec.getLsbD_and, BitVec.getLsbD_ushiftRight, BitVec.getLsbD_or, BitVec.getLsbD_not, BitVec.getLsbD_shiftLeft, h15]
    by_cases q4 : i < 4
    · have e1 : 4 * k + i < 32 := by omega
      by_cases q5 : k < b
      · have e2 : 4 * k + i < 4 * b := by omega
        simp [e1, e2, q4]
      · have e2 : ¬ 4 * k + i < 4 * b := by omega
        have e3 : ¬ 4 * k + i - 4 * b < 4 := by omega
        simp [e1, e2, e3, q4, hw (4 * k + i - 4 * b) (by omega)]
    · simp [q4]
theorem shl_bv {a : Int32} {b : Nat} (hb : b < 8) : (a <<< (i32 (4 * (b : Int)) &&& 31)).toBitVec = a.toBitVec <<< (4 * b) := by
  have h : b = 0 ∨ b = 1 ∨ b = 2 ∨ b = 3 ∨ b = 4 ∨ b = 5 ∨ b = 6 ∨ b = 7 := by omega
  rcases h with e | e | e | e | e | e | e | e <;> subst e <;> rfl
theorem shr_bv {a : Int32} {b : Nat} (hb : b < 8) : (a.toUInt32 >>> ((i32 (4 * (b : Int))).toUInt32 &&& Int32.toUInt32 31)).toInt32.toBitVec = a.toBitVec >>> (4 * b) := by
  have h : b = 0 ∨ b = 1 ∨ b = 2 ∨ b = 3 ∨ b = 4 ∨ b = 5 ∨ b = 6 ∨ b = 7 := by omega
  rcases h with e | e | e | e | e | e | e | e <;> subst e <;> rfl
def nib (x k : Int) : Int := pAnd (pUshr x (4 * k)) 15
def nibSet (x b w : Int) : Int := pOr (pAnd x (pXor (pShl 15 (4 * b)) (-1))) (pShl w (4 * b))
theorem nib_eq {x : Int} {k : Nat} (hk : k < 8) : nib x k = (((i32 x).toBitVec >>> (4 * k)) &&& 15#32).toInt := by
  unfold nib pAnd pUshr
  rw [i32_ti, ← Int32.toInt_toBitVec, Int32.toBitVec_and, shr_bv hk]
  rfl
theorem nib_set {x b w k : Int} (hb : 0 ≤ b ∧ b < 8) (hk : 0 ≤ k ∧ k < 8) (hw : 0 ≤ w ∧ w < 16) : nib (nibSet x b w) k = if k = b then w else nib x k := by
  obtain ⟨b', rfl⟩ : ∃ n : Nat, b = n := ⟨b.toNat, by omega⟩
  obtain ⟨k', rfl⟩ : ∃ n : Nat, k = n := ⟨k.toNat, by omega⟩
  have e : (i32 (nibSet x b' w)).toBitVec = (((i32 x).toBitVec &&& ~~~(15#32 <<< (4 * b'))) ||| ((i32 w).toBitVec <<< (4 * b'))) := by
    unfold nibSet pOr pAnd pXor pShl
    rw [i32_ti, i32_ti, i32_ti, i32_ti, i32_ti, Int32.toBitVec_or, Int32.toBitVec_and, Int32.toBitVec_xor, shl_bv (by omega), shl_bv (by omega)]
    have : (i32 (-1)).toBitVec = BitVec.allOnes 32 := by decide
    rw [this, BitVec.xor_allOnes]
    rfl
  have hW : (i32 w).toBitVec.toNat < 16 ∧ (i32 w).toBitVec.toInt = w := by
    have h : ∀ n : Fin 16, (i32 (n.val : Int)).toBitVec.toNat < 16 ∧ (i32 (n.val : Int)).toBitVec.toInt = (n.val : Int) := by decide +kernel
    have := h ⟨w.toNat, by omega⟩
    dsimp only at this
    rwa [Int.toNat_of_nonneg hw.1] at this
  rw [nib_eq (by omega), nib_eq (by omega), e, nib_bv (by omega) (by omega) hW.1]
  by_cases q : k' = b'
  · rw [if_pos q, if_pos (by omega)]; exact hW.2
  · rw [if_neg q, if_neg (by omega)]
theorem nib_0 : ∀ k : Int, 0 ≤ k → k < 8 → nib 0 k = 0 := by
  intro k h0 h1
  have h : ∀ n : Fin 8, nib 0 (n.val : Int) = 0 := by decide +kernel
  have := h ⟨k.toNat, by omega⟩
  dsimp only at this
  rwa [Int.toNat_of_nonneg h0] at this

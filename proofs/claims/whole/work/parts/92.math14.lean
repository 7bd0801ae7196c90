-- sets of blows as the bits of a number
theorem shl12 {a : Int32} {b : Nat} (hb : b < 12) : (a <<< (i32 (b : Int) &&& 31)).toBitVec = a.toBitVec <<< b := by
  have h : b = 0 ∨ b = 1 ∨ b = 2 ∨ b = 3 ∨ b = 4 ∨ b = 5 ∨ b = 6 ∨ b = 7 ∨ b = 8 ∨ b = 9 ∨ b = 10 ∨ b = 11 := by omega
  rcases h with e | e | e | e | e | e | e | e | e | e | e | e <;> subst e <;> rfl
theorem shr12 {a : Int32} {b : Nat} (hb : b < 12) : (a >>> (i32 (b : Int) &&& 31)).toBitVec = a.toBitVec.sshiftRight b := by
  have h : b = 0 ∨ b = 1 ∨ b = 2 ∨ b = 3 ∨ b = 4 ∨ b = 5 ∨ b = 6 ∨ b = 7 ∨ b = 8 ∨ b = 9 ∨ b = 10 ∨ b = 11 := by omega
  rcases h with e | e | e | e | e | e | e | e | e | e | e | e <;> subst e <;> rfl
def bt (n j : Int) : Bool := (i32 n).toBitVec.getLsbD j.toNat
theorem one_bit (i : Nat) : (1#32).getLsbD i = decide (i = 0) := by
  by_cases q : i < 32
  · have h : ∀ i, i < 32 → (1#32).getLsbD i = decide (i = 0) := by decide
    exact h i q
  · rw [BitVec.getLsbD_of_ge _ _ (by omega)]; simp; omega
theorem bx_bv {v : BitVec 32} {j : Nat} (hj : j < 12) : (v.sshiftRight j) &&& 1#32 = if v.getLsbD j then 1#32 else 0#32 := by
  apply BitVec.eq_of_getLsbD_eq
  intro i hi
  rw [BitVec.getLsbD_and, one_bit, BitVec.getLsbD_sshiftRight]
  by_cases q : i = 0
  · subst q
    have e : j < 32 := by omega
    have e' : ¬ 32 ≤ j := by omega
    cases hv : v.getLsbD j <;> simp [e, e', hv]
  · cases hv : v.getLsbD j <;> simp [q]
theorem bx_bt {n j : Int} (hj : 0 ≤ j ∧ j < 12) : bx n j = if bt n j = true then 1 else 0 := by
  obtain ⟨k, rfl⟩ : ∃ k : Nat, j = k := ⟨j.toNat, by omega⟩
  unfold bx bt pAnd pShr
  rw [i32_ti, ← Int32.toInt_toBitVec, Int32.toBitVec_and, shr12 (by omega), show (i32 1).toBitVec = 1#32 from rfl, bx_bv (by omega), Int.toNat_natCast]
  cases (i32 n).toBitVec.getLsbD k <;> rfl
theorem bx_01 {n j : Int} (hj : 0 ≤ j ∧ j < 12) : bx n j = 0 ∨ bx n j = 1 := by
  rw [bx_bt hj]; split <;> omega
theorem bt_and {a b j : Int} : bt (pAnd a b) j = (bt a j && bt b j) := by
  unfold bt pAnd
  rw [i32_ti, Int32.toBitVec_and, BitVec.getLsbD_and]
theorem bt_or {a b j : Int} : bt (pOr a b) j = (bt a j || bt b j) := by
  unfold bt pOr
  rw [i32_ti, Int32.toBitVec_or, BitVec.getLsbD_or]
theorem bt_not {a j : Int} (hj : 0 ≤ j ∧ j < 32) : bt (pXor a (-1)) j = !bt a j := by
  unfold bt pXor
  rw [i32_ti, Int32.toBitVec_xor, show (i32 (-1)).toBitVec = BitVec.allOnes 32 by decide, BitVec.xor_allOnes, BitVec.getLsbD_not]
  have : j.toNat < 32 := by omega
  simp [this]
theorem bt_shl {k j : Int} (hk : 0 ≤ k ∧ k < 12) (hj : 0 ≤ j ∧ j < 32) : bt (pShl 1 k) j = decide (j = k) := by
  obtain ⟨k, rfl⟩ : ∃ m : Nat, k = m := ⟨k.toNat, by omega⟩
  obtain ⟨j, rfl⟩ : ∃ m : Nat, j = m := ⟨j.toNat, by omega⟩
  unfold bt pShl
  rw [i32_ti, shl12 (by omega), show (i32 1).toBitVec = 1#32 from rfl, BitVec.getLsbD_shiftLeft, one_bit, Int.toNat_natCast]
  have e : j < 32 := by omega
  by_cases q : j = k
  · simp [q]; omega
  · by_cases q2 : j < k
    · simp [q2, q]; omega
    · have : ¬ j - k = 0 := by omega
      simp [this]; omega
theorem bx_and {a b j : Int} (hj : 0 ≤ j ∧ j < 12) : bx (pAnd a b) j = if bx a j = 1 ∧ bx b j = 1 then 1 else 0 := by
  rw [bx_bt hj, bx_bt hj, bx_bt hj, bt_and]
  cases bt a j <;> cases bt b j <;> rfl
theorem bx_or {a b j : Int} (hj : 0 ≤ j ∧ j < 12) : bx (pOr a b) j = if bx a j = 1 ∨ bx b j = 1 then 1 else 0 := by
  rw [bx_bt hj, bx_bt hj, bx_bt hj, bt_or]
  cases bt a j <;> cases bt b j <;> rfl
theorem bx_not {a j : Int} (hj : 0 ≤ j ∧ j < 12) : bx (pXor a (-1)) j = if bx a j = 1 then 0 else 1 := by
  rw [bx_bt hj, bx_bt hj, bt_not ⟨by omega, by omega⟩]
  cases bt a j <;> rfl
theorem bx_shl {k j : Int} (hk : 0 ≤ k ∧ k < 12) (hj : 0 ≤ j ∧ j < 12) : bx (pShl 1 k) j = if j = k then 1 else 0 := by
  rw [bx_bt hj, bt_shl hk ⟨by omega, by omega⟩]
  by_cases q : j = k <;> simp [q]
theorem bx_0 {j : Int} (hj : 0 ≤ j ∧ j < 12) : bx 0 j = 0 := by
  rw [bx_bt hj]
  unfold bt
  rw [show (i32 0).toBitVec = 0#32 from rfl, BitVec.getLsbD_zero]
  rfl
theorem al_fin : ∀ T : Fin 13, (1 ≤ pShl 1 (T.val : Int) ∧ pShl 1 (T.val : Int) ≤ 4096 ∧ pShl 1 (T.val : Int) = ((2 ^ T.val : Nat) : Int)) ∧ ∀ k : Fin 12, k.val < T.val → bx (pShl 1 (T.val : Int) - 1) (k.val : Int) = 1 := by decide +kernel
theorem al_bd {T : Int} (hT : 0 ≤ T ∧ T ≤ 12) : 1 ≤ pShl 1 T ∧ pShl 1 T ≤ 4096 ∧ pShl 1 T = ((2 ^ T.toNat : Nat) : Int) := by
  have h := (al_fin ⟨T.toNat, by omega⟩).1
  dsimp only at h
  rwa [Int.toNat_of_nonneg hT.1] at h
theorem al_bx {T k : Int} (hT : 0 ≤ T ∧ T ≤ 12) (hk : 0 ≤ k ∧ k < T) : bx (pShl 1 T - 1) k = 1 := by
  have h := (al_fin ⟨T.toNat, by omega⟩).2 ⟨k.toNat, by omega⟩ (by dsimp only; omega)
  dsimp only at h
  rwa [Int.toNat_of_nonneg hT.1, Int.toNat_of_nonneg hk.1] at h
theorem i32_tn {n : Int} (hn : 0 ≤ n ∧ n < 4096) : (i32 n).toBitVec.toNat = n.toNat := by
  obtain ⟨k, rfl⟩ : ∃ m : Nat, n = m := ⟨n.toNat, by omega⟩
  show (BitVec.ofInt 32 (k : Int)).toNat = _
  rw [BitVec.ofInt_natCast, BitVec.toNat_ofNat, Int.toNat_natCast, Nat.mod_eq_of_lt (by omega)]
def nxt (n k : Int) : Int := pOr n (pShl 1 k)
theorem nxt_nat {n k : Int} (hn : 0 ≤ n ∧ n < 4096) (hk : 0 ≤ k ∧ k < 12) : nxt n k = ((n.toNat ||| 2 ^ k.toNat : Nat) : Int) := by
  obtain ⟨b1, b2, b3⟩ := al_bd (T := k) ⟨hk.1, by omega⟩
  have b4 : 2 ^ k.toNat < 4096 := by
    have := Nat.pow_lt_pow_right (a := 2) (by decide) (show k.toNat < 12 by omega)
    exact this
  unfold nxt pOr
  rw [← Int32.toInt_toBitVec, Int32.toBitVec_or, BitVec.toInt_eq_toNat_of_lt]
  · rw [BitVec.toNat_or, i32_tn hn, i32_tn ⟨by omega, by omega⟩, b3, Int.toNat_natCast]
  · rw [BitVec.toNat_or, i32_tn hn, i32_tn ⟨by omega, by omega⟩, b3, Int.toNat_natCast]
    have := Nat.or_lt_two_pow (x := n.toNat) (y := 2 ^ k.toNat) (n := 12) (by omega) b4
    omega
theorem nxt_bx {n k j : Int} (hk : 0 ≤ k ∧ k < 12) (hj : 0 ≤ j ∧ j < 12) : bx (nxt n k) j = if j = k then 1 else bx n j := by
  have h1 := bx_or (a := n) (b := pShl 1 k) hj
  rw [bx_shl hk hj] at h1
  unfold nxt
  rw [h1]
  have := bx_01 (n := n) hj
  by_cases q : j = k
  · rw [if_pos q, if_pos q]; simp
  · rw [if_neg q, if_neg q]
    rcases this with e | e <;> rw [e] <;> simp
theorem nxt_bd {n k T : Int} (hT : 0 ≤ T ∧ T ≤ 12) (hn : 0 ≤ n ∧ n < pShl 1 T) (hk : 0 ≤ k ∧ k < T) (hb : bx n k = 0) : n < nxt n k ∧ nxt n k < pShl 1 T := by
  obtain ⟨b1, b2, b3⟩ := al_bd hT
  have e := nxt_nat (n := n) (k := k) ⟨hn.1, by omega⟩ ⟨hk.1, by omega⟩
  have l1 : n.toNat ≤ n.toNat ||| 2 ^ k.toNat := Nat.left_le_or
  have l2 : n.toNat ||| 2 ^ k.toNat < 2 ^ T.toNat := Nat.or_lt_two_pow (by omega) (Nat.pow_lt_pow_right (by decide) (by omega))
  have ne : nxt n k ≠ n := fun q => by
    have h := nxt_bx (n := n) (k := k) (j := k) ⟨hk.1, by omega⟩ ⟨hk.1, by omega⟩
    rw [q, if_pos rfl] at h
    omega
  have : ((n.toNat : Nat) : Int) ≤ ((n.toNat ||| 2 ^ k.toNat : Nat) : Int) := by exact_mod_cast l1
  have : ((n.toNat ||| 2 ^ k.toNat : Nat) : Int) < ((2 ^ T.toNat : Nat) : Int) := by exact_mod_cast l2
  omega

-- the tape
theorem i64_ti (x : Int64) : i64 x.toInt = x := Int64.ofInt_toInt x
theorem lshr_bv {a : Int64} {k : Nat} (hk : k < 8) : (a >>> ((i32 (8 * (k : Int))).toInt64 &&& 63)).toBitVec = a.toBitVec.sshiftRight (8 * k) := by
  have h : k = 0 ∨ k = 1 ∨ k = 2 ∨ k = 3 ∨ k = 4 ∨ k = 5 ∨ k = 6 ∨ k = 7 := by omega
  rcases h with e | e | e | e | e | e | e | e <;> subst e <;> rfl
theorem lushr_bv {a : Int64} {k : Nat} (hk : k < 8) : (a.toUInt64 >>> ((i32 (8 * (k : Int))).toInt64.toUInt64 &&& Int64.toUInt64 63)).toInt64.toBitVec = a.toBitVec >>> (8 * k) := by
  have h : k = 0 ∨ k = 1 ∨ k = 2 ∨ k = 3 ∨ k = 4 ∨ k = 5 ∨ k = 6 ∨ k = 7 := by omega
  rcases h with e | e | e | e | e | e | e | e <;> subst e <;> rfl
theorem bv255 : ∀ i, i < 64 → (255#64).getLsbD i = decide (i < 8) := by decide
theorem byte_bv {X : BitVec 64} {k : Nat} (hk : k < 8) : X.sshiftRight (8 * k) &&& 255#64 = X >>> (8 * k) &&& 255#64 := by
  apply BitVec.eq_of_getLsbD_eq
  intro i hi
  simp only [BitVec.getLsbD_and, BitVec.getLsbD_ushiftRight, BitVec.getLsbD_sshiftRight, bv255 i hi]
  by_cases q : i < 8
  · have e1 : ¬ 64 ≤ i := by omega
    have e2 : 8 * k + i < 64 := by omega
    simp [e1, e2]
  · simp [q]
theorem shr_byte {v k : Int} (hk : 0 ≤ k ∧ k < 8) : pLshr v (8 * k) % 256 = pLushr v (8 * k) % 256 := by
  obtain ⟨k', rfl⟩ : ∃ n : Nat, k = n := ⟨k.toNat, by omega⟩
  rw [← pLand255, ← pLand255]
  unfold pLand pLshr pLushr
  rw [i64_ti, i64_ti, ← Int64.toInt_toBitVec, ← Int64.toInt_toBitVec, Int64.toBitVec_and, Int64.toBitVec_and, lshr_bv (by omega), lushr_bv (by omega)]
  exact congrArg BitVec.toInt (byte_bv (by omega))
def tok1 (c : Int) : Prop := c = 10 ∨ 32 ≤ c ∧ c ≤ 126
abbrev TS : Type := Int × (Int → Int)
noncomputable def tstep (c : Int) (s : TS) : TS := if (c = 10 ∨ 32 ≤ c ∧ c ≤ 126) ∧ s.1 < 1000 then (s.1 + 1, fup s.2 s.1 c) else s
noncomputable def tape8 (v m : Int) (s : TS) : TS := foldZ (fun k s => tstep (byt v k) s) m s
theorem tape8_s {v m : Int} {s : TS} (h : 0 ≤ m) : tape8 v (m + 1) s = tstep (byt v m) (tape8 v m s) := foldZ_s h
theorem tape8_bd {v : Int} {s : TS} (h : 0 ≤ s.1 ∧ s.1 ≤ 1000) : ∀ m : Nat, 0 ≤ (tape8 v m s).1 ∧ (tape8 v m s).1 ≤ 1000 := by
  intro m
  induction m with
  | zero => exact h
  | succ m ih =>
    have e : tape8 v ((m + 1 : Nat) : Int) s = _ := tape8_s (m := m) (by omega)
    rw [e]
    unfold tstep
    split
    · dsimp only; omega
    · exact ih

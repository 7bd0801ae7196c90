-- hours: sets of layers as the bits of a number
def bx (n x : Int) : Int := pAnd (pShr n x) 1
def bcn (n : Int) : Int := bx n 0 + bx n 1 + bx n 2 + bx n 3 + bx n 4
def hor (n a b : Int) : Int := pOr n (pOr (pShl 1 a) (pShl 1 b))
theorem hor_fin : ∀ n : Fin 32, ∀ a b : Fin 5, (0 ≤ hor (n.val : Int) (a.val : Int) (b.val : Int) ∧ hor (n.val : Int) (a.val : Int) (b.val : Int) < 32) ∧ (∀ x : Fin 5, bx (hor (n.val : Int) (a.val : Int) (b.val : Int)) (x.val : Int) = 1 ↔ (bx (n.val : Int) (x.val : Int) = 1 ∨ x = a ∨ x = b)) ∧ (hor (n.val : Int) (a.val : Int) (b.val : Int) = (n.val : Int) ∨ bcn (n.val : Int) < bcn (hor (n.val : Int) (a.val : Int) (b.val : Int))) := by decide +kernel
theorem bx_fin : ∀ n : Fin 32, pOr (n.val : Int) 0 = (n.val : Int) ∧ bcn (n.val : Int) ≤ 5 ∧ ∀ x : Fin 5, bx (n.val : Int) (x.val : Int) = 0 ∨ bx (n.val : Int) (x.val : Int) = 1 := by decide +kernel
theorem b1_fin : ∀ a : Fin 5, (0 ≤ pShl 1 (a.val : Int) ∧ pShl 1 (a.val : Int) < 32) ∧ bcn (pShl 1 (a.val : Int)) = 1 ∧ ∀ x : Fin 5, bx (pShl 1 (a.val : Int)) (x.val : Int) = 1 ↔ x = a := by decide +kernel
theorem hor_ok {n a b : Int} (hn : 0 ≤ n ∧ n < 32) (ha : 0 ≤ a ∧ a < 5) (hb : 0 ≤ b ∧ b < 5) : (0 ≤ hor n a b ∧ hor n a b < 32) ∧ (∀ x, 0 ≤ x → x < 5 → (bx (hor n a b) x = 1 ↔ (bx n x = 1 ∨ x = a ∨ x = b))) ∧ (hor n a b = n ∨ bcn n < bcn (hor n a b)) := by
  have h := hor_fin ⟨n.toNat, by omega⟩ ⟨a.toNat, by omega⟩ ⟨b.toNat, by omega⟩
  dsimp only at h
  rw [Int.toNat_of_nonneg hn.1, Int.toNat_of_nonneg ha.1, Int.toNat_of_nonneg hb.1] at h
  refine ⟨h.1, fun x h0 h1 => ?_, h.2.2⟩
  have := h.2.1 ⟨x.toNat, by omega⟩
  dsimp only at this
  rw [Int.toNat_of_nonneg h0] at this
  rw [this, Fin.mk.injEq, Fin.mk.injEq]
  omega
theorem bx_ok {n : Int} (hn : 0 ≤ n ∧ n < 32) : pOr n 0 = n ∧ bcn n ≤ 5 ∧ ∀ x, 0 ≤ x → x < 5 → (bx n x = 0 ∨ bx n x = 1) := by
  have h := bx_fin ⟨n.toNat, by omega⟩
  dsimp only at h
  rw [Int.toNat_of_nonneg hn.1] at h
  refine ⟨h.1, h.2.1, fun x h0 h1 => ?_⟩
  have := h.2.2 ⟨x.toNat, by omega⟩
  dsimp only at this
  rwa [Int.toNat_of_nonneg h0] at this
theorem b1_ok {a : Int} (ha : 0 ≤ a ∧ a < 5) : (0 ≤ pShl 1 a ∧ pShl 1 a < 32) ∧ bcn (pShl 1 a) = 1 ∧ ∀ x, 0 ≤ x → x < 5 → (bx (pShl 1 a) x = 1 ↔ x = a) := by
  have h := b1_fin ⟨a.toNat, by omega⟩
  dsimp only at h
  rw [Int.toNat_of_nonneg ha.1] at h
  refine ⟨h.1, h.2.1, fun x h0 h1 => ?_⟩
  have := h.2.2 ⟨x.toNat, by omega⟩
  dsimp only at this
  rw [Int.toNat_of_nonneg h0] at this
  rw [this, Fin.mk.injEq]
  omega
def hstep (on : Int → Bool) (a b : Int → Int) (j n : Int) : Int := if on j = true ∧ (bx n (a j) = 1 ∨ bx n (b j) = 1) then hor n (a j) (b j) else n
def hpass (on : Int → Bool) (a b : Int → Int) (J n : Int) : Int := foldZ (hstep on a b) J n
def hset (on : Int → Bool) (a b : Int → Int) (J m n : Int) : Int := foldZ (fun _ n => hpass on a b J n) m n
theorem hpass_s {on : Int → Bool} {a b : Int → Int} {J n : Int} (h : 0 ≤ J) : hpass on a b (J + 1) n = hstep on a b J (hpass on a b J n) := foldZ_s h
theorem hset_s {on : Int → Bool} {a b : Int → Int} {J m n : Int} (h : 0 ≤ m) : hset on a b J (m + 1) n = hpass on a b J (hset on a b J m n) := foldZ_s h
/-- a set that lies within the heap c -/
def HW (L : Int → Int) (c n : Int) : Prop := (0 ≤ n ∧ n < 32) ∧ ∀ x, 0 ≤ x → x < 5 → bx n x = 1 → L x = c
theorem hstep_ok {on : Int → Bool} {a b L : Int → Int} {j n c : Int} (hn : HW L c n) (ha : 0 ≤ a j ∧ a j < 5) (hb : 0 ≤ b j ∧ b j < 5) (hL : on j = true → L (a j) = L (b j)) : HW L c (hstep on a b j n) ∧ (∀ x, 0 ≤ x → x < 5 → bx n x = 1 → bx (hstep on a b j n) x = 1) ∧ (hstep on a b j n = n ∨ bcn n < bcn (hstep on a b j n)) ∧ (hstep on a b j n = n → on j = true → (bx n (a j) = 1 ∨ bx n (b j) = 1) → bx n (a j) = 1 ∧ bx n (b j) = 1) := by
  unfold hstep
  obtain ⟨h1, h2, h3⟩ := hor_ok hn.1 ha hb
  by_cases q : on j = true ∧ (bx n (a j) = 1 ∨ bx n (b j) = 1)
  · rw [if_pos q]
    refine ⟨⟨h1, fun x x0 x1 hx => ?_⟩, fun x x0 x1 hx => (h2 x x0 x1).mpr (Or.inl hx), h3, fun e _ _ => ?_⟩
    · have e := hL q.1
      have ca : L (a j) = c := by
        rcases q.2 with z | z
        · exact hn.2 _ ha.1 ha.2 z
        · rw [e]; exact hn.2 _ hb.1 hb.2 z
      rcases (h2 x x0 x1).mp hx with z | z | z
      · exact hn.2 x x0 x1 z
      · rw [z]; exact ca
      · rw [z, ← e]; exact ca
    · rw [← e]
      exact ⟨(h2 _ ha.1 ha.2).mpr (Or.inr (Or.inl rfl)), (h2 _ hb.1 hb.2).mpr (Or.inr (Or.inr rfl))⟩
  · rw [if_neg q]
    exact ⟨hn, fun _ _ _ h => h, Or.inl rfl, fun _ o z => absurd ⟨o, z⟩ q⟩
theorem hpass_ok {on : Int → Bool} {a b L : Int → Int} {J n c : Int} (hJ : 0 ≤ J) (hn : HW L c n) (hab : ∀ j, 0 ≤ j → j < J → (0 ≤ a j ∧ a j < 5) ∧ 0 ≤ b j ∧ b j < 5) (hL : ∀ j, 0 ≤ j → j < J → on j = true → L (a j) = L (b j)) : ∀ m, 0 ≤ m → m ≤ J → HW L c (hpass on a b m n) ∧ (∀ x, 0 ≤ x → x < 5 → bx n x = 1 → bx (hpass on a b m n) x = 1) ∧ (hpass on a b m n = n ∨ bcn n < bcn (hpass on a b m n)) ∧ (hpass on a b m n = n → ∀ j, 0 ≤ j → j < m → on j = true → (bx n (a j) = 1 ∨ bx n (b j) = 1) → bx n (a j) = 1 ∧ bx n (b j) = 1) := by
  have key : ∀ m : Nat, (m : Int) ≤ J → HW L c (hpass on a b m n) ∧ (∀ x, 0 ≤ x → x < 5 → bx n x = 1 → bx (hpass on a b m n) x = 1) ∧ (hpass on a b m n = n ∨ bcn n < bcn (hpass on a b m n)) ∧ (hpass on a b m n = n → ∀ j, 0 ≤ j → j < (m : Int) → on j = true → (bx n (a j) = 1 ∨ bx n (b j) = 1) → bx n (a j) = 1 ∧ bx n (b j) = 1) := by
    intro m
    induction m with
    | zero => intro _; exact ⟨hn, fun _ _ _ h => h, Or.inl rfl, fun _ j h0 h1 => by omega⟩
    | succ m ih =>
      intro hm
      obtain ⟨i1, i2, i3, i4⟩ := ih (by omega)
      have e : hpass on a b ((m + 1 : Nat) : Int) n = _ := hpass_s (J := m) (by omega)
      rw [e]
      have hj := hab m (by omega) (by omega)
      obtain ⟨s1, s2, s3, s4⟩ := hstep_ok (on := on) (j := m) i1 hj.1 hj.2 (hL m (by omega) (by omega))
      generalize hpass on a b m n = n' at *
      refine ⟨s1, fun x x0 x1 hx => s2 x x0 x1 (i2 x x0 x1 hx), ?_, fun ee j j0 j1 jo jz => ?_⟩
      · rcases i3 with i3 | i3
        · rw [i3] at s3 ⊢; exact s3
        · rcases s3 with s3 | s3
          · rw [s3]; exact Or.inr i3
          · exact Or.inr (by omega)
      · have en : n' = n := by
          rcases i3 with i3 | i3
          · exact i3
          · rcases s3 with s3 | s3
            · rw [← s3]; exact ee
            · rw [ee] at s3; omega
        rw [en] at s4 ee
        by_cases z : j = m
        · rw [z] at jo jz ⊢; exact s4 ee jo jz
        · exact i4 en j j0 (by omega) jo jz
  intro m h0 h1
  have := key m.toNat (by omega)
  rwa [Int.toNat_of_nonneg h0] at this
theorem hset_ok {on : Int → Bool} {a b L : Int → Int} {J n c : Int} (hJ : 0 ≤ J) (hn : HW L c n) (hc : 1 ≤ bcn n) (hab : ∀ j, 0 ≤ j → j < J → (0 ≤ a j ∧ a j < 5) ∧ 0 ≤ b j ∧ b j < 5) (hL : ∀ j, 0 ≤ j → j < J → on j = true → L (a j) = L (b j)) : ∀ m : Nat, HW L c (hset on a b J m n) ∧ (∀ x, 0 ≤ x → x < 5 → bx n x = 1 → bx (hset on a b J m n) x = 1) ∧ (hpass on a b J (hset on a b J m n) = hset on a b J m n ∨ (m : Int) + 1 ≤ bcn (hset on a b J m n)) := by
  intro m
  induction m with
  | zero => exact ⟨hn, fun _ _ _ h => h, Or.inr (by show 0 + 1 ≤ bcn n; omega)⟩
  | succ m ih =>
    obtain ⟨i1, i2, i3⟩ := ih
    have e : hset on a b J ((m + 1 : Nat) : Int) n = _ := hset_s (m := m) (by omega)
    rw [e]
    generalize hset on a b J m n = n' at *
    obtain ⟨p1, p2, p3, -⟩ := hpass_ok hJ i1 hab hL J hJ (Int.le_refl _)
    refine ⟨p1, fun x x0 x1 hx => p2 x x0 x1 (i2 x x0 x1 hx), ?_⟩
    rcases p3 with p3 | p3
    · rw [p3, p3]; exact Or.inl rfl
    · rcases i3 with i3 | i3
      · rw [i3] at p3; omega
      · exact Or.inr (by omega)
/-- five passes find the whole heap of a layer -/
theorem hset_all {on : Int → Bool} {A B : Int → Int} {J l : Int} (hJ : 0 ≤ J) (hl : 0 ≤ l ∧ l < 5) (hAB : ∀ j, 0 ≤ j → j < J → (0 ≤ A j ∧ A j < 8 * 5) ∧ 0 ≤ B j ∧ B j < 8 * 5) : (0 ≤ hset on (fun j => A j / 8) (fun j => B j / 8) J 5 (pShl 1 l) ∧ hset on (fun j => A j / 8) (fun j => B j / 8) J 5 (pShl 1 l) < 32) ∧ ∀ x, 0 ≤ x → x < 5 → (bx (hset on (fun j => A j / 8) (fun j => B j / 8) J 5 (pShl 1 l)) x = 1 ↔ lab 5 J on A B x = lab 5 J on A B l) := by
  obtain ⟨o1, o2, o3⟩ := b1_ok hl
  have hab : ∀ j, 0 ≤ j → j < J → (0 ≤ A j / 8 ∧ A j / 8 < 5) ∧ 0 ≤ B j / 8 ∧ B j / 8 < 5 := fun j h0 h1 => by have := hAB j h0 h1; omega
  have hL : ∀ j, 0 ≤ j → j < J → on j = true → lab 5 J on A B (A j / 8) = lab 5 J on A B (B j / 8) := fun j h0 h1 ho => lab_join hAB h0 h1 ho
  have hw : HW (lab 5 J on A B) (lab 5 J on A B l) (pShl 1 l) := ⟨o1, fun x x0 x1 hx => by rw [(o3 x x0 x1).mp hx]⟩
  obtain ⟨s1, s2, s3⟩ := hset_ok (a := fun j => A j / 8) (b := fun j => B j / 8) hJ hw (by omega) hab hL 5
  have e5 : ((5 : Nat) : Int) = 5 := rfl
  rw [e5] at s1 s2 s3
  generalize hset on (fun j => A j / 8) (fun j => B j / 8) J 5 (pShl 1 l) = n at *
  have hfix : hpass on (fun j => A j / 8) (fun j => B j / 8) J n = n := by
    rcases s3 with s3 | s3
    · exact s3
    · have := (bx_ok s1.1).2.1
      omega
  obtain ⟨-, -, -, p4⟩ := hpass_ok (a := fun j => A j / 8) (b := fun j => B j / 8) hJ s1 hab hL J hJ (Int.le_refl _)
  have p4 := p4 hfix
  have cl := lab_closed (P := 5) (on := on) (V := fun x => bx n x = 1) hJ hAB (fun j h0 h1 ho => ⟨fun z => (p4 j h0 h1 ho (Or.inl z)).2, fun z => (p4 j h0 h1 ho (Or.inr z)).1⟩)
  refine ⟨s1.1, fun x x0 x1 => ⟨fun hx => s1.2 x x0 x1 hx, fun hx => ?_⟩⟩
  exact (cl x l ⟨x0, x1⟩ hl hx).mpr (s2 l hl.1 hl.2 ((o3 l hl.1 hl.2).mpr rfl))

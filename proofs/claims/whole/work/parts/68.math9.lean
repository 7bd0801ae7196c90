-- seats
def wayZ (X Y : Int → Int) (p c : Int) : Int := max (dst (X p) (100 * (c % 10) + 50)) (dst (Y p) (100 * (c / 10) + 50))
def abo (X Y S : Int → Int) (p c : Int) : Int := max 0 (wayZ X Y p c - (10 + 400 / S p))
def costZ (L X Y S : Int → Int) (c P a b : Int) : Int := sumZ (fun p => if L p = c then min (abo X Y S p a) (abo X Y S p b) else 0) P
abbrev SS : Type := Int × Int × Int
def sst (K : Int → Int → Int) (a b : Int) (s : SS) : SS := if s.1 < 0 ∨ K a b < s.1 then (K a b, a, b) else s
def seatIn (K : Int → Int → Int) (a lo m : Int) (s : SS) : SS := foldZ (fun t s => sst K a (lo + t) s) m s
def seatOut (K : Int → Int → Int) (n m : Int) (s : SS) : SS := foldZ (fun a s => if n = 1 then seatIn K a a 1 s else seatIn K a (a + 1) (99 - a) s) m s
theorem seatIn_s {K : Int → Int → Int} {a lo m : Int} {s : SS} (h : 0 ≤ m) : seatIn K a lo (m + 1) s = sst K a (lo + m) (seatIn K a lo m s) := foldZ_s h
theorem seatOut_s {K : Int → Int → Int} {n m : Int} {s : SS} (h : 0 ≤ m) : seatOut K n (m + 1) s = if n = 1 then seatIn K m m 1 (seatOut K n m s) else seatIn K m (m + 1) (99 - m) (seatOut K n m s) := foldZ_s h
theorem dst_999 {a b : Int} (ha : 0 ≤ a ∧ a ≤ 999) (hb : 0 ≤ b ∧ b ≤ 999) : 0 ≤ dst a b ∧ dst a b ≤ 999 := dst_bd ha hb
theorem wayZ_bd {X Y : Int → Int} {p c : Int} (hx : 0 ≤ X p ∧ X p ≤ 999) (hy : 0 ≤ Y p ∧ Y p ≤ 999) (hc : 0 ≤ c ∧ c < 100) : 0 ≤ wayZ X Y p c ∧ wayZ X Y p c ≤ 999 := by
  have h1 := dst_999 hx (b := 100 * (c % 10) + 50) (by omega)
  have h2 := dst_999 hy (b := 100 * (c / 10) + 50) (by omega)
  unfold wayZ
  omega
theorem lo_bd {s : Int} (h : 1 ≤ s ∧ s ≤ 200) : 10 ≤ 10 + 400 / s ∧ 10 + 400 / s ≤ 410 := by
  have h1 : 0 ≤ 400 / s := Int.ediv_nonneg (by omega) (by omega)
  have h2 : 400 / s ≤ 400 := Int.ediv_le_self _ (by omega)
  omega
theorem abo_bd {X Y S : Int → Int} {p c : Int} (hx : 0 ≤ X p ∧ X p ≤ 999) (hy : 0 ≤ Y p ∧ Y p ≤ 999) (hs : 1 ≤ S p ∧ S p ≤ 200) (hc : 0 ≤ c ∧ c < 100) : 0 ≤ abo X Y S p c ∧ abo X Y S p c ≤ 999 := by
  have := wayZ_bd hx hy hc
  have := lo_bd hs
  unfold abo
  omega
/-- pieces' places and sizes are in their bounds -/
def XB (X Y S : Int → Int) (P : Int) : Prop := ∀ p, 0 ≤ p → p < P → (0 ≤ X p ∧ X p ≤ 999) ∧ (0 ≤ Y p ∧ Y p ≤ 999) ∧ (1 ≤ S p ∧ S p ≤ 200)
theorem costZ_bd {L X Y S : Int → Int} {c P k a b : Int} (hX : XB X Y S P) (hk : 0 ≤ k ∧ k ≤ P) (ha : 0 ≤ a ∧ a < 100) (hb : 0 ≤ b ∧ b < 100) : 0 ≤ costZ L X Y S c k a b ∧ costZ L X Y S c k a b ≤ 999 * k := by
  unfold costZ
  refine sumZ_bd hk.1 (fun i i0 i1 => ?_)
  have h := hX i i0 (by omega)
  have h1 := abo_bd h.1 h.2.1 h.2.2 ha
  have h2 := abo_bd h.1 h.2.1 h.2.2 hb
  split <;> omega
theorem sst_bd {K : Int → Int → Int} {a b : Int} {s : SS} (hK : 0 ≤ K a b ∧ K a b ≤ 40000) (h : -1 ≤ s.1 ∧ s.1 ≤ 40000) : 0 ≤ (sst K a b s).1 ∧ (sst K a b s).1 ≤ 40000 := by
  unfold sst
  split
  · exact hK
  · omega
theorem sst_in {K : Int → Int → Int} {a b : Int} {s : SS} (ha : 0 ≤ a ∧ a < 100) (hb : 0 ≤ b ∧ b < 100) (h : (0 ≤ s.2.1 ∧ s.2.1 < 100) ∧ 0 ≤ s.2.2 ∧ s.2.2 < 100) : (0 ≤ (sst K a b s).2.1 ∧ (sst K a b s).2.1 < 100) ∧ 0 ≤ (sst K a b s).2.2 ∧ (sst K a b s).2.2 < 100 := by
  unfold sst
  split
  · exact ⟨ha, hb⟩
  · exact h
def SB (s : SS) : Prop := (-1 ≤ s.1 ∧ s.1 ≤ 40000) ∧ (0 ≤ s.2.1 ∧ s.2.1 < 100) ∧ 0 ≤ s.2.2 ∧ s.2.2 < 100
theorem SB_st {K : Int → Int → Int} {a b : Int} {s : SS} (ha : 0 ≤ a ∧ a < 100) (hb : 0 ≤ b ∧ b < 100) (hK : 0 ≤ K a b ∧ K a b ≤ 40000) (h : SB s) : SB (sst K a b s) ∧ 0 ≤ (sst K a b s).1 := by
  have h1 := sst_bd hK h.1
  exact ⟨⟨by omega, sst_in ha hb h.2⟩, h1.1⟩
theorem SB_in {K : Int → Int → Int} {a lo m0 : Int} {s : SS} (hK : ∀ a b, 0 ≤ a → a < 100 → 0 ≤ b → b < 100 → 0 ≤ K a b ∧ K a b ≤ 40000) (ha : 0 ≤ a ∧ a < 100) (hlo : 0 ≤ lo ∧ lo + m0 ≤ 100) (h : SB s) : ∀ m : Nat, (m : Int) ≤ m0 → SB (seatIn K a lo m s) ∧ (1 ≤ m ∨ 0 ≤ s.1 → 0 ≤ (seatIn K a lo m s).1) := by
  intro m
  induction m with
  | zero => intro _; exact ⟨h, fun z => z.elim (fun z => by omega) (fun z => z)⟩
  | succ m ih =>
    intro hm
    have e : seatIn K a lo ((m + 1 : Nat) : Int) s = _ := seatIn_s (m := m) (by omega)
    rw [e]
    have i := ih (by omega)
    have := SB_st (K := K) ha (b := lo + m) (by omega) (hK a _ ha.1 ha.2 (by omega) (by omega)) i.1
    exact ⟨this.1, fun _ => this.2⟩
theorem SB_out {K : Int → Int → Int} {n : Int} {s : SS} (hK : ∀ a b, 0 ≤ a → a < 100 → 0 ≤ b → b < 100 → 0 ≤ K a b ∧ K a b ≤ 40000) (h : SB s) : ∀ m : Nat, (m : Int) ≤ 100 → SB (seatOut K n m s) ∧ (1 ≤ m → 0 ≤ (seatOut K n m s).1) := by
  intro m
  induction m with
  | zero => intro _; exact ⟨h, fun z => by omega⟩
  | succ m ih =>
    intro hm
    have e : seatOut K n ((m + 1 : Nat) : Int) s = _ := seatOut_s (m := m) (by omega)
    rw [e]
    have i := ih (by omega)
    by_cases q : n = 1
    · rw [if_pos q]
      have := SB_in (K := K) (a := m) (lo := m) (m0 := 1) hK (by omega) (by omega) i.1 1 (by omega)
      exact ⟨this.1, fun _ => this.2 (Or.inl (by omega))⟩
    · rw [if_neg q]
      have := SB_in (K := K) (a := m) (lo := m + 1) (m0 := 99 - m) hK (by omega) (by omega) i.1 (99 - m) (by omega)
      rw [show ((99 - m : Nat) : Int) = 99 - m by omega] at this
      refine ⟨this.1, fun _ => this.2 ?_⟩
      by_cases z : m = 0
      · left; omega
      · right; exact i.2 (by omega)

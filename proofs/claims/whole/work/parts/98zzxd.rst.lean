theorem byt_z : ∀ k : Fin 8, byt 0 (k.val : Int) = 0 := by decide +kernel
theorem byt_zi {k : Int} (h0 : 0 ≤ k) (h1 : k < 8) : byt 0 k = 0 := by
  have := byt_z ⟨k.toNat, by omega⟩
  dsimp only at this
  rw [Int.toNat_of_nonneg h0] at this
  exact this
/-- the relation holds behind both constructors -/
theorem RR_start {σ : Sg} (hZ : ∀ (k : Nat) (i : Int), k ∉ [54, 55, 76] → (k, i) ∉ [((36 : Nat), (2 : Int)), (57, 4), (64, 10), (71, 25)] → σ k i = 0) (w54 : ∀ w, 0 ≤ w → w < 8 → σ 54 w = wvl 32 (wdg w) (wln w)) (w55 : ∀ w, 0 ≤ w → w < 12 → σ 55 w = wvl 32 (wdg (8 + w)) (wln (8 + w))) (w76 : ∀ w, 0 ≤ w → w < 20 → σ 76 w = wvl 37 (wdg w) (wln w)) (h36 : σ 36 2 = 20) (h57 : σ 57 4 = -1) (h64 : σ 64 10 = -1) (h71 : σ 71 25 = 20) : RR σ 53 60 0 0 := by
  have z : ∀ (k : Nat) (i : Int), ([54, 55, 76].contains k || [((36 : Nat), (2 : Int)), (57, 4), (64, 10), (71, 25)].contains (k, i)) = false → σ k i = 0 := fun k i h => by
    rw [Bool.or_eq_false_iff] at h
    refine hZ k i (fun y => ?_) (fun y => ?_)
    · rw [List.contains_iff_mem.mpr y] at h; exact absurd h.1 (by decide)
    · rw [List.contains_iff_mem.mpr y] at h; exact absurd h.2 (by decide)
  have zf : ∀ (k : Nat), ([54, 55, 76].contains k || [((36 : Nat), (2 : Int)), (57, 4), (64, 10), (71, 25)].any (fun q => q.1 == k)) = false → σ k = fun _ => 0 := fun k h => by
    rw [Bool.or_eq_false_iff] at h
    funext i
    refine hZ k i (fun y => ?_) (fun y => ?_)
    · rw [List.contains_iff_mem.mpr y] at h; exact absurd h.1 (by decide)
    · have : ([((36 : Nat), (2 : Int)), (57, 4), (64, 10), (71, 25)].any (fun q => q.1 == k)) = true := List.any_eq_true.mpr ⟨(k, i), y, beq_self_eq_true k⟩
      rw [this] at h; exact absurd h.2 (by decide)
  refine ⟨⟨?_, ?_, ?_, ?_, ?_, ?_, ?_⟩, Or.inl h57, Or.inl h64⟩
  · refine ⟨?_, ?_, ?_⟩
    · rw [z 71 24 rfl, z 0 8 rfl]; omega
    · rw [z 71 71 rfl, z 71 72 rfl, z 0 9 rfl, z 0 10 rfl]; omega
    · rw [h71, h36]; omega
  · refine ⟨⟨?_, ?_, ?_, ?_⟩, ?_, ?_, ?_, ?_, ?_, ?_⟩
    · rw [z 71 2 rfl, z 52 0 rfl]
    · rw [z 52 0 rfl]; omega
    · rw [zf 72 rfl, zf 53 rfl]
    · rw [z 52 0 rfl]; exact fun i i0 i1 => by omega
    · rw [z 71 65 rfl, z 64 2 rfl]
    · rw [z 64 2 rfl]; omega
    · rw [zf 119 rfl, zf 65 rfl]
    · rw [zf 120 rfl, zf 66 rfl]
    · rw [zf 121 rfl, zf 67 rfl]
    · rw [z 64 2 rfl]; exact fun i i0 i1 => by omega
  · refine ⟨⟨z 1 0 rfl, z 71 26 rfl, by omega, by omega⟩, ?_, fun p p0 p1 => by omega, fun p p0 p1 => by omega, fun p p0 p1 => ?_⟩
    · rw [zf 88 rfl, zf 89 rfl, zf 90 rfl, zf 91 rfl, zf 92 rfl, zf 93 rfl, zf 94 rfl, zf 95 rfl, zf 96 rfl, zf 97 rfl, zf 2 rfl, zf 3 rfl, zf 4 rfl, zf 5 rfl, zf 6 rfl, zf 7 rfl, zf 8 rfl, zf 9 rfl, zf 10 rfl, zf 11 rfl]
      exact ⟨rfl, rfl, rfl, rfl, rfl, rfl, rfl, rfl, rfl, rfl⟩
    · rw [zf 7 rfl, zf 8 rfl, zf 9 rfl, zf 10 rfl, zf 11 rfl]; exact ⟨rfl, rfl, rfl, rfl, rfl⟩
  · refine ⟨?_, fun p p0 p1 => by omega, fun p p0 p1 => ?_, fun f f0 f1 => ?_, fun f k f0 f1 k0 k1 => ?_, fun f k f0 f1 k0 k1 hn => ?_⟩
    · rw [zf 98 rfl, zf 99 rfl, zf 101 rfl, zf 100 rfl, zf 13 rfl, zf 14 rfl, zf 16 rfl]
      exact ⟨rfl, rfl, rfl, fun i => ⟨by show (0 : Int) ≤ 0; omega, by show (0 : Int) ≤ 255; omega⟩⟩
    · rw [zf 13 rfl]
    · rw [zf 14 rfl, zf 16 rfl]; exact ⟨⟨by show (0 : Int) ≤ 0; omega, by show (0 : Int) ≤ 3; omega⟩, by show (0 : Int) ≤ 0; omega, by show (0 : Int) ≤ 7; omega⟩
    · rw [zf 100 rfl, zf 116 rfl, zf 15 rfl, zf 18 rfl]
      exact ⟨(byt_zi k0 k1).symm, (nib_0 k k0 k1).symm⟩
    · rw [zf 18 rfl, nib_0 k k0 k1] at hn; omega
  · refine ⟨⟨z 71 43 rfl, ?_⟩, ⟨⟨z 1 0 rfl, z 21 0 rfl, by omega, by omega, fun j j0 j1 => by omega⟩, fun j j0 j1 => by omega, fun j j0 j1 => by omega⟩, fun j j0 j1 => by omega, fun f f0 f1 => by omega⟩
    rw [zf 102 rfl, zf 103 rfl, zf 104 rfl, zf 105 rfl, zf 106 rfl, zf 22 rfl, zf 23 rfl, zf 24 rfl, zf 25 rfl, zf 26 rfl]
    exact ⟨rfl, rfl, rfl, rfl, rfl⟩
  · exact fun p p0 p1 => by omega
  · refine ⟨Or.inl ⟨rfl, rfl⟩, ⟨z 40 0 rfl, z 47 0 rfl⟩, w54, w55, w76, 0, 0, 0, fun _ => 0, fun _ => 0, fun _ => 0, fun _ _ => 0, fun _ _ => 0, ⟨by omega, by show (0 : Int) ≤ 8; omega, fun l l0 l1 => by omega⟩, Or.inl ⟨rfl, z 37 0 rfl, fun l l0 l1 => by omega⟩, ⟨⟨z 71 10 rfl, Or.inl rfl, z 77 0 rfl, fun l l0 l1 => by omega⟩, by omega, fun l l0 l1 => by omega⟩, fun l l0 l1 => by omega, ?_, z 81 0 rfl⟩
    show σ 37 1 = 0
    exact z 37 1 rfl
/-- both constructors, one behind the other, and the law's own row -/
theorem start_R {σ1 : Sg} (hF : Fr [54, 55] [(36, 2), (57, 4), (64, 10)] (fun _ _ => 0) σ1) (hw : (∀ w, 0 ≤ w → w < 8 → σ1 54 w = wvl 32 (wdg w) (wln w)) ∧ ∀ w, 0 ≤ w → w < 12 → σ1 55 w = wvl 32 (wdg (8 + w)) (wln (8 + w))) (h36 : σ1 36 2 = 20) (h57 : σ1 57 4 = -1) (h64 : σ1 64 10 = -1) : RR (up2 (up2 (up2 (up2 (up2 (up2 (up2 (up2 (up2 (up2 (up2 (up2 (up2 (up2 (up2 (up2 (up2 (up2 (up2 (up2 (up2 (σ1) 76 0 (16633)) 76 1 (2793)) 76 2 (8285282)) 76 3 (36643177)) 76 4 (1176170)) 76 5 (1891)) 76 6 (573)) 76 7 (19741)) 76 8 (9636)) 76 9 (36269373)) 76 10 (14037783)) 76 11 (8269)) 76 12 (835275500)) 76 13 (4837215)) 76 14 (172677872)) 76 15 (236773452)) 76 16 (14032597)) 76 17 (36440801)) 76 18 (316910)) 76 19 (975695)) 71 25 (20)) 53 60 0 0 := by
  generalize hs : up2 (up2 (up2 (up2 (up2 (up2 (up2 (up2 (up2 (up2 (up2 (up2 (up2 (up2 (up2 (up2 (up2 (up2 (up2 (up2 (up2 (σ1) 76 0 (16633)) 76 1 (2793)) 76 2 (8285282)) 76 3 (36643177)) 76 4 (1176170)) 76 5 (1891)) 76 6 (573)) 76 7 (19741)) 76 8 (9636)) 76 9 (36269373)) 76 10 (14037783)) 76 11 (8269)) 76 12 (835275500)) 76 13 (4837215)) 76 14 (172677872)) 76 15 (236773452)) 76 16 (14032597)) 76 17 (36440801)) 76 18 (316910)) 76 19 (975695)) 71 25 (20) = s
  have f : Fr [76] [(71, 25)] σ1 s := by rw [← hs]; exact (((((((((((((((((((((Fr.rf).up rfl).up rfl).up rfl).up rfl).up rfl).up rfl).up rfl).up rfl).up rfl).up rfl).up rfl).up rfl).up rfl).up rfl).up rfl).up rfl).up rfl).up rfl).up rfl).up rfl).up rfl
  have g : Fr [54, 55, 76] [(36, 2), (57, 4), (64, 10), (71, 25)] (fun _ _ => 0) s := Fr.tr hF f rfl rfl
  refine RR_start (fun k i h1 h2 => g k i h1 h2) (by rw [f.fn 54 rfl]; exact hw.1) (by rw [f.fn 55 rfl]; exact hw.2) (fun w w0 w1 => ?_) (by rw [f.at 36 2 rfl]; exact h36) (by rw [f.at 57 4 rfl]; exact h57) (by rw [f.at 64 10 rfl]; exact h64) (by rw [← hs]; simp [up2])
  rw [(wd_ok w0 w1).2.1]
  have hc : w = 0 ∨ w = 1 ∨ w = 2 ∨ w = 3 ∨ w = 4 ∨ w = 5 ∨ w = 6 ∨ w = 7 ∨ w = 8 ∨ w = 9 ∨ w = 10 ∨ w = 11 ∨ w = 12 ∨ w = 13 ∨ w = 14 ∨ w = 15 ∨ w = 16 ∨ w = 17 ∨ w = 18 ∨ w = 19 := by omega
  rw [← hs]
  rcases hc with z | z | z | z | z | z | z | z | z | z | z | z | z | z | z | z | z | z | z | z <;> subst z <;> simp [up2, V37]

theorem lk_fl {k f : Nat} : ∀ {T : List (Nat × Nat × Nat)}, lk T k f = lk (T.filter (fun e => Nat.beq e.1 k)) k f := by
  intro T
  induction T with
  | nil => rfl
  | cons e T ih =>
    rw [List.filter_cons]
    by_cases z : Nat.beq e.1 k = true
    · rw [if_pos z]
      unfold lk
      rw [ih]
    · rw [if_neg z]
      rw [lk, if_neg (fun y => by rw [y.1, Nat.beq_refl] at z; exact z rfl)]
      exact ih
theorem lk_ks {k f : Nat} {Ks : List Nat} : ∀ {T : List (Nat × Nat × Nat)}, T.all (fun e => Ks.contains e.1) = true → k ∉ Ks → lk T k f = 2 := by
  intro T
  induction T with
  | nil => intro _ _; rfl
  | cons e T ih =>
    intro h hk
    rw [List.all_cons, Bool.and_eq_true] at h
    rw [lk, if_neg (fun y => hk (by rw [y.1]; exact List.contains_iff_mem.mp h.1))]
    exact ih h.2 hk
def T122 : List (Nat × Nat × Nat) := [(71, 68, 137), (71, 67, 136), (71, 66, 135), (71, 61, 134), (71, 60, 133), (71, 59, 132), (71, 58, 131), (71, 57, 130), (71, 56, 129), (71, 54, 128), (71, 53, 127), (71, 52, 126), (71, 51, 125), (71, 50, 124), (71, 49, 123), (71, 48, 122), (71, 47, 121), (71, 46, 120), (71, 45, 119), (71, 44, 118), (71, 40, 117), (71, 39, 116), (71, 38, 115), (71, 37, 114), (71, 36, 113), (71, 35, 112), (71, 34, 111), (71, 33, 110), (71, 32, 109), (71, 31, 108), (71, 30, 107), (71, 29, 106), (71, 28, 105), (71, 27, 104), (71, 23, 103), (71, 22, 102), (71, 21, 101), (71, 20, 100), (71, 19, 99), (71, 17, 98), (71, 16, 97), (71, 15, 96), (71, 14, 95), (71, 13, 94), (71, 12, 93), (71, 9, 92), (71, 6, 91), (71, 5, 90), (71, 4, 89), (71, 1, 88), (0, 7, 80), (64, 1, 44), (64, 0, 17), (64, 8, 86), (64, 7, 85), (64, 6, 84), (64, 5, 83), (64, 4, 82), (64, 3, 81), (0, 6, 73), (57, 3, 44), (57, 2, 37), (57, 1, 28), (57, 0, 17), (57, 11, 79), (57, 10, 78), (57, 9, 77), (57, 8, 76), (57, 7, 75), (57, 6, 74), (0, 5, 68), (52, 11, 72), (52, 10, 71), (52, 9, 70), (52, 1, 69), (0, 4, 52), (36, 1, 28), (36, 0, 17), (36, 5, 67), (36, 4, 60), (44, 8, 66), (44, 7, 65), (44, 6, 64), (44, 5, 63), (44, 4, 62), (44, 3, 61), (36, 3, 53), (37, 8, 59), (37, 7, 58), (37, 6, 57), (37, 5, 56), (37, 4, 55), (37, 3, 54), (0, 3, 44), (28, 1, 37), (28, 0, 17), (28, 8, 51), (28, 7, 50), (28, 6, 49), (28, 5, 48), (28, 4, 47), (28, 3, 46), (28, 2, 45), (0, 2, 37), (21, 6, 43), (21, 5, 42), (21, 4, 41), (21, 3, 40), (21, 2, 39), (21, 1, 38), (0, 1, 28), (12, 7, 36), (12, 6, 35), (12, 5, 34), (12, 4, 33), (12, 3, 32), (12, 2, 31), (12, 1, 30), (12, 0, 29), (0, 0, 17), (1, 10, 27), (1, 9, 26), (1, 8, 25), (1, 7, 24), (1, 6, 23), (1, 5, 22), (1, 4, 21), (1, 3, 20), (1, 2, 19), (1, 1, 18)]
set_option maxRecDepth 20000 in
set_option maxHeartbeats 4000000 in
theorem lk_fin : lk T122 = rf0 53 60 2 := by
  funext k f
  by_cases h0 : k = 0
  · subst h0
    have hl : lk T122 0 f = lk [(0, 7, 80), (0, 6, 73), (0, 5, 68), (0, 4, 52), (0, 3, 44), (0, 2, 37), (0, 1, 28), (0, 0, 17)] 0 f := lk_fl
    rw [hl]
    by_cases f7 : f = 7
    · subst f7; rfl
    by_cases f6 : f = 6
    · subst f6; rfl
    by_cases f5 : f = 5
    · subst f5; rfl
    by_cases f4 : f = 4
    · subst f4; rfl
    by_cases f3 : f = 3
    · subst f3; rfl
    by_cases f2 : f = 2
    · subst f2; rfl
    by_cases f1 : f = 1
    · subst f1; rfl
    by_cases f0 : f = 0
    · subst f0; rfl
    have e7 : Nat.beq f 7 = false := bq f7
    have e6 : Nat.beq f 6 = false := bq f6
    have e5 : Nat.beq f 5 = false := bq f5
    have e4 : Nat.beq f 4 = false := bq f4
    have e3 : Nat.beq f 3 = false := bq f3
    have e2 : Nat.beq f 2 = false := bq f2
    have e1 : Nat.beq f 1 = false := bq f1
    have e0 : Nat.beq f 0 = false := bq f0
    have hl2 : lk [(0, 7, 80), (0, 6, 73), (0, 5, 68), (0, 4, 52), (0, 3, 44), (0, 2, 37), (0, 1, 28), (0, 0, 17)] 0 f = 2 := by simp only [lk, f7, f6, f5, f4, f3, f2, f1, f0, and_false, if_false]
    rw [hl2]
    show 2 = rf0 53 60 2 0 f
    simp only [rf0, e7, e6, e5, e4, e3, e2, e1, e0, cond_false, Bool.cond_self]
    try rfl
  by_cases h1 : k = 1
  · subst h1
    have hl : lk T122 1 f = lk [(1, 10, 27), (1, 9, 26), (1, 8, 25), (1, 7, 24), (1, 6, 23), (1, 5, 22), (1, 4, 21), (1, 3, 20), (1, 2, 19), (1, 1, 18)] 1 f := lk_fl
    rw [hl]
    by_cases f10 : f = 10
    · subst f10; rfl
    by_cases f9 : f = 9
    · subst f9; rfl
    by_cases f8 : f = 8
    · subst f8; rfl
    by_cases f7 : f = 7
    · subst f7; rfl
    by_cases f6 : f = 6
    · subst f6; rfl
    by_cases f5 : f = 5
    · subst f5; rfl
    by_cases f4 : f = 4
    · subst f4; rfl
    by_cases f3 : f = 3
    · subst f3; rfl
    by_cases f2 : f = 2
    · subst f2; rfl
    by_cases f1 : f = 1
    · subst f1; rfl
    have e10 : Nat.beq f 10 = false := bq f10
    have e9 : Nat.beq f 9 = false := bq f9
    have e8 : Nat.beq f 8 = false := bq f8
    have e7 : Nat.beq f 7 = false := bq f7
    have e6 : Nat.beq f 6 = false := bq f6
    have e5 : Nat.beq f 5 = false := bq f5
    have e4 : Nat.beq f 4 = false := bq f4
    have e3 : Nat.beq f 3 = false := bq f3
    have e2 : Nat.beq f 2 = false := bq f2
    have e1 : Nat.beq f 1 = false := bq f1
    have hl2 : lk [(1, 10, 27), (1, 9, 26), (1, 8, 25), (1, 7, 24), (1, 6, 23), (1, 5, 22), (1, 4, 21), (1, 3, 20), (1, 2, 19), (1, 1, 18)] 1 f = 2 := by simp only [lk, f10, f9, f8, f7, f6, f5, f4, f3, f2, f1, and_false, if_false]
    rw [hl2]
    show 2 = rf0 53 60 2 1 f
    simp only [rf0, e10, e9, e8, e7, e6, e5, e4, e3, e2, e1, cond_false, Bool.cond_self]
    try rfl
  by_cases h12 : k = 12
  · subst h12
    have hl : lk T122 12 f = lk [(12, 7, 36), (12, 6, 35), (12, 5, 34), (12, 4, 33), (12, 3, 32), (12, 2, 31), (12, 1, 30), (12, 0, 29)] 12 f := lk_fl
    rw [hl]
    by_cases f7 : f = 7
    · subst f7; rfl
    by_cases f6 : f = 6
    · subst f6; rfl
    by_cases f5 : f = 5
    · subst f5; rfl
    by_cases f4 : f = 4
    · subst f4; rfl
    by_cases f3 : f = 3
    · subst f3; rfl
    by_cases f2 : f = 2
    · subst f2; rfl
    by_cases f1 : f = 1
    · subst f1; rfl
    by_cases f0 : f = 0
    · subst f0; rfl
    have e7 : Nat.beq f 7 = false := bq f7
    have e6 : Nat.beq f 6 = false := bq f6
    have e5 : Nat.beq f 5 = false := bq f5
    have e4 : Nat.beq f 4 = false := bq f4
    have e3 : Nat.beq f 3 = false := bq f3
    have e2 : Nat.beq f 2 = false := bq f2
    have e1 : Nat.beq f 1 = false := bq f1
    have e0 : Nat.beq f 0 = false := bq f0
    have hl2 : lk [(12, 7, 36), (12, 6, 35), (12, 5, 34), (12, 4, 33), (12, 3, 32), (12, 2, 31), (12, 1, 30), (12, 0, 29)] 12 f = 2 := by simp only [lk, f7, f6, f5, f4, f3, f2, f1, f0, and_false, if_false]
    rw [hl2]
    show 2 = rf0 53 60 2 12 f
    simp only [rf0, e7, e6, e5, e4, e3, e2, e1, e0, cond_false, Bool.cond_self]
    try rfl
  by_cases h21 : k = 21
  · subst h21
    have hl : lk T122 21 f = lk [(21, 6, 43), (21, 5, 42), (21, 4, 41), (21, 3, 40), (21, 2, 39), (21, 1, 38)] 21 f := lk_fl
    rw [hl]
    by_cases f6 : f = 6
    · subst f6; rfl
    by_cases f5 : f = 5
    · subst f5; rfl
    by_cases f4 : f = 4
    · subst f4; rfl
    by_cases f3 : f = 3
    · subst f3; rfl
    by_cases f2 : f = 2
    · subst f2; rfl
    by_cases f1 : f = 1
    · subst f1; rfl
    have e6 : Nat.beq f 6 = false := bq f6
    have e5 : Nat.beq f 5 = false := bq f5
    have e4 : Nat.beq f 4 = false := bq f4
    have e3 : Nat.beq f 3 = false := bq f3
    have e2 : Nat.beq f 2 = false := bq f2
    have e1 : Nat.beq f 1 = false := bq f1
    have hl2 : lk [(21, 6, 43), (21, 5, 42), (21, 4, 41), (21, 3, 40), (21, 2, 39), (21, 1, 38)] 21 f = 2 := by simp only [lk, f6, f5, f4, f3, f2, f1, and_false, if_false]
    rw [hl2]
    show 2 = rf0 53 60 2 21 f
    simp only [rf0, e6, e5, e4, e3, e2, e1, cond_false, Bool.cond_self]
    try rfl
  by_cases h28 : k = 28
  · subst h28
    have hl : lk T122 28 f = lk [(28, 1, 37), (28, 0, 17), (28, 8, 51), (28, 7, 50), (28, 6, 49), (28, 5, 48), (28, 4, 47), (28, 3, 46), (28, 2, 45)] 28 f := lk_fl
    rw [hl]
    by_cases f1 : f = 1
    · subst f1; rfl
    by_cases f0 : f = 0
    · subst f0; rfl
    by_cases f8 : f = 8
    · subst f8; rfl
    by_cases f7 : f = 7
    · subst f7; rfl
    by_cases f6 : f = 6
    · subst f6; rfl
    by_cases f5 : f = 5
    · subst f5; rfl
    by_cases f4 : f = 4
    · subst f4; rfl
    by_cases f3 : f = 3
    · subst f3; rfl
    by_cases f2 : f = 2
    · subst f2; rfl
    have e1 : Nat.beq f 1 = false := bq f1
    have e0 : Nat.beq f 0 = false := bq f0
    have e8 : Nat.beq f 8 = false := bq f8
    have e7 : Nat.beq f 7 = false := bq f7
    have e6 : Nat.beq f 6 = false := bq f6
    have e5 : Nat.beq f 5 = false := bq f5
    have e4 : Nat.beq f 4 = false := bq f4
    have e3 : Nat.beq f 3 = false := bq f3
    have e2 : Nat.beq f 2 = false := bq f2
    have hl2 : lk [(28, 1, 37), (28, 0, 17), (28, 8, 51), (28, 7, 50), (28, 6, 49), (28, 5, 48), (28, 4, 47), (28, 3, 46), (28, 2, 45)] 28 f = 2 := by simp only [lk, f1, f0, f8, f7, f6, f5, f4, f3, f2, and_false, if_false]
    rw [hl2]
    show 2 = rf0 53 60 2 28 f
    simp only [rf0, e1, e0, e8, e7, e6, e5, e4, e3, e2, cond_false, Bool.cond_self]
    try rfl
  by_cases h36 : k = 36
  · subst h36
    have hl : lk T122 36 f = lk [(36, 1, 28), (36, 0, 17), (36, 5, 67), (36, 4, 60), (36, 3, 53)] 36 f := lk_fl
    rw [hl]
    by_cases f1 : f = 1
    · subst f1; rfl
    by_cases f0 : f = 0
    · subst f0; rfl
    by_cases f5 : f = 5
    · subst f5; rfl
    by_cases f4 : f = 4
    · subst f4; rfl
    by_cases f3 : f = 3
    · subst f3; rfl
    have e1 : Nat.beq f 1 = false := bq f1
    have e0 : Nat.beq f 0 = false := bq f0
    have e5 : Nat.beq f 5 = false := bq f5
    have e4 : Nat.beq f 4 = false := bq f4
    have e3 : Nat.beq f 3 = false := bq f3
    have hl2 : lk [(36, 1, 28), (36, 0, 17), (36, 5, 67), (36, 4, 60), (36, 3, 53)] 36 f = 2 := by simp only [lk, f1, f0, f5, f4, f3, and_false, if_false]
    rw [hl2]
    show 2 = rf0 53 60 2 36 f
    simp only [rf0, e1, e0, e5, e4, e3, cond_false, Bool.cond_self]
    try rfl
  by_cases h37 : k = 37
  · subst h37
    have hl : lk T122 37 f = lk [(37, 8, 59), (37, 7, 58), (37, 6, 57), (37, 5, 56), (37, 4, 55), (37, 3, 54)] 37 f := lk_fl
    rw [hl]
    by_cases f8 : f = 8
    · subst f8; rfl
    by_cases f7 : f = 7
    · subst f7; rfl
    by_cases f6 : f = 6
    · subst f6; rfl
    by_cases f5 : f = 5
    · subst f5; rfl
    by_cases f4 : f = 4
    · subst f4; rfl
    by_cases f3 : f = 3
    · subst f3; rfl
    have e8 : Nat.beq f 8 = false := bq f8
    have e7 : Nat.beq f 7 = false := bq f7
    have e6 : Nat.beq f 6 = false := bq f6
    have e5 : Nat.beq f 5 = false := bq f5
    have e4 : Nat.beq f 4 = false := bq f4
    have e3 : Nat.beq f 3 = false := bq f3
    have hl2 : lk [(37, 8, 59), (37, 7, 58), (37, 6, 57), (37, 5, 56), (37, 4, 55), (37, 3, 54)] 37 f = 2 := by simp only [lk, f8, f7, f6, f5, f4, f3, and_false, if_false]
    rw [hl2]
    show 2 = rf0 53 60 2 37 f
    simp only [rf0, e8, e7, e6, e5, e4, e3, cond_false, Bool.cond_self]
    try rfl
  by_cases h44 : k = 44
  · subst h44
    have hl : lk T122 44 f = lk [(44, 8, 66), (44, 7, 65), (44, 6, 64), (44, 5, 63), (44, 4, 62), (44, 3, 61)] 44 f := lk_fl
    rw [hl]
    by_cases f8 : f = 8
    · subst f8; rfl
    by_cases f7 : f = 7
    · subst f7; rfl
    by_cases f6 : f = 6
    · subst f6; rfl
    by_cases f5 : f = 5
    · subst f5; rfl
    by_cases f4 : f = 4
    · subst f4; rfl
    by_cases f3 : f = 3
    · subst f3; rfl
    have e8 : Nat.beq f 8 = false := bq f8
    have e7 : Nat.beq f 7 = false := bq f7
    have e6 : Nat.beq f 6 = false := bq f6
    have e5 : Nat.beq f 5 = false := bq f5
    have e4 : Nat.beq f 4 = false := bq f4
    have e3 : Nat.beq f 3 = false := bq f3
    have hl2 : lk [(44, 8, 66), (44, 7, 65), (44, 6, 64), (44, 5, 63), (44, 4, 62), (44, 3, 61)] 44 f = 2 := by simp only [lk, f8, f7, f6, f5, f4, f3, and_false, if_false]
    rw [hl2]
    show 2 = rf0 53 60 2 44 f
    simp only [rf0, e8, e7, e6, e5, e4, e3, cond_false, Bool.cond_self]
    try rfl
  by_cases h52 : k = 52
  · subst h52
    have hl : lk T122 52 f = lk [(52, 11, 72), (52, 10, 71), (52, 9, 70), (52, 1, 69)] 52 f := lk_fl
    rw [hl]
    by_cases f11 : f = 11
    · subst f11; rfl
    by_cases f10 : f = 10
    · subst f10; rfl
    by_cases f9 : f = 9
    · subst f9; rfl
    by_cases f1 : f = 1
    · subst f1; rfl
    have e11 : Nat.beq f 11 = false := bq f11
    have e10 : Nat.beq f 10 = false := bq f10
    have e9 : Nat.beq f 9 = false := bq f9
    have e1 : Nat.beq f 1 = false := bq f1
    have hl2 : lk [(52, 11, 72), (52, 10, 71), (52, 9, 70), (52, 1, 69)] 52 f = 2 := by simp only [lk, f11, f10, f9, f1, and_false, if_false]
    rw [hl2]
    show 2 = rf0 53 60 2 52 f
    simp only [rf0, e11, e10, e9, e1, cond_false, Bool.cond_self]
    try rfl
  by_cases h57 : k = 57
  · subst h57
    have hl : lk T122 57 f = lk [(57, 3, 44), (57, 2, 37), (57, 1, 28), (57, 0, 17), (57, 11, 79), (57, 10, 78), (57, 9, 77), (57, 8, 76), (57, 7, 75), (57, 6, 74)] 57 f := lk_fl
    rw [hl]
    by_cases f3 : f = 3
    · subst f3; rfl
    by_cases f2 : f = 2
    · subst f2; rfl
    by_cases f1 : f = 1
    · subst f1; rfl
    by_cases f0 : f = 0
    · subst f0; rfl
    by_cases f11 : f = 11
    · subst f11; rfl
    by_cases f10 : f = 10
    · subst f10; rfl
    by_cases f9 : f = 9
    · subst f9; rfl
    by_cases f8 : f = 8
    · subst f8; rfl
    by_cases f7 : f = 7
    · subst f7; rfl
    by_cases f6 : f = 6
    · subst f6; rfl
    have e3 : Nat.beq f 3 = false := bq f3
    have e2 : Nat.beq f 2 = false := bq f2
    have e1 : Nat.beq f 1 = false := bq f1
    have e0 : Nat.beq f 0 = false := bq f0
    have e11 : Nat.beq f 11 = false := bq f11
    have e10 : Nat.beq f 10 = false := bq f10
    have e9 : Nat.beq f 9 = false := bq f9
    have e8 : Nat.beq f 8 = false := bq f8
    have e7 : Nat.beq f 7 = false := bq f7
    have e6 : Nat.beq f 6 = false := bq f6
    have hl2 : lk [(57, 3, 44), (57, 2, 37), (57, 1, 28), (57, 0, 17), (57, 11, 79), (57, 10, 78), (57, 9, 77), (57, 8, 76), (57, 7, 75), (57, 6, 74)] 57 f = 2 := by simp only [lk, f3, f2, f1, f0, f11, f10, f9, f8, f7, f6, and_false, if_false]
    rw [hl2]
    show 2 = rf0 53 60 2 57 f
    simp only [rf0, e3, e2, e1, e0, e11, e10, e9, e8, e7, e6, cond_false, Bool.cond_self]
    try rfl
  by_cases h64 : k = 64
  · subst h64
    have hl : lk T122 64 f = lk [(64, 1, 44), (64, 0, 17), (64, 8, 86), (64, 7, 85), (64, 6, 84), (64, 5, 83), (64, 4, 82), (64, 3, 81)] 64 f := lk_fl
    rw [hl]
    by_cases f1 : f = 1
    · subst f1; rfl
    by_cases f0 : f = 0
    · subst f0; rfl
    by_cases f8 : f = 8
    · subst f8; rfl
    by_cases f7 : f = 7
    · subst f7; rfl
    by_cases f6 : f = 6
    · subst f6; rfl
    by_cases f5 : f = 5
    · subst f5; rfl
    by_cases f4 : f = 4
    · subst f4; rfl
    by_cases f3 : f = 3
    · subst f3; rfl
    have e1 : Nat.beq f 1 = false := bq f1
    have e0 : Nat.beq f 0 = false := bq f0
    have e8 : Nat.beq f 8 = false := bq f8
    have e7 : Nat.beq f 7 = false := bq f7
    have e6 : Nat.beq f 6 = false := bq f6
    have e5 : Nat.beq f 5 = false := bq f5
    have e4 : Nat.beq f 4 = false := bq f4
    have e3 : Nat.beq f 3 = false := bq f3
    have hl2 : lk [(64, 1, 44), (64, 0, 17), (64, 8, 86), (64, 7, 85), (64, 6, 84), (64, 5, 83), (64, 4, 82), (64, 3, 81)] 64 f = 2 := by simp only [lk, f1, f0, f8, f7, f6, f5, f4, f3, and_false, if_false]
    rw [hl2]
    show 2 = rf0 53 60 2 64 f
    simp only [rf0, e1, e0, e8, e7, e6, e5, e4, e3, cond_false, Bool.cond_self]
    try rfl
  by_cases h71 : k = 71
  · subst h71
    have hl : lk T122 71 f = lk [(71, 68, 137), (71, 67, 136), (71, 66, 135), (71, 61, 134), (71, 60, 133), (71, 59, 132), (71, 58, 131), (71, 57, 130), (71, 56, 129), (71, 54, 128), (71, 53, 127), (71, 52, 126), (71, 51, 125), (71, 50, 124), (71, 49, 123), (71, 48, 122), (71, 47, 121), (71, 46, 120), (71, 45, 119), (71, 44, 118), (71, 40, 117), (71, 39, 116), (71, 38, 115), (71, 37, 114), (71, 36, 113), (71, 35, 112), (71, 34, 111), (71, 33, 110), (71, 32, 109), (71, 31, 108), (71, 30, 107), (71, 29, 106), (71, 28, 105), (71, 27, 104), (71, 23, 103), (71, 22, 102), (71, 21, 101), (71, 20, 100), (71, 19, 99), (71, 17, 98), (71, 16, 97), (71, 15, 96), (71, 14, 95), (71, 13, 94), (71, 12, 93), (71, 9, 92), (71, 6, 91), (71, 5, 90), (71, 4, 89), (71, 1, 88)] 71 f := lk_fl
    rw [hl]
    by_cases f68 : f = 68
    · subst f68; rfl
    by_cases f67 : f = 67
    · subst f67; rfl
    by_cases f66 : f = 66
    · subst f66; rfl
    by_cases f61 : f = 61
    · subst f61; rfl
    by_cases f60 : f = 60
    · subst f60; rfl
    by_cases f59 : f = 59
    · subst f59; rfl
    by_cases f58 : f = 58
    · subst f58; rfl
    by_cases f57 : f = 57
    · subst f57; rfl
    by_cases f56 : f = 56
    · subst f56; rfl
    by_cases f54 : f = 54
    · subst f54; rfl
    by_cases f53 : f = 53
    · subst f53; rfl
    by_cases f52 : f = 52
    · subst f52; rfl
    by_cases f51 : f = 51
    · subst f51; rfl
    by_cases f50 : f = 50
    · subst f50; rfl
    by_cases f49 : f = 49
    · subst f49; rfl
    by_cases f48 : f = 48
    · subst f48; rfl
    by_cases f47 : f = 47
    · subst f47; rfl
    by_cases f46 : f = 46
    · subst f46; rfl
    by_cases f45 : f = 45
    · subst f45; rfl
    by_cases f44 : f = 44
    · subst f44; rfl
    by_cases f40 : f = 40
    · subst f40; rfl
    by_cases f39 : f = 39
    · subst f39; rfl
    by_cases f38 : f = 38
    · subst f38; rfl
    by_cases f37 : f = 37
    · subst f37; rfl
    by_cases f36 : f = 36
    · subst f36; rfl
    by_cases f35 : f = 35
    · subst f35; rfl
    by_cases f34 : f = 34
    · subst f34; rfl
    by_cases f33 : f = 33
    · subst f33; rfl
    by_cases f32 : f = 32
    · subst f32; rfl
    by_cases f31 : f = 31
    · subst f31; rfl
    by_cases f30 : f = 30
    · subst f30; rfl
    by_cases f29 : f = 29
    · subst f29; rfl
    by_cases f28 : f = 28
    · subst f28; rfl
    by_cases f27 : f = 27
    · subst f27; rfl
    by_cases f23 : f = 23
    · subst f23; rfl
    by_cases f22 : f = 22
    · subst f22; rfl
    by_cases f21 : f = 21
    · subst f21; rfl
    by_cases f20 : f = 20
    · subst f20; rfl
    by_cases f19 : f = 19
    · subst f19; rfl
    by_cases f17 : f = 17
    · subst f17; rfl
    by_cases f16 : f = 16
    · subst f16; rfl
    by_cases f15 : f = 15
    · subst f15; rfl
    by_cases f14 : f = 14
    · subst f14; rfl
    by_cases f13 : f = 13
    · subst f13; rfl
    by_cases f12 : f = 12
    · subst f12; rfl
    by_cases f9 : f = 9
    · subst f9; rfl
    by_cases f6 : f = 6
    · subst f6; rfl
    by_cases f5 : f = 5
    · subst f5; rfl
    by_cases f4 : f = 4
    · subst f4; rfl
    by_cases f1 : f = 1
    · subst f1; rfl
    have e68 : Nat.beq f 68 = false := bq f68
    have e67 : Nat.beq f 67 = false := bq f67
    have e66 : Nat.beq f 66 = false := bq f66
    have e61 : Nat.beq f 61 = false := bq f61
    have e60 : Nat.beq f 60 = false := bq f60
    have e59 : Nat.beq f 59 = false := bq f59
    have e58 : Nat.beq f 58 = false := bq f58
    have e57 : Nat.beq f 57 = false := bq f57
    have e56 : Nat.beq f 56 = false := bq f56
    have e54 : Nat.beq f 54 = false := bq f54
    have e53 : Nat.beq f 53 = false := bq f53
    have e52 : Nat.beq f 52 = false := bq f52
    have e51 : Nat.beq f 51 = false := bq f51
    have e50 : Nat.beq f 50 = false := bq f50
    have e49 : Nat.beq f 49 = false := bq f49
    have e48 : Nat.beq f 48 = false := bq f48
    have e47 : Nat.beq f 47 = false := bq f47
    have e46 : Nat.beq f 46 = false := bq f46
    have e45 : Nat.beq f 45 = false := bq f45
    have e44 : Nat.beq f 44 = false := bq f44
    have e40 : Nat.beq f 40 = false := bq f40
    have e39 : Nat.beq f 39 = false := bq f39
    have e38 : Nat.beq f 38 = false := bq f38
    have e37 : Nat.beq f 37 = false := bq f37
    have e36 : Nat.beq f 36 = false := bq f36
    have e35 : Nat.beq f 35 = false := bq f35
    have e34 : Nat.beq f 34 = false := bq f34
    have e33 : Nat.beq f 33 = false := bq f33
    have e32 : Nat.beq f 32 = false := bq f32
    have e31 : Nat.beq f 31 = false := bq f31
    have e30 : Nat.beq f 30 = false := bq f30
    have e29 : Nat.beq f 29 = false := bq f29
    have e28 : Nat.beq f 28 = false := bq f28
    have e27 : Nat.beq f 27 = false := bq f27
    have e23 : Nat.beq f 23 = false := bq f23
    have e22 : Nat.beq f 22 = false := bq f22
    have e21 : Nat.beq f 21 = false := bq f21
    have e20 : Nat.beq f 20 = false := bq f20
    have e19 : Nat.beq f 19 = false := bq f19
    have e17 : Nat.beq f 17 = false := bq f17
    have e16 : Nat.beq f 16 = false := bq f16
    have e15 : Nat.beq f 15 = false := bq f15
    have e14 : Nat.beq f 14 = false := bq f14
    have e13 : Nat.beq f 13 = false := bq f13
    have e12 : Nat.beq f 12 = false := bq f12
    have e9 : Nat.beq f 9 = false := bq f9
    have e6 : Nat.beq f 6 = false := bq f6
    have e5 : Nat.beq f 5 = false := bq f5
    have e4 : Nat.beq f 4 = false := bq f4
    have e1 : Nat.beq f 1 = false := bq f1
    have hl2 : lk [(71, 68, 137), (71, 67, 136), (71, 66, 135), (71, 61, 134), (71, 60, 133), (71, 59, 132), (71, 58, 131), (71, 57, 130), (71, 56, 129), (71, 54, 128), (71, 53, 127), (71, 52, 126), (71, 51, 125), (71, 50, 124), (71, 49, 123), (71, 48, 122), (71, 47, 121), (71, 46, 120), (71, 45, 119), (71, 44, 118), (71, 40, 117), (71, 39, 116), (71, 38, 115), (71, 37, 114), (71, 36, 113), (71, 35, 112), (71, 34, 111), (71, 33, 110), (71, 32, 109), (71, 31, 108), (71, 30, 107), (71, 29, 106), (71, 28, 105), (71, 27, 104), (71, 23, 103), (71, 22, 102), (71, 21, 101), (71, 20, 100), (71, 19, 99), (71, 17, 98), (71, 16, 97), (71, 15, 96), (71, 14, 95), (71, 13, 94), (71, 12, 93), (71, 9, 92), (71, 6, 91), (71, 5, 90), (71, 4, 89), (71, 1, 88)] 71 f = 2 := by simp only [lk, f68, f67, f66, f61, f60, f59, f58, f57, f56, f54, f53, f52, f51, f50, f49, f48, f47, f46, f45, f44, f40, f39, f38, f37, f36, f35, f34, f33, f32, f31, f30, f29, f28, f27, f23, f22, f21, f20, f19, f17, f16, f15, f14, f13, f12, f9, f6, f5, f4, f1, and_false, if_false]
    rw [hl2]
    show 2 = rf0 53 60 2 71 f
    simp only [rf0, e68, e67, e66, e61, e60, e59, e58, e57, e56, e54, e53, e52, e51, e50, e49, e48, e47, e46, e45, e44, e40, e39, e38, e37, e36, e35, e34, e33, e32, e31, e30, e29, e28, e27, e23, e22, e21, e20, e19, e17, e16, e15, e14, e13, e12, e9, e6, e5, e4, e1, cond_false, Bool.cond_self]
    try rfl
  rw [lk_ks (Ks := [0, 1, 12, 21, 28, 36, 37, 44, 52, 57, 64, 71]) (by decide +kernel) (by simp [h0, h1, h12, h21, h28, h36, h37, h44, h52, h57, h64, h71])]
  have b0 : Nat.beq k 0 = false := bq h0
  have b1 : Nat.beq k 1 = false := bq h1
  have b12 : Nat.beq k 12 = false := bq h12
  have b21 : Nat.beq k 21 = false := bq h21
  have b28 : Nat.beq k 28 = false := bq h28
  have b36 : Nat.beq k 36 = false := bq h36
  have b37 : Nat.beq k 37 = false := bq h37
  have b44 : Nat.beq k 44 = false := bq h44
  have b52 : Nat.beq k 52 = false := bq h52
  have b57 : Nat.beq k 57 = false := bq h57
  have b64 : Nat.beq k 64 = false := bq h64
  have b71 : Nat.beq k 71 = false := bq h71
  simp only [rf0, b0, b1, b12, b21, b28, b36, b37, b44, b52, b57, b64, b71, cond_false, Bool.cond_self]
theorem W_fin {σ : Sg} : Wc 123 T122 σ = Wd [] 53 60 2 σ := by
  unfold Wc
  rw [lk_fin]
  rfl

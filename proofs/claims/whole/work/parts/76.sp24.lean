-- a line's steps: 2 number, 3 name, 4 part word, 135 not; else a sign that takes two
def bino (k a b : Int) : Int := if k = 43 then w32 (a + b) else if k = 45 then w32 (a - b) else if k = 42 then w32 (a * b) else if k = 60 then b2i (a < b) else if k = 61 then b2i (a = b) else if k = 133 then b2i (a ≠ 0 ∧ b ≠ 0) else b2i (a ≠ 0 ∨ b ≠ 0)
def opOf (k : Int) : Int := if k = 2 then 1 else if k = 4 then 2 else if k = 3 then 3 else if k = 135 then 4 else if k = 42 then 5 else if k = 43 then 6 else if k = 45 then 7 else if k = 60 then 8 else if k = 61 then 9 else if k = 133 then 10 else 11
def isBin (k : Int) : Prop := k = 42 ∨ k = 43 ∨ k = 45 ∨ k = 60 ∨ k = 61 ∨ k = 133 ∨ k = 134
set_option maxRecDepth 20000 in
set_option maxHeartbeats 2000000 in
theorem sp_X8_together (d : Nat) (hd : 1 ≤ d) (w : pW) (k a b : Int) (hk : isBin k) : Ev d 244 [(0, k), (0, a), (0, b)] w (0, bino k a b) w := by
  obtain ⟨d, rfl⟩ : ∃ e, d = e + 1 := ⟨d - 1, by omega⟩
  refine evP (nL := 3) (code := k_X8_together) rfl ⟨Nat.le_refl _, Nat.le_refl _⟩ rfl (fun E hE => ?_)
  show pCm (Ev d) k_X8_together E 0 [(0, k), (0, a), (0, b)] [] _
  refine R_iload rfl rfl ?_
  refine R_lswL rfl ⟨fun h1 => ?_, fun h1 => ?_, fun h1 => ?_, fun h1 => ?_, fun h1 => ?_, fun h1 => ?_, trivial⟩ (fun h1 => ?_)
  · try dsimp only at h1
    refine R_iload rfl rfl ?_
    refine R_iload rfl rfl ?_
    refine R_bin rfl ?_
    refine R_iret rfl ?_
    exact hE _ (by
      congr 1
      unfold bino b2i
      unfold isBin at hk
      try simp only [lswN, ne_eq, and_true] at h1
      repeat' split
      all_goals first | rfl | omega | (exfalso; omega) | (exfalso; simp_all; done))
  · try dsimp only at h1
    refine R_iload rfl rfl ?_
    refine R_iload rfl rfl ?_
    refine R_bin rfl ?_
    refine R_iret rfl ?_
    exact hE _ (by
      congr 1
      unfold bino b2i
      unfold isBin at hk
      try simp only [lswN, ne_eq, and_true] at h1
      repeat' split
      all_goals first | rfl | omega | (exfalso; omega) | (exfalso; simp_all; done))
  · try dsimp only at h1
    refine R_iload rfl rfl ?_
    refine R_iload rfl rfl ?_
    refine R_bin rfl ?_
    refine R_iret rfl ?_
    exact hE _ (by
      congr 1
      unfold bino b2i
      unfold isBin at hk
      try simp only [lswN, ne_eq, and_true] at h1
      repeat' split
      all_goals first | rfl | omega | (exfalso; omega) | (exfalso; simp_all; done))
  · try dsimp only at h1
    refine R_iload rfl rfl ?_
    refine R_iload rfl rfl ?_
    refine R_ic rfl (fun h74 => ?_) (fun h74 => ?_)
    · try simp only [ne_eq, b2i_e, b2i_1, Classical.not_not] at h74
      refine R_push rfl ?_
      refine R_iret rfl ?_
      exact hE _ (by
        congr 1
        unfold bino b2i
        unfold isBin at hk
        try simp only [lswN, ne_eq, and_true] at h1
        repeat' split
        all_goals first | rfl | omega | (exfalso; omega) | (exfalso; simp_all; done))
    · try simp only [ne_eq, b2i_e, b2i_1, Classical.not_not] at h74
      refine R_push rfl ?_
      refine R_goto rfl ?_
      refine R_iret rfl ?_
      exact hE _ (by
        congr 1
        unfold bino b2i
        unfold isBin at hk
        try simp only [lswN, ne_eq, and_true] at h1
        repeat' split
        all_goals first | rfl | omega | (exfalso; omega) | (exfalso; simp_all; done))
  · try dsimp only at h1
    refine R_iload rfl rfl ?_
    refine R_iload rfl rfl ?_
    refine R_ic rfl (fun h85 => ?_) (fun h85 => ?_)
    · try simp only [ne_eq, b2i_e, b2i_1, Classical.not_not] at h85
      refine R_push rfl ?_
      refine R_iret rfl ?_
      exact hE _ (by
        congr 1
        unfold bino b2i
        unfold isBin at hk
        try simp only [lswN, ne_eq, and_true] at h1
        repeat' split
        all_goals first | rfl | omega | (exfalso; omega) | (exfalso; simp_all; done))
    · try simp only [ne_eq, b2i_e, b2i_1, Classical.not_not] at h85
      refine R_push rfl ?_
      refine R_goto rfl ?_
      refine R_iret rfl ?_
      exact hE _ (by
        congr 1
        unfold bino b2i
        unfold isBin at hk
        try simp only [lswN, ne_eq, and_true] at h1
        repeat' split
        all_goals first | rfl | omega | (exfalso; omega) | (exfalso; simp_all; done))
  · try dsimp only at h1
    refine R_iload rfl rfl ?_
    refine R_if rfl (fun h95 => ?_) (fun h95 => ?_)
    · try simp only [ne_eq, b2i_e, b2i_1, Classical.not_not] at h95
      refine R_push rfl ?_
      refine R_iret rfl ?_
      exact hE _ (by
        congr 1
        unfold bino b2i
        unfold isBin at hk
        try simp only [lswN, ne_eq, and_true] at h1
        repeat' split
        all_goals first | rfl | omega | (exfalso; omega) | (exfalso; simp_all; done))
    · try simp only [ne_eq, b2i_e, b2i_1, Classical.not_not] at h95
      refine R_iload rfl rfl ?_
      refine R_if rfl (fun h99 => ?_) (fun h99 => ?_)
      · try simp only [ne_eq, b2i_e, b2i_1, Classical.not_not] at h99
        refine R_push rfl ?_
        refine R_iret rfl ?_
        exact hE _ (by
          congr 1
          unfold bino b2i
          unfold isBin at hk
          try simp only [lswN, ne_eq, and_true] at h1
          repeat' split
          all_goals first | rfl | omega | (exfalso; omega) | (exfalso; simp_all; done))
      · try simp only [ne_eq, b2i_e, b2i_1, Classical.not_not] at h99
        refine R_push rfl ?_
        refine R_goto rfl ?_
        refine R_iret rfl ?_
        exact hE _ (by
          congr 1
          unfold bino b2i
          unfold isBin at hk
          try simp only [lswN, ne_eq, and_true] at h1
          repeat' split
          all_goals first | rfl | omega | (exfalso; omega) | (exfalso; simp_all; done))
  · try dsimp only at h1
    refine R_iload rfl rfl ?_
    refine R_if rfl (fun h109 => ?_) (fun h109 => ?_)
    · try simp only [ne_eq, b2i_e, b2i_1, Classical.not_not] at h109
      refine R_push rfl ?_
      refine R_goto rfl ?_
      refine R_iret rfl ?_
      exact hE _ (by
        congr 1
        unfold bino b2i
        unfold isBin at hk
        try simp only [lswN, ne_eq, and_true] at h1
        repeat' split
        all_goals first | rfl | omega | (exfalso; omega) | (exfalso; simp_all; done))
    · try simp only [ne_eq, b2i_e, b2i_1, Classical.not_not] at h109
      refine R_iload rfl rfl ?_
      refine R_if rfl (fun h113 => ?_) (fun h113 => ?_)
      · try simp only [ne_eq, b2i_e, b2i_1, Classical.not_not] at h113
        refine R_push rfl ?_
        refine R_iret rfl ?_
        exact hE _ (by
          congr 1
          unfold bino b2i
          unfold isBin at hk
          try simp only [lswN, ne_eq, and_true] at h1
          repeat' split
          all_goals first | rfl | omega | (exfalso; omega) | (exfalso; simp_all; done))
      · try simp only [ne_eq, b2i_e, b2i_1, Classical.not_not] at h113
        refine R_push rfl ?_
        refine R_goto rfl ?_
        refine R_iret rfl ?_
        exact hE _ (by
          congr 1
          unfold bino b2i
          unfold isBin at hk
          try simp only [lswN, ne_eq, and_true] at h1
          repeat' split
          all_goals first | rfl | omega | (exfalso; omega) | (exfalso; simp_all; done))
set_option maxRecDepth 20000 in
set_option maxHeartbeats 2000000 in
theorem sp_X10_both (d : Nat) (hd : 1 ≤ d) (w : pW) (k a b : Int) (hk : isBin k) : Ev d 61 [(0, opOf k), (0, a), (0, b)] w (0, bino k a b) w := by
  obtain ⟨d, rfl⟩ : ∃ e, d = e + 1 := ⟨d - 1, by omega⟩
  refine evP (nL := 3) (code := k_X10_both) rfl ⟨Nat.le_refl _, Nat.le_refl _⟩ rfl (fun E hE => ?_)
  show pCm (Ev d) k_X10_both E 0 [(0, opOf k), (0, a), (0, b)] [] _
  refine R_iload rfl rfl ?_
  refine R_tswL rfl ⟨fun h1 => ?_, fun h1 => ?_, fun h1 => ?_, fun h1 => ?_, fun h1 => ?_, fun h1 => ?_, trivial⟩ (fun h1 => ?_)
  · try dsimp only at h1
    refine R_iload rfl rfl ?_
    refine R_iload rfl rfl ?_
    refine R_bin rfl ?_
    refine R_iret rfl ?_
    exact hE _ (by
      congr 1
      unfold isBin at hk
      unfold opOf at h1
      unfold bino b2i
      repeat' split
      all_goals first | rfl | omega | (exfalso; omega) | (exfalso; simp_all; done))
  · try dsimp only at h1
    refine R_iload rfl rfl ?_
    refine R_iload rfl rfl ?_
    refine R_bin rfl ?_
    refine R_iret rfl ?_
    exact hE _ (by
      congr 1
      unfold isBin at hk
      unfold opOf at h1
      unfold bino b2i
      repeat' split
      all_goals first | rfl | omega | (exfalso; omega) | (exfalso; simp_all; done))
  · try dsimp only at h1
    refine R_iload rfl rfl ?_
    refine R_iload rfl rfl ?_
    refine R_bin rfl ?_
    refine R_iret rfl ?_
    exact hE _ (by
      congr 1
      unfold isBin at hk
      unfold opOf at h1
      unfold bino b2i
      repeat' split
      all_goals first | rfl | omega | (exfalso; omega) | (exfalso; simp_all; done))
  · try dsimp only at h1
    refine R_iload rfl rfl ?_
    refine R_iload rfl rfl ?_
    refine R_ic rfl (fun h54 => ?_) (fun h54 => ?_)
    · try simp only [ne_eq, b2i_e, b2i_1, Classical.not_not] at h54
      refine R_push rfl ?_
      refine R_iret rfl ?_
      exact hE _ (by
        congr 1
        unfold isBin at hk
        unfold opOf at h1
        unfold bino b2i
        repeat' split
        all_goals first | rfl | omega | (exfalso; omega) | (exfalso; simp_all; done))
    · try simp only [ne_eq, b2i_e, b2i_1, Classical.not_not] at h54
      refine R_push rfl ?_
      refine R_goto rfl ?_
      refine R_iret rfl ?_
      exact hE _ (by
        congr 1
        unfold isBin at hk
        unfold opOf at h1
        unfold bino b2i
        repeat' split
        all_goals first | rfl | omega | (exfalso; omega) | (exfalso; simp_all; done))
  · try dsimp only at h1
    refine R_iload rfl rfl ?_
    refine R_iload rfl rfl ?_
    refine R_ic rfl (fun h65 => ?_) (fun h65 => ?_)
    · try simp only [ne_eq, b2i_e, b2i_1, Classical.not_not] at h65
      refine R_push rfl ?_
      refine R_iret rfl ?_
      exact hE _ (by
        congr 1
        unfold isBin at hk
        unfold opOf at h1
        unfold bino b2i
        repeat' split
        all_goals first | rfl | omega | (exfalso; omega) | (exfalso; simp_all; done))
    · try simp only [ne_eq, b2i_e, b2i_1, Classical.not_not] at h65
      refine R_push rfl ?_
      refine R_goto rfl ?_
      refine R_iret rfl ?_
      exact hE _ (by
        congr 1
        unfold isBin at hk
        unfold opOf at h1
        unfold bino b2i
        repeat' split
        all_goals first | rfl | omega | (exfalso; omega) | (exfalso; simp_all; done))
  · try dsimp only at h1
    refine R_iload rfl rfl ?_
    refine R_if rfl (fun h75 => ?_) (fun h75 => ?_)
    · try simp only [ne_eq, b2i_e, b2i_1, Classical.not_not] at h75
      refine R_push rfl ?_
      refine R_iret rfl ?_
      exact hE _ (by
        congr 1
        unfold isBin at hk
        unfold opOf at h1
        unfold bino b2i
        repeat' split
        all_goals first | rfl | omega | (exfalso; omega) | (exfalso; simp_all; done))
    · try simp only [ne_eq, b2i_e, b2i_1, Classical.not_not] at h75
      refine R_iload rfl rfl ?_
      refine R_if rfl (fun h79 => ?_) (fun h79 => ?_)
      · try simp only [ne_eq, b2i_e, b2i_1, Classical.not_not] at h79
        refine R_push rfl ?_
        refine R_iret rfl ?_
        exact hE _ (by
          congr 1
          unfold isBin at hk
          unfold opOf at h1
          unfold bino b2i
          repeat' split
          all_goals first | rfl | omega | (exfalso; omega) | (exfalso; simp_all; done))
      · try simp only [ne_eq, b2i_e, b2i_1, Classical.not_not] at h79
        refine R_push rfl ?_
        refine R_goto rfl ?_
        refine R_iret rfl ?_
        exact hE _ (by
          congr 1
          unfold isBin at hk
          unfold opOf at h1
          unfold bino b2i
          repeat' split
          all_goals first | rfl | omega | (exfalso; omega) | (exfalso; simp_all; done))
  · try dsimp only at h1
    refine R_iload rfl rfl ?_
    refine R_if rfl (fun h89 => ?_) (fun h89 => ?_)
    · try simp only [ne_eq, b2i_e, b2i_1, Classical.not_not] at h89
      refine R_push rfl ?_
      refine R_goto rfl ?_
      refine R_iret rfl ?_
      exact hE _ (by
        congr 1
        unfold isBin at hk
        unfold opOf at h1
        unfold bino b2i
        repeat' split
        all_goals first | rfl | omega | (exfalso; omega) | (exfalso; simp_all; done))
    · try simp only [ne_eq, b2i_e, b2i_1, Classical.not_not] at h89
      refine R_iload rfl rfl ?_
      refine R_if rfl (fun h93 => ?_) (fun h93 => ?_)
      · try simp only [ne_eq, b2i_e, b2i_1, Classical.not_not] at h93
        refine R_push rfl ?_
        refine R_iret rfl ?_
        exact hE _ (by
          congr 1
          unfold isBin at hk
          unfold opOf at h1
          unfold bino b2i
          repeat' split
          all_goals first | rfl | omega | (exfalso; omega) | (exfalso; simp_all; done))
      · try simp only [ne_eq, b2i_e, b2i_1, Classical.not_not] at h93
        refine R_push rfl ?_
        refine R_goto rfl ?_
        refine R_iret rfl ?_
        exact hE _ (by
          congr 1
          unfold isBin at hk
          unfold opOf at h1
          unfold bino b2i
          repeat' split
          all_goals first | rfl | omega | (exfalso; omega) | (exfalso; simp_all; done))

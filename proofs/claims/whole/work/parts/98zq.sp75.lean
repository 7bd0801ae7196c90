theorem tsg_f {tk pl : Int → Int} {ch : Int} {s : PSt} (h : (tsg tk pl ch s).2.1 = 0) : s.2.1 = 0 := by
  unfold tsg at h
  by_cases q : s.2.1 ≠ 0
  · rw [if_pos q] at h; exact h
  · omega
theorem PK_f {F : PSt → PSt} {m : Int} {s : PSt} (hk : PK F m) (h : (F s).2.1 = 0) : s.2.1 = 0 := by
  by_cases q : s.2.1 = 0
  · exact q
  · rw [(hk s).1 q] at h; exact h
theorem tsg_l {tk pl : Int → Int} {ch : Int} {s : PSt} : (tsg tk pl ch s).2.2 = s.2.2 := by
  unfold tsg; split
  · rfl
  · split <;> rfl
theorem tnn_l {tk tw pl : Int → Int} {M : Int} {s : PSt} : (tnn tk tw pl M s).2.2 = s.2.2 := by
  unfold tnn; repeat' split
  all_goals rfl
theorem tnm_l {tk tw pl : Int → Int} {a b : Int} {s : PSt} : (tnm tk tw pl a b s).2.2 = s.2.2 := by
  unfold tnm; repeat' split
  all_goals rfl
theorem hdS_l {tk tw pl : Int → Int} {M k : Int} {s : PSt} : (hdS tk tw pl M k s).2.2 = s.2.2 := by
  unfold hdS
  split
  · rw [tsg_l, tnn_l]
  · rw [tsg_l]
    split
    · exact tnm_l
    · split
      · exact tnm_l
      · rfl
/-- what line leaves, when a line begins -/
def LnP (s s' : Sg) (m : Int) : Prop := ∃ (σ5 s10 : Sg) (tl cX w : Int), Fr [78, 79] [] s σ5 ∧ (∀ x, σ5 78 x = if x = (24 * s 71 11 + s 77 (s 71 11)) then tkM s (s 71 7) - 128 else s 78 x) ∧ (∀ x, σ5 79 x = if x = (24 * s 71 11 + s 77 (s 71 11)) then w else s 79 x) ∧ LNE s10 (up2 σ5 80 (24 * s 71 11 + s 77 (s 71 11)) (1100 * s 71 11 + cX)) m (s 71 18) (tsg (tkM s) (s 74) 59 (ch0 (tkM s) (prt (tkM s) (twM s) (s 74) 5) (hdS (tkM s) (twM s) (s 74) (s 81 (s 71 11)) (tkM s (s 71 7) - 128) ((s 71 7 + 1, 0, 0, fun _ => 0, fun _ => 0) : PSt)))) ∧ ((tsg (tkM s) (s 74) 59 (ch0 (tkM s) (prt (tkM s) (twM s) (s 74) 5) (hdS (tkM s) (twM s) (s 74) (s 81 (s 71 11)) (tkM s (s 71 7) - 128) ((s 71 7 + 1, 0, 0, fun _ => 0, fun _ => 0) : PSt)))).2.1 = 0 → cX = s 71 18 ∧ (tkM s (s 71 7) = 130 ∨ tkM s (s 71 7) = 131 → w = twM s (s 71 7 + 1)) ∧ (tkM s (s 71 7) = 129 → w = 0) ∧ (tkM s (s 71 7) = 128 → tl = s 75 (s 71 7 + 1) ∧ s 81 (s 71 11) < 8)) ∧ s' = (if (tsg (tkM s) (s 74) 59 (ch0 (tkM s) (prt (tkM s) (twM s) (s 74) 5) (hdS (tkM s) (twM s) (s 74) (s 81 (s 71 11)) (tkM s (s 71 7) - 128) ((s 71 7 + 1, 0, 0, fun _ => 0, fun _ => 0) : PSt)))).2.1 = 0 then up2 (if tkM s (s 71 7) = 128 then up2 (up2 (up2 s10 79 (24 * s 71 11 + s 77 (s 71 11)) (s 81 (s 71 11))) 82 (8 * s 71 11 + s 81 (s 71 11)) tl) 81 (s 71 11) (s 81 (s 71 11) + 1) else s10) 77 (s 71 11) (s 77 (s 71 11) + 1) else up2 s10 77 (s 71 11) (s 77 (s 71 11) + 0))
-- line

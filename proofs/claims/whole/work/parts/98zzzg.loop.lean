/-! THE LAW: its loop. Written by tools/law.py. -/
section LO
variable {p : Program} {l : Launch} {e : Env} {s : State} {m : MethodId} {b N : Nat} {xs : Nat → Int32} {below : List Frame} {meth : Method} {c : Code} {g : pg} {k0 : Nat × Nat} {i : Int} {u v : pV} {S : List pV} {w : pW} {pc d : Nat}
set_option maxRecDepth 100000 in
theorem law_end (C : lwC p l s m b N xs meth c g) (hk : k0.1 ≤ 600 ∧ k0.2 ≤ 3600) {L : List pV} (hw : w.1.length ≤ 123 ∧ nS w ≤ 32614) : pL p l e s m b below meth c g k0 1468 L [] w := by
  have e1 : lz_E.1.length = 123 := rfl
  have e3 : nS lz_E = 32614 := by decide +kernel
  refine ⟨by rw [e1, e3]; exact hw, fun ad H locs ls hi => ?_⟩
  obtain ⟨i1, i2, i3, i4, i5, i6, i7, i8, i9, i10⟩ := hi
  refine lv_iconst (v := 1) C.1.1 C.1.2.1 (show decode cL_law 1468 = .ok (.iconst 1, 1) by decide +kernel) (by decide) ?_
  refine va_forget (fun q hq => i10.2.2 q hq) ?_
  refine W.widen (k := 601024) (n := 7293034) (by show w.1.length - 0 + k0.1 ≤ 601024; omega) (by show nS w - 0 + k0.2 ≤ 7293034; omega) ?_
  exact lw_ret C.1.1 C.1.2.1 C.2.2.2.2.2.2.1 C.2.2.2.2.2.2.2 (show decode cL_law 1469 = .ok (.ireturn, 1) by decide +kernel)
theorem Wd_b {t dd rr : Nat} {σ : Sg} : (Wd [] t dd rr σ).1.length ≤ 123 ∧ nS (Wd [] t dd rr σ) ≤ 32614 := ⟨Nat.le_refl _, by
  have e : nS (Wd [] t dd rr σ) = nS lz_E := rfl
  rw [e]; decide +kernel⟩
set_option maxRecDepth 100000 in
set_option maxHeartbeats 4000000 in
theorem law_loop (C : lwC p l s m b N xs meth c g) (hd : 60 ≤ d ∧ d ≤ 1000) : ∀ (n : Nat) (i : Int) (k0 : Nat × Nat) (t dd rr : Nat) (σ : Sg) (P J : Int) (u v : pV), 0 ≤ i → i ≤ N → (N : Int) + 7 ≤ i + 7 * n → 7 * (k0.1 : Int) ≤ i → 7 * (k0.2 : Int) ≤ 6 * i → RR σ t dd P J → pL p l e s m b below meth c g k0 23 [(3, 0), (16, 0), (87, 0), (138, 0), (0, i), u, v] [] (Wd [] t dd rr σ) := by
  have hN := C.2.2.2.2.1
  intro n
  induction n with
  | zero => intro i k0 t dd rr σ P J u v h0 h1 h2; exact absurd h2 (by omega)
  | succ n ih =>
    intro i k0 t dd rr σ P J u v h0 h1 h2 h3 h4 hR
    have hk : k0.1 ≤ 599 ∧ k0.2 ≤ 3594 := by omega
    refine s_iload (Φ := Ev 0) (E := fun _ _ => False) C.1 (show decode cL_law 23 = .ok (.iload 4, 2) by decide +kernel) ⟨i, rfl, ?_⟩
    refine s_aload_n (Φ := Ev 0) (E := fun _ _ => False) C.1 (show decode cL_law 25 = .ok (.aload_n 0, 1) by decide +kernel) rfl ⟨3, 0, rfl, by decide, by decide, ?_⟩
    refine s_xlen C.1 C.2.1 C.2.2.1 (Nat.not_le.mpr C.2.2.1) C.2.2.2.1 hN (show decode cL_law 26 = .ok (.arraylength, 1) by decide +kernel) ?_
    refine s_bipush (Φ := Ev 0) (E := fun _ _ => False) C.1 (show decode cL_law 27 = .ok (.bipush 7, 2) by decide +kernel) (by unfold r32; omega) (by decide +kernel) ?_
    refine s_isub (Φ := Ev 0) (E := fun _ _ => False) C.1 (show decode cL_law 29 = .ok (.isub, 1) by decide +kernel) ⟨(N : Int), 7, _, rfl, ?_⟩
    have hw : w32 ((N : Int) - 7) = (N : Int) - 7 := w32_id (by unfold r32; omega)
    show pL p l e s m b below meth c g k0 30 [(3, 0), (16, 0), (87, 0), (138, 0), (0, i), u, v] [(0, w32 ((N : Int) - 7)), (0, i)] (Wd [] t dd rr σ)
    rw [hw]
    refine s_ic_gt (Φ := Ev 0) (E := fun _ _ => False) (tg := 1468) C.1 (show decode cL_law 30 = .ok (.if_icmp .gt 1438, 3) by decide +kernel) rfl ⟨i, (N : Int) - 7, [], rfl, fun _ => law_end C (hkk hk) Wd_b, fun z => ?_⟩
    have hi : 0 ≤ i ∧ i + 7 ≤ N := ⟨h0, by omega⟩
    have K : lwK p l e s m b below meth c g i k0 := by
      intro t dd rr σ P J k1 u v hR hk1
      refine s_iinc (Φ := Ev 0) (E := fun _ _ => False) C.1 (show decode cL_law 1462 = .ok (.iinc 4 7, 3) by decide +kernel) ⟨i, rfl, ?_⟩
      have hw : w32 (i + 7) = i + 7 := w32_id (by unfold r32; omega)
      show pL p l e s m b below meth c g k1 1465 [(3, 0), (16, 0), (87, 0), (138, 0), (0, w32 (i + 7)), u, v] [] (Wd [] t dd rr σ)
      rw [hw]
      exact s_goto (Φ := Ev 0) (E := fun _ _ => False) (tg := 23) C.1 (show decode cL_law 1465 = .ok (.goto (-1442), 3) by decide +kernel) rfl (ih (i + 7) k1 t dd rr σ P J u v (by omega) (by omega) (by omega) (by omega) (by omega) hR)
    refine s_aload_n (Φ := Ev 0) (E := fun _ _ => False) C.1 (show decode cL_law 33 = .ok (.aload_n 0, 1) by decide +kernel) rfl ⟨3, 0, rfl, by decide, by decide, ?_⟩
    refine s_iload (Φ := Ev 0) (E := fun _ _ => False) C.1 (show decode cL_law 34 = .ok (.iload 4, 2) by decide +kernel) ⟨i, rfl, ?_⟩
    refine s_xld C.1 C.2.1 C.2.2.1 (Nat.not_le.mpr C.2.2.1) C.2.2.2.1 hN (show decode cL_law 36 = .ok (.iaload, 1) by decide +kernel) (by omega) ?_
    refine s_bipush (Φ := Ev 0) (E := fun _ _ => False) C.1 (show decode cL_law 37 = .ok (.bipush 31, 2) by decide +kernel) (by unfold r32; omega) (by decide +kernel) ?_
    refine s_iand (Φ := Ev 0) (E := fun _ _ => False) C.1 (show decode cL_law 39 = .ok (.iand, 1) by decide +kernel) ⟨_, _, _, rfl, ?_⟩
    exact s_tsw (Φ := Ev 0) (E := fun _ _ => False) (tb := [152, 177, 250, 353, 446, 593, 606, 631, 711, 748, 785, 810, 878, 946, 1014, 1051, 1100, 1168, 1205, 1285, 1334, 1359, 1396, 1437]) (df := 1462) C.1 (show decode cL_law 40 = .ok (.tableswitch 1422 0 23 #[112, 137, 210, 313, 406, 553, 566, 591, 671, 708, 745, 770, 838, 906, 974, 1011, 1060, 1128, 1165, 1245, 1294, 1319, 1356, 1397], 112) by decide +kernel) rfl rfl rfl ⟨_, [], rfl, fun j tg h _ => lc_all C hd hk hi hR K tg (List.mem_of_getElem? h), fun _ => K t dd rr σ P J k0 u v hR ⟨by omega, by omega⟩⟩
end LO

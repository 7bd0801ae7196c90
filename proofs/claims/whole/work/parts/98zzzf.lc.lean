/-! THE LAW: its 24 cases. Written by tools/law.py. -/
section LC
variable {p : Program} {l : Launch} {e : Env} {s : State} {m : MethodId} {b N : Nat} {xs : Nat → Int32} {below : List Frame} {meth : Method} {c : Code} {g : pg} {k0 : Nat × Nat} {i : Int} {u v : pV} {S : List pV} {w : pW} {pc d : Nat}
theorem hkk (hk : k0.1 ≤ 599 ∧ k0.2 ≤ 3594) : k0.1 ≤ 600 ∧ k0.2 ≤ 3600 := ⟨by omega, by omega⟩
theorem hk1 (hk : k0.1 ≤ 599 ∧ k0.2 ≤ 3594) : ((k0.1 + 1, k0.2 + 6) : Nat × Nat).1 ≤ 600 ∧ ((k0.1 + 1, k0.2 + 6) : Nat × Nat).2 ≤ 3600 := ⟨by show k0.1 + 1 ≤ 600; omega, by show k0.2 + 6 ≤ 3600; omega⟩
set_option maxRecDepth 100000 in
set_option maxHeartbeats 4000000 in
theorem lc_0 (C : lwC p l s m b N xs meth c g) (hd : 60 ≤ d ∧ d ≤ 1000) (hk : k0.1 ≤ 599 ∧ k0.2 ≤ 3594) (hi : 0 ≤ i ∧ i + 7 ≤ N) {t dd rr : Nat} {σ : Sg} {P J : Int} (hR : RR σ t dd P J) (K : lwK p l e s m b below meth c g i k0) : pL p l e s m b below meth c g k0 152 [(3, 0), (16, 0), (87, 0), (138, 0), (0, i), u, v] [] (Wd [] t dd rr σ) := by
  obtain ⟨r, σ1, σ2, h1, h2, P2, J2, hR2⟩ := rc_days (d + 1) (by omega) [] t dd rr σ P J (xv xs (i + 1)) (r32_of _) hR
  refine s_aload_n (Φ := Ev 0) (E := fun _ _ => False) C.1 (show decode cL_law 152 = .ok (.aload_n 1, 1) by decide +kernel) rfl ⟨16, 0, rfl, by decide, by decide, ?_⟩
  refine ml_x C hi (j := 1) (by omega) (show decode cL_law 153 = .ok (.aload_n 0, 1) ∧ decode cL_law (153 + 1) = .ok (.iload 4, 2) ∧ decode cL_law (153 + 3) = .ok (.iconst 1, 1) ∧ decode cL_law (153 + 4) = .ok (.iadd, 1) ∧ decode cL_law (153 + 5) = .ok (.iaload, 1) by decide +kernel) ?_
  refine lk_X9_days C (hkk hk) hd.2 (show decode cL_law 159 = .ok (.invokevirtual 35, 3) by decide +kernel) (by simp [cat]) rfl h1 ?_
  refine s_aload_n (Φ := Ev 0) (E := fun _ _ => False) C.1 (show decode cL_law 162 = .ok (.aload_n 2, 1) by decide +kernel) rfl ⟨87, 0, rfl, by decide, by decide, ?_⟩
  refine ml_x C hi (j := 1) (by omega) (show decode cL_law 163 = .ok (.aload_n 0, 1) ∧ decode cL_law (163 + 1) = .ok (.iload 4, 2) ∧ decode cL_law (163 + 3) = .ok (.iconst 1, 1) ∧ decode cL_law (163 + 4) = .ok (.iadd, 1) ∧ decode cL_law (163 + 5) = .ok (.iaload, 1) by decide +kernel) ?_
  refine lk_X10_days C (hkk hk) hd.2 (show decode cL_law 169 = .ok (.invokevirtual 39, 3) by decide +kernel) (by simp [cat]) rfl h2 ?_
  exact s_ic_eq (Φ := Ev 0) (E := fun _ _ => False) (tg := 1462) C.1 (show decode cL_law 172 = .ok (.if_icmp .eq 1290, 3) by decide +kernel) rfl ⟨_, _, [], rfl, fun _ => K _ _ _ _ _ _ k0 _ _ hR2 ⟨by omega, by omega⟩, fun z => absurd rfl z⟩
set_option maxRecDepth 100000 in
set_option maxHeartbeats 4000000 in
theorem lc_1 (C : lwC p l s m b N xs meth c g) (hd : 60 ≤ d ∧ d ≤ 1000) (hk : k0.1 ≤ 599 ∧ k0.2 ≤ 3594) (hi : 0 ≤ i ∧ i + 7 ≤ N) {t dd rr : Nat} {σ : Sg} {P J : Int} (hR : RR σ t dd P J) (K : lwK p l e s m b below meth c g i k0) : pL p l e s m b below meth c g k0 177 [(3, 0), (16, 0), (87, 0), (138, 0), (0, i), u, v] [] (Wd [] t dd rr σ) := by
  obtain ⟨r, σ1, σ2, h1, h2, P2, J2, hR2⟩ := rc_piece (d + 1) (by omega) [] t dd rr σ P J (xv xs (i + 1)) (xv xs (i + 2)) (xv xs (i + 3)) (xv xs (i + 4)) (xv xs (i + 5)) hR
  refine s_aload_n (Φ := Ev 0) (E := fun _ _ => False) C.1 (show decode cL_law 177 = .ok (.aload_n 1, 1) by decide +kernel) rfl ⟨16, 0, rfl, by decide, by decide, ?_⟩
  refine ml_x C hi (j := 1) (by omega) (show decode cL_law 178 = .ok (.aload_n 0, 1) ∧ decode cL_law (178 + 1) = .ok (.iload 4, 2) ∧ decode cL_law (178 + 3) = .ok (.iconst 1, 1) ∧ decode cL_law (178 + 4) = .ok (.iadd, 1) ∧ decode cL_law (178 + 5) = .ok (.iaload, 1) by decide +kernel) ?_
  refine ml_x C hi (j := 2) (by omega) (show decode cL_law 184 = .ok (.aload_n 0, 1) ∧ decode cL_law (184 + 1) = .ok (.iload 4, 2) ∧ decode cL_law (184 + 3) = .ok (.iconst 2, 1) ∧ decode cL_law (184 + 4) = .ok (.iadd, 1) ∧ decode cL_law (184 + 5) = .ok (.iaload, 1) by decide +kernel) ?_
  refine ml_x C hi (j := 3) (by omega) (show decode cL_law 190 = .ok (.aload_n 0, 1) ∧ decode cL_law (190 + 1) = .ok (.iload 4, 2) ∧ decode cL_law (190 + 3) = .ok (.iconst 3, 1) ∧ decode cL_law (190 + 4) = .ok (.iadd, 1) ∧ decode cL_law (190 + 5) = .ok (.iaload, 1) by decide +kernel) ?_
  refine ml_x C hi (j := 4) (by omega) (show decode cL_law 196 = .ok (.aload_n 0, 1) ∧ decode cL_law (196 + 1) = .ok (.iload 4, 2) ∧ decode cL_law (196 + 3) = .ok (.iconst 4, 1) ∧ decode cL_law (196 + 4) = .ok (.iadd, 1) ∧ decode cL_law (196 + 5) = .ok (.iaload, 1) by decide +kernel) ?_
  refine ml_x C hi (j := 5) (by omega) (show decode cL_law 202 = .ok (.aload_n 0, 1) ∧ decode cL_law (202 + 1) = .ok (.iload 4, 2) ∧ decode cL_law (202 + 3) = .ok (.iconst 5, 1) ∧ decode cL_law (202 + 4) = .ok (.iadd, 1) ∧ decode cL_law (202 + 5) = .ok (.iaload, 1) by decide +kernel) ?_
  refine lk_X9_piece C (hkk hk) hd.2 (show decode cL_law 208 = .ok (.invokevirtual 40, 3) by decide +kernel) (by simp [cat]) rfl h1 ?_
  refine s_aload_n (Φ := Ev 0) (E := fun _ _ => False) C.1 (show decode cL_law 211 = .ok (.aload_n 2, 1) by decide +kernel) rfl ⟨87, 0, rfl, by decide, by decide, ?_⟩
  refine ml_x C hi (j := 1) (by omega) (show decode cL_law 212 = .ok (.aload_n 0, 1) ∧ decode cL_law (212 + 1) = .ok (.iload 4, 2) ∧ decode cL_law (212 + 3) = .ok (.iconst 1, 1) ∧ decode cL_law (212 + 4) = .ok (.iadd, 1) ∧ decode cL_law (212 + 5) = .ok (.iaload, 1) by decide +kernel) ?_
  refine ml_x C hi (j := 2) (by omega) (show decode cL_law 218 = .ok (.aload_n 0, 1) ∧ decode cL_law (218 + 1) = .ok (.iload 4, 2) ∧ decode cL_law (218 + 3) = .ok (.iconst 2, 1) ∧ decode cL_law (218 + 4) = .ok (.iadd, 1) ∧ decode cL_law (218 + 5) = .ok (.iaload, 1) by decide +kernel) ?_
  refine ml_x C hi (j := 3) (by omega) (show decode cL_law 224 = .ok (.aload_n 0, 1) ∧ decode cL_law (224 + 1) = .ok (.iload 4, 2) ∧ decode cL_law (224 + 3) = .ok (.iconst 3, 1) ∧ decode cL_law (224 + 4) = .ok (.iadd, 1) ∧ decode cL_law (224 + 5) = .ok (.iaload, 1) by decide +kernel) ?_
  refine ml_x C hi (j := 4) (by omega) (show decode cL_law 230 = .ok (.aload_n 0, 1) ∧ decode cL_law (230 + 1) = .ok (.iload 4, 2) ∧ decode cL_law (230 + 3) = .ok (.iconst 4, 1) ∧ decode cL_law (230 + 4) = .ok (.iadd, 1) ∧ decode cL_law (230 + 5) = .ok (.iaload, 1) by decide +kernel) ?_
  refine ml_x C hi (j := 5) (by omega) (show decode cL_law 236 = .ok (.aload_n 0, 1) ∧ decode cL_law (236 + 1) = .ok (.iload 4, 2) ∧ decode cL_law (236 + 3) = .ok (.iconst 5, 1) ∧ decode cL_law (236 + 4) = .ok (.iadd, 1) ∧ decode cL_law (236 + 5) = .ok (.iaload, 1) by decide +kernel) ?_
  refine lk_X10_piece C (hkk hk) hd.2 (show decode cL_law 242 = .ok (.invokevirtual 44, 3) by decide +kernel) (by simp [cat]) rfl h2 ?_
  exact s_ic_eq (Φ := Ev 0) (E := fun _ _ => False) (tg := 1462) C.1 (show decode cL_law 245 = .ok (.if_icmp .eq 1217, 3) by decide +kernel) rfl ⟨_, _, [], rfl, fun _ => K _ _ _ _ _ _ k0 _ _ hR2 ⟨by omega, by omega⟩, fun z => absurd rfl z⟩
set_option maxRecDepth 100000 in
set_option maxHeartbeats 4000000 in
theorem lc_2 (C : lwC p l s m b N xs meth c g) (hd : 60 ≤ d ∧ d ≤ 1000) (hk : k0.1 ≤ 599 ∧ k0.2 ≤ 3594) (hi : 0 ≤ i ∧ i + 7 ≤ N) {t dd rr : Nat} {σ : Sg} {P J : Int} (hR : RR σ t dd P J) (K : lwK p l e s m b below meth c g i k0) : pL p l e s m b below meth c g k0 250 [(3, 0), (16, 0), (87, 0), (138, 0), (0, i), u, v] [] (Wd [] t dd rr σ) := by
  obtain ⟨r, σ1, σ2, h1, h2, P2, J2, hR2⟩ := rc_marks (d + 1) (by omega) [] t dd rr σ P J (xv xs (i + 1)) (xv xs (i + 2)) (xv xs (i + 3)) (xv xs (i + 4)) (bz (xv xs (i + 5))) (xv xs (i + 6)) (bz_01 _) hR
  refine s_aload_n (Φ := Ev 0) (E := fun _ _ => False) C.1 (show decode cL_law 250 = .ok (.aload_n 1, 1) by decide +kernel) rfl ⟨16, 0, rfl, by decide, by decide, ?_⟩
  refine ml_x C hi (j := 1) (by omega) (show decode cL_law 251 = .ok (.aload_n 0, 1) ∧ decode cL_law (251 + 1) = .ok (.iload 4, 2) ∧ decode cL_law (251 + 3) = .ok (.iconst 1, 1) ∧ decode cL_law (251 + 4) = .ok (.iadd, 1) ∧ decode cL_law (251 + 5) = .ok (.iaload, 1) by decide +kernel) ?_
  refine ml_x C hi (j := 2) (by omega) (show decode cL_law 257 = .ok (.aload_n 0, 1) ∧ decode cL_law (257 + 1) = .ok (.iload 4, 2) ∧ decode cL_law (257 + 3) = .ok (.iconst 2, 1) ∧ decode cL_law (257 + 4) = .ok (.iadd, 1) ∧ decode cL_law (257 + 5) = .ok (.iaload, 1) by decide +kernel) ?_
  refine ml_x C hi (j := 3) (by omega) (show decode cL_law 263 = .ok (.aload_n 0, 1) ∧ decode cL_law (263 + 1) = .ok (.iload 4, 2) ∧ decode cL_law (263 + 3) = .ok (.iconst 3, 1) ∧ decode cL_law (263 + 4) = .ok (.iadd, 1) ∧ decode cL_law (263 + 5) = .ok (.iaload, 1) by decide +kernel) ?_
  refine ml_x C hi (j := 4) (by omega) (show decode cL_law 269 = .ok (.aload_n 0, 1) ∧ decode cL_law (269 + 1) = .ok (.iload 4, 2) ∧ decode cL_law (269 + 3) = .ok (.iconst 4, 1) ∧ decode cL_law (269 + 4) = .ok (.iadd, 1) ∧ decode cL_law (269 + 5) = .ok (.iaload, 1) by decide +kernel) ?_
  refine ml_x C hi (j := 5) (by omega) (show decode cL_law 275 = .ok (.aload_n 0, 1) ∧ decode cL_law (275 + 1) = .ok (.iload 4, 2) ∧ decode cL_law (275 + 3) = .ok (.iconst 5, 1) ∧ decode cL_law (275 + 4) = .ok (.iadd, 1) ∧ decode cL_law (275 + 5) = .ok (.iaload, 1) by decide +kernel) ?_
  refine ml_z C (show decode cL_law 281 = .ok (.ifCond .eq 7, 3) ∧ decode cL_law (281 + 3) = .ok (.iconst 1, 1) ∧ decode cL_law (281 + 4) = .ok (.goto 4, 3) ∧ decode cL_law (281 + 7) = .ok (.iconst 0, 1) by decide +kernel) ?_
  refine ml_b C hi (j := 6) (by omega) (by decide +kernel) (show decode cL_law 289 = .ok (.aload_n 0, 1) ∧ decode cL_law (289 + 1) = .ok (.iload 4, 2) ∧ decode cL_law (289 + 3) = .ok (.bipush 6, 2) ∧ decode cL_law (289 + 5) = .ok (.iadd, 1) ∧ decode cL_law (289 + 6) = .ok (.iaload, 1) by decide +kernel) ?_
  refine lk_X9_marks C (hkk hk) hd.2 (show decode cL_law 296 = .ok (.invokevirtual 45, 3) by decide +kernel) (by simp [cat]) rfl h1 ?_
  refine s_aload_n (Φ := Ev 0) (E := fun _ _ => False) C.1 (show decode cL_law 299 = .ok (.aload_n 2, 1) by decide +kernel) rfl ⟨87, 0, rfl, by decide, by decide, ?_⟩
  refine ml_x C hi (j := 1) (by omega) (show decode cL_law 300 = .ok (.aload_n 0, 1) ∧ decode cL_law (300 + 1) = .ok (.iload 4, 2) ∧ decode cL_law (300 + 3) = .ok (.iconst 1, 1) ∧ decode cL_law (300 + 4) = .ok (.iadd, 1) ∧ decode cL_law (300 + 5) = .ok (.iaload, 1) by decide +kernel) ?_
  refine ml_x C hi (j := 2) (by omega) (show decode cL_law 306 = .ok (.aload_n 0, 1) ∧ decode cL_law (306 + 1) = .ok (.iload 4, 2) ∧ decode cL_law (306 + 3) = .ok (.iconst 2, 1) ∧ decode cL_law (306 + 4) = .ok (.iadd, 1) ∧ decode cL_law (306 + 5) = .ok (.iaload, 1) by decide +kernel) ?_
  refine ml_x C hi (j := 3) (by omega) (show decode cL_law 312 = .ok (.aload_n 0, 1) ∧ decode cL_law (312 + 1) = .ok (.iload 4, 2) ∧ decode cL_law (312 + 3) = .ok (.iconst 3, 1) ∧ decode cL_law (312 + 4) = .ok (.iadd, 1) ∧ decode cL_law (312 + 5) = .ok (.iaload, 1) by decide +kernel) ?_
  refine ml_x C hi (j := 4) (by omega) (show decode cL_law 318 = .ok (.aload_n 0, 1) ∧ decode cL_law (318 + 1) = .ok (.iload 4, 2) ∧ decode cL_law (318 + 3) = .ok (.iconst 4, 1) ∧ decode cL_law (318 + 4) = .ok (.iadd, 1) ∧ decode cL_law (318 + 5) = .ok (.iaload, 1) by decide +kernel) ?_
  refine ml_x C hi (j := 5) (by omega) (show decode cL_law 324 = .ok (.aload_n 0, 1) ∧ decode cL_law (324 + 1) = .ok (.iload 4, 2) ∧ decode cL_law (324 + 3) = .ok (.iconst 5, 1) ∧ decode cL_law (324 + 4) = .ok (.iadd, 1) ∧ decode cL_law (324 + 5) = .ok (.iaload, 1) by decide +kernel) ?_
  refine ml_z C (show decode cL_law 330 = .ok (.ifCond .eq 7, 3) ∧ decode cL_law (330 + 3) = .ok (.iconst 1, 1) ∧ decode cL_law (330 + 4) = .ok (.goto 4, 3) ∧ decode cL_law (330 + 7) = .ok (.iconst 0, 1) by decide +kernel) ?_
  refine ml_b C hi (j := 6) (by omega) (by decide +kernel) (show decode cL_law 338 = .ok (.aload_n 0, 1) ∧ decode cL_law (338 + 1) = .ok (.iload 4, 2) ∧ decode cL_law (338 + 3) = .ok (.bipush 6, 2) ∧ decode cL_law (338 + 5) = .ok (.iadd, 1) ∧ decode cL_law (338 + 6) = .ok (.iaload, 1) by decide +kernel) ?_
  refine lk_X10_marks C (hkk hk) hd.2 (show decode cL_law 345 = .ok (.invokevirtual 49, 3) by decide +kernel) (by simp [cat]) rfl h2 ?_
  exact s_ic_eq (Φ := Ev 0) (E := fun _ _ => False) (tg := 1462) C.1 (show decode cL_law 348 = .ok (.if_icmp .eq 1114, 3) by decide +kernel) rfl ⟨_, _, [], rfl, fun _ => K _ _ _ _ _ _ k0 _ _ hR2 ⟨by omega, by omega⟩, fun z => absurd rfl z⟩
set_option maxRecDepth 100000 in
set_option maxHeartbeats 4000000 in
theorem lc_3 (C : lwC p l s m b N xs meth c g) (hd : 60 ≤ d ∧ d ≤ 1000) (hk : k0.1 ≤ 599 ∧ k0.2 ≤ 3594) (hi : 0 ≤ i ∧ i + 7 ≤ N) {t dd rr : Nat} {σ : Sg} {P J : Int} (hR : RR σ t dd P J) (K : lwK p l e s m b below meth c g i k0) : pL p l e s m b below meth c g k0 353 [(3, 0), (16, 0), (87, 0), (138, 0), (0, i), u, v] [] (Wd [] t dd rr σ) := by
  obtain ⟨r, σ1, σ2, h1, h2, P2, J2, hR2⟩ := rc_face (d + 1) (by omega) [] t dd rr σ P J (xv xs (i + 1)) (xv xs (i + 2)) (pLor (pLshl (xv xs (i + 3)) 32) (pLand (xv xs (i + 4)) 4294967295)) (xv xs (i + 5)) hR
  refine s_aload_n (Φ := Ev 0) (E := fun _ _ => False) C.1 (show decode cL_law 353 = .ok (.aload_n 1, 1) by decide +kernel) rfl ⟨16, 0, rfl, by decide, by decide, ?_⟩
  refine ml_x C hi (j := 1) (by omega) (show decode cL_law 354 = .ok (.aload_n 0, 1) ∧ decode cL_law (354 + 1) = .ok (.iload 4, 2) ∧ decode cL_law (354 + 3) = .ok (.iconst 1, 1) ∧ decode cL_law (354 + 4) = .ok (.iadd, 1) ∧ decode cL_law (354 + 5) = .ok (.iaload, 1) by decide +kernel) ?_
  refine ml_x C hi (j := 2) (by omega) (show decode cL_law 360 = .ok (.aload_n 0, 1) ∧ decode cL_law (360 + 1) = .ok (.iload 4, 2) ∧ decode cL_law (360 + 3) = .ok (.iconst 2, 1) ∧ decode cL_law (360 + 4) = .ok (.iadd, 1) ∧ decode cL_law (360 + 5) = .ok (.iaload, 1) by decide +kernel) ?_
  refine ml_x C hi (j := 3) (by omega) (show decode cL_law 366 = .ok (.aload_n 0, 1) ∧ decode cL_law (366 + 1) = .ok (.iload 4, 2) ∧ decode cL_law (366 + 3) = .ok (.iconst 3, 1) ∧ decode cL_law (366 + 4) = .ok (.iadd, 1) ∧ decode cL_law (366 + 5) = .ok (.iaload, 1) by decide +kernel) ?_
  refine s_i2l (Φ := Ev 0) (E := fun _ _ => False) C.1 (show decode cL_law 372 = .ok (.i2l, 1) by decide +kernel) ⟨_, _, rfl, ?_⟩
  refine s_bipush (Φ := Ev 0) (E := fun _ _ => False) C.1 (show decode cL_law 373 = .ok (.bipush 32, 2) by decide +kernel) (by unfold r32; omega) (by decide +kernel) ?_
  refine s_lshl (Φ := Ev 0) (E := fun _ _ => False) C.1 (show decode cL_law 375 = .ok (.lshl, 1) by decide +kernel) ⟨_, _, _, rfl, ?_⟩
  refine ml_x C hi (j := 4) (by omega) (show decode cL_law 376 = .ok (.aload_n 0, 1) ∧ decode cL_law (376 + 1) = .ok (.iload 4, 2) ∧ decode cL_law (376 + 3) = .ok (.iconst 4, 1) ∧ decode cL_law (376 + 4) = .ok (.iadd, 1) ∧ decode cL_law (376 + 5) = .ok (.iaload, 1) by decide +kernel) ?_
  refine s_i2l (Φ := Ev 0) (E := fun _ _ => False) C.1 (show decode cL_law 382 = .ok (.i2l, 1) by decide +kernel) ⟨_, _, rfl, ?_⟩
  refine s_ldc2 (Φ := Ev 0) (E := fun _ _ => False) C.1 (show decode cL_law 383 = .ok (.ldc2_w 50, 3) by decide +kernel) wL_c50 (by unfold r64; omega) ?_
  refine s_land (Φ := Ev 0) (E := fun _ _ => False) C.1 (show decode cL_law 386 = .ok (.land, 1) by decide +kernel) ⟨_, _, _, rfl, ?_⟩
  refine s_lor (Φ := Ev 0) (E := fun _ _ => False) C.1 (show decode cL_law 387 = .ok (.lor, 1) by decide +kernel) ⟨_, _, _, rfl, ?_⟩
  refine ml_x C hi (j := 5) (by omega) (show decode cL_law 388 = .ok (.aload_n 0, 1) ∧ decode cL_law (388 + 1) = .ok (.iload 4, 2) ∧ decode cL_law (388 + 3) = .ok (.iconst 5, 1) ∧ decode cL_law (388 + 4) = .ok (.iadd, 1) ∧ decode cL_law (388 + 5) = .ok (.iaload, 1) by decide +kernel) ?_
  refine lk_X9_face C (hkk hk) hd.2 (show decode cL_law 394 = .ok (.invokevirtual 52, 3) by decide +kernel) (by simp [cat]) rfl h1 ?_
  refine s_aload_n (Φ := Ev 0) (E := fun _ _ => False) C.1 (show decode cL_law 397 = .ok (.aload_n 2, 1) by decide +kernel) rfl ⟨87, 0, rfl, by decide, by decide, ?_⟩
  refine ml_x C hi (j := 1) (by omega) (show decode cL_law 398 = .ok (.aload_n 0, 1) ∧ decode cL_law (398 + 1) = .ok (.iload 4, 2) ∧ decode cL_law (398 + 3) = .ok (.iconst 1, 1) ∧ decode cL_law (398 + 4) = .ok (.iadd, 1) ∧ decode cL_law (398 + 5) = .ok (.iaload, 1) by decide +kernel) ?_
  refine ml_x C hi (j := 2) (by omega) (show decode cL_law 404 = .ok (.aload_n 0, 1) ∧ decode cL_law (404 + 1) = .ok (.iload 4, 2) ∧ decode cL_law (404 + 3) = .ok (.iconst 2, 1) ∧ decode cL_law (404 + 4) = .ok (.iadd, 1) ∧ decode cL_law (404 + 5) = .ok (.iaload, 1) by decide +kernel) ?_
  refine ml_x C hi (j := 3) (by omega) (show decode cL_law 410 = .ok (.aload_n 0, 1) ∧ decode cL_law (410 + 1) = .ok (.iload 4, 2) ∧ decode cL_law (410 + 3) = .ok (.iconst 3, 1) ∧ decode cL_law (410 + 4) = .ok (.iadd, 1) ∧ decode cL_law (410 + 5) = .ok (.iaload, 1) by decide +kernel) ?_
  refine s_i2l (Φ := Ev 0) (E := fun _ _ => False) C.1 (show decode cL_law 416 = .ok (.i2l, 1) by decide +kernel) ⟨_, _, rfl, ?_⟩
  refine s_bipush (Φ := Ev 0) (E := fun _ _ => False) C.1 (show decode cL_law 417 = .ok (.bipush 32, 2) by decide +kernel) (by unfold r32; omega) (by decide +kernel) ?_
  refine s_lshl (Φ := Ev 0) (E := fun _ _ => False) C.1 (show decode cL_law 419 = .ok (.lshl, 1) by decide +kernel) ⟨_, _, _, rfl, ?_⟩
  refine ml_x C hi (j := 4) (by omega) (show decode cL_law 420 = .ok (.aload_n 0, 1) ∧ decode cL_law (420 + 1) = .ok (.iload 4, 2) ∧ decode cL_law (420 + 3) = .ok (.iconst 4, 1) ∧ decode cL_law (420 + 4) = .ok (.iadd, 1) ∧ decode cL_law (420 + 5) = .ok (.iaload, 1) by decide +kernel) ?_
  refine s_i2l (Φ := Ev 0) (E := fun _ _ => False) C.1 (show decode cL_law 426 = .ok (.i2l, 1) by decide +kernel) ⟨_, _, rfl, ?_⟩
  refine s_ldc2 (Φ := Ev 0) (E := fun _ _ => False) C.1 (show decode cL_law 427 = .ok (.ldc2_w 50, 3) by decide +kernel) wL_c50 (by unfold r64; omega) ?_
  refine s_land (Φ := Ev 0) (E := fun _ _ => False) C.1 (show decode cL_law 430 = .ok (.land, 1) by decide +kernel) ⟨_, _, _, rfl, ?_⟩
  refine s_lor (Φ := Ev 0) (E := fun _ _ => False) C.1 (show decode cL_law 431 = .ok (.lor, 1) by decide +kernel) ⟨_, _, _, rfl, ?_⟩
  refine ml_x C hi (j := 5) (by omega) (show decode cL_law 432 = .ok (.aload_n 0, 1) ∧ decode cL_law (432 + 1) = .ok (.iload 4, 2) ∧ decode cL_law (432 + 3) = .ok (.iconst 5, 1) ∧ decode cL_law (432 + 4) = .ok (.iadd, 1) ∧ decode cL_law (432 + 5) = .ok (.iaload, 1) by decide +kernel) ?_
  refine lk_X10_face C (hkk hk) hd.2 (show decode cL_law 438 = .ok (.invokevirtual 56, 3) by decide +kernel) (by simp [cat]) rfl h2 ?_
  exact s_ic_eq (Φ := Ev 0) (E := fun _ _ => False) (tg := 1462) C.1 (show decode cL_law 441 = .ok (.if_icmp .eq 1021, 3) by decide +kernel) rfl ⟨_, _, [], rfl, fun _ => K _ _ _ _ _ _ k0 _ _ hR2 ⟨by omega, by omega⟩, fun z => absurd rfl z⟩
set_option maxRecDepth 100000 in
set_option maxHeartbeats 4000000 in
theorem lc_4 (C : lwC p l s m b N xs meth c g) (hd : 60 ≤ d ∧ d ≤ 1000) (hk : k0.1 ≤ 599 ∧ k0.2 ≤ 3594) (hi : 0 ≤ i ∧ i + 7 ≤ N) {t dd rr : Nat} {σ : Sg} {P J : Int} (hR : RR σ t dd P J) (K : lwK p l e s m b below meth c g i k0) : pL p l e s m b below meth c g k0 446 [(3, 0), (16, 0), (87, 0), (138, 0), (0, i), u, v] [] (Wd [] t dd rr σ) := by
  obtain ⟨r, σ1, σ2, h1, h2, P2, J2, hR2⟩ := rc_feed (d + 1) (by omega) [] t dd rr σ P J (pLor (pLshl (xv xs (i + 1)) 32) (pLand (xv xs (i + 2)) 4294967295)) (pLor (pLshl (xv xs (i + 3)) 32) (pLand (xv xs (i + 4)) 4294967295)) (pLor (pLshl (xv xs (i + 5)) 32) (pLand (xv xs (i + 6)) 4294967295)) hR
  refine s_aload_n (Φ := Ev 0) (E := fun _ _ => False) C.1 (show decode cL_law 446 = .ok (.aload_n 1, 1) by decide +kernel) rfl ⟨16, 0, rfl, by decide, by decide, ?_⟩
  refine ml_x C hi (j := 1) (by omega) (show decode cL_law 447 = .ok (.aload_n 0, 1) ∧ decode cL_law (447 + 1) = .ok (.iload 4, 2) ∧ decode cL_law (447 + 3) = .ok (.iconst 1, 1) ∧ decode cL_law (447 + 4) = .ok (.iadd, 1) ∧ decode cL_law (447 + 5) = .ok (.iaload, 1) by decide +kernel) ?_
  refine s_i2l (Φ := Ev 0) (E := fun _ _ => False) C.1 (show decode cL_law 453 = .ok (.i2l, 1) by decide +kernel) ⟨_, _, rfl, ?_⟩
  refine s_bipush (Φ := Ev 0) (E := fun _ _ => False) C.1 (show decode cL_law 454 = .ok (.bipush 32, 2) by decide +kernel) (by unfold r32; omega) (by decide +kernel) ?_
  refine s_lshl (Φ := Ev 0) (E := fun _ _ => False) C.1 (show decode cL_law 456 = .ok (.lshl, 1) by decide +kernel) ⟨_, _, _, rfl, ?_⟩
  refine ml_x C hi (j := 2) (by omega) (show decode cL_law 457 = .ok (.aload_n 0, 1) ∧ decode cL_law (457 + 1) = .ok (.iload 4, 2) ∧ decode cL_law (457 + 3) = .ok (.iconst 2, 1) ∧ decode cL_law (457 + 4) = .ok (.iadd, 1) ∧ decode cL_law (457 + 5) = .ok (.iaload, 1) by decide +kernel) ?_
  refine s_i2l (Φ := Ev 0) (E := fun _ _ => False) C.1 (show decode cL_law 463 = .ok (.i2l, 1) by decide +kernel) ⟨_, _, rfl, ?_⟩
  refine s_ldc2 (Φ := Ev 0) (E := fun _ _ => False) C.1 (show decode cL_law 464 = .ok (.ldc2_w 50, 3) by decide +kernel) wL_c50 (by unfold r64; omega) ?_
  refine s_land (Φ := Ev 0) (E := fun _ _ => False) C.1 (show decode cL_law 467 = .ok (.land, 1) by decide +kernel) ⟨_, _, _, rfl, ?_⟩
  refine s_lor (Φ := Ev 0) (E := fun _ _ => False) C.1 (show decode cL_law 468 = .ok (.lor, 1) by decide +kernel) ⟨_, _, _, rfl, ?_⟩
  refine ml_x C hi (j := 3) (by omega) (show decode cL_law 469 = .ok (.aload_n 0, 1) ∧ decode cL_law (469 + 1) = .ok (.iload 4, 2) ∧ decode cL_law (469 + 3) = .ok (.iconst 3, 1) ∧ decode cL_law (469 + 4) = .ok (.iadd, 1) ∧ decode cL_law (469 + 5) = .ok (.iaload, 1) by decide +kernel) ?_
  refine s_i2l (Φ := Ev 0) (E := fun _ _ => False) C.1 (show decode cL_law 475 = .ok (.i2l, 1) by decide +kernel) ⟨_, _, rfl, ?_⟩
  refine s_bipush (Φ := Ev 0) (E := fun _ _ => False) C.1 (show decode cL_law 476 = .ok (.bipush 32, 2) by decide +kernel) (by unfold r32; omega) (by decide +kernel) ?_
  refine s_lshl (Φ := Ev 0) (E := fun _ _ => False) C.1 (show decode cL_law 478 = .ok (.lshl, 1) by decide +kernel) ⟨_, _, _, rfl, ?_⟩
  refine ml_x C hi (j := 4) (by omega) (show decode cL_law 479 = .ok (.aload_n 0, 1) ∧ decode cL_law (479 + 1) = .ok (.iload 4, 2) ∧ decode cL_law (479 + 3) = .ok (.iconst 4, 1) ∧ decode cL_law (479 + 4) = .ok (.iadd, 1) ∧ decode cL_law (479 + 5) = .ok (.iaload, 1) by decide +kernel) ?_
  refine s_i2l (Φ := Ev 0) (E := fun _ _ => False) C.1 (show decode cL_law 485 = .ok (.i2l, 1) by decide +kernel) ⟨_, _, rfl, ?_⟩
  refine s_ldc2 (Φ := Ev 0) (E := fun _ _ => False) C.1 (show decode cL_law 486 = .ok (.ldc2_w 50, 3) by decide +kernel) wL_c50 (by unfold r64; omega) ?_
  refine s_land (Φ := Ev 0) (E := fun _ _ => False) C.1 (show decode cL_law 489 = .ok (.land, 1) by decide +kernel) ⟨_, _, _, rfl, ?_⟩
  refine s_lor (Φ := Ev 0) (E := fun _ _ => False) C.1 (show decode cL_law 490 = .ok (.lor, 1) by decide +kernel) ⟨_, _, _, rfl, ?_⟩
  refine ml_x C hi (j := 5) (by omega) (show decode cL_law 491 = .ok (.aload_n 0, 1) ∧ decode cL_law (491 + 1) = .ok (.iload 4, 2) ∧ decode cL_law (491 + 3) = .ok (.iconst 5, 1) ∧ decode cL_law (491 + 4) = .ok (.iadd, 1) ∧ decode cL_law (491 + 5) = .ok (.iaload, 1) by decide +kernel) ?_
  refine s_i2l (Φ := Ev 0) (E := fun _ _ => False) C.1 (show decode cL_law 497 = .ok (.i2l, 1) by decide +kernel) ⟨_, _, rfl, ?_⟩
  refine s_bipush (Φ := Ev 0) (E := fun _ _ => False) C.1 (show decode cL_law 498 = .ok (.bipush 32, 2) by decide +kernel) (by unfold r32; omega) (by decide +kernel) ?_
  refine s_lshl (Φ := Ev 0) (E := fun _ _ => False) C.1 (show decode cL_law 500 = .ok (.lshl, 1) by decide +kernel) ⟨_, _, _, rfl, ?_⟩
  refine ml_b C hi (j := 6) (by omega) (by decide +kernel) (show decode cL_law 501 = .ok (.aload_n 0, 1) ∧ decode cL_law (501 + 1) = .ok (.iload 4, 2) ∧ decode cL_law (501 + 3) = .ok (.bipush 6, 2) ∧ decode cL_law (501 + 5) = .ok (.iadd, 1) ∧ decode cL_law (501 + 6) = .ok (.iaload, 1) by decide +kernel) ?_
  refine s_i2l (Φ := Ev 0) (E := fun _ _ => False) C.1 (show decode cL_law 508 = .ok (.i2l, 1) by decide +kernel) ⟨_, _, rfl, ?_⟩
  refine s_ldc2 (Φ := Ev 0) (E := fun _ _ => False) C.1 (show decode cL_law 509 = .ok (.ldc2_w 50, 3) by decide +kernel) wL_c50 (by unfold r64; omega) ?_
  refine s_land (Φ := Ev 0) (E := fun _ _ => False) C.1 (show decode cL_law 512 = .ok (.land, 1) by decide +kernel) ⟨_, _, _, rfl, ?_⟩
  refine s_lor (Φ := Ev 0) (E := fun _ _ => False) C.1 (show decode cL_law 513 = .ok (.lor, 1) by decide +kernel) ⟨_, _, _, rfl, ?_⟩
  refine lk_X9_feed C (hkk hk) hd.2 (show decode cL_law 514 = .ok (.invokevirtual 57, 3) by decide +kernel) (by simp [cat]) rfl h1 ?_
  refine s_aload_n (Φ := Ev 0) (E := fun _ _ => False) C.1 (show decode cL_law 517 = .ok (.aload_n 2, 1) by decide +kernel) rfl ⟨87, 0, rfl, by decide, by decide, ?_⟩
  refine ml_x C hi (j := 1) (by omega) (show decode cL_law 518 = .ok (.aload_n 0, 1) ∧ decode cL_law (518 + 1) = .ok (.iload 4, 2) ∧ decode cL_law (518 + 3) = .ok (.iconst 1, 1) ∧ decode cL_law (518 + 4) = .ok (.iadd, 1) ∧ decode cL_law (518 + 5) = .ok (.iaload, 1) by decide +kernel) ?_
  refine s_i2l (Φ := Ev 0) (E := fun _ _ => False) C.1 (show decode cL_law 524 = .ok (.i2l, 1) by decide +kernel) ⟨_, _, rfl, ?_⟩
  refine s_bipush (Φ := Ev 0) (E := fun _ _ => False) C.1 (show decode cL_law 525 = .ok (.bipush 32, 2) by decide +kernel) (by unfold r32; omega) (by decide +kernel) ?_
  refine s_lshl (Φ := Ev 0) (E := fun _ _ => False) C.1 (show decode cL_law 527 = .ok (.lshl, 1) by decide +kernel) ⟨_, _, _, rfl, ?_⟩
  refine ml_x C hi (j := 2) (by omega) (show decode cL_law 528 = .ok (.aload_n 0, 1) ∧ decode cL_law (528 + 1) = .ok (.iload 4, 2) ∧ decode cL_law (528 + 3) = .ok (.iconst 2, 1) ∧ decode cL_law (528 + 4) = .ok (.iadd, 1) ∧ decode cL_law (528 + 5) = .ok (.iaload, 1) by decide +kernel) ?_
  refine s_i2l (Φ := Ev 0) (E := fun _ _ => False) C.1 (show decode cL_law 534 = .ok (.i2l, 1) by decide +kernel) ⟨_, _, rfl, ?_⟩
  refine s_ldc2 (Φ := Ev 0) (E := fun _ _ => False) C.1 (show decode cL_law 535 = .ok (.ldc2_w 50, 3) by decide +kernel) wL_c50 (by unfold r64; omega) ?_
  refine s_land (Φ := Ev 0) (E := fun _ _ => False) C.1 (show decode cL_law 538 = .ok (.land, 1) by decide +kernel) ⟨_, _, _, rfl, ?_⟩
  refine s_lor (Φ := Ev 0) (E := fun _ _ => False) C.1 (show decode cL_law 539 = .ok (.lor, 1) by decide +kernel) ⟨_, _, _, rfl, ?_⟩
  refine ml_x C hi (j := 3) (by omega) (show decode cL_law 540 = .ok (.aload_n 0, 1) ∧ decode cL_law (540 + 1) = .ok (.iload 4, 2) ∧ decode cL_law (540 + 3) = .ok (.iconst 3, 1) ∧ decode cL_law (540 + 4) = .ok (.iadd, 1) ∧ decode cL_law (540 + 5) = .ok (.iaload, 1) by decide +kernel) ?_
  refine s_i2l (Φ := Ev 0) (E := fun _ _ => False) C.1 (show decode cL_law 546 = .ok (.i2l, 1) by decide +kernel) ⟨_, _, rfl, ?_⟩
  refine s_bipush (Φ := Ev 0) (E := fun _ _ => False) C.1 (show decode cL_law 547 = .ok (.bipush 32, 2) by decide +kernel) (by unfold r32; omega) (by decide +kernel) ?_
  refine s_lshl (Φ := Ev 0) (E := fun _ _ => False) C.1 (show decode cL_law 549 = .ok (.lshl, 1) by decide +kernel) ⟨_, _, _, rfl, ?_⟩
  refine ml_x C hi (j := 4) (by omega) (show decode cL_law 550 = .ok (.aload_n 0, 1) ∧ decode cL_law (550 + 1) = .ok (.iload 4, 2) ∧ decode cL_law (550 + 3) = .ok (.iconst 4, 1) ∧ decode cL_law (550 + 4) = .ok (.iadd, 1) ∧ decode cL_law (550 + 5) = .ok (.iaload, 1) by decide +kernel) ?_
  refine s_i2l (Φ := Ev 0) (E := fun _ _ => False) C.1 (show decode cL_law 556 = .ok (.i2l, 1) by decide +kernel) ⟨_, _, rfl, ?_⟩
  refine s_ldc2 (Φ := Ev 0) (E := fun _ _ => False) C.1 (show decode cL_law 557 = .ok (.ldc2_w 50, 3) by decide +kernel) wL_c50 (by unfold r64; omega) ?_
  refine s_land (Φ := Ev 0) (E := fun _ _ => False) C.1 (show decode cL_law 560 = .ok (.land, 1) by decide +kernel) ⟨_, _, _, rfl, ?_⟩
  refine s_lor (Φ := Ev 0) (E := fun _ _ => False) C.1 (show decode cL_law 561 = .ok (.lor, 1) by decide +kernel) ⟨_, _, _, rfl, ?_⟩
  refine ml_x C hi (j := 5) (by omega) (show decode cL_law 562 = .ok (.aload_n 0, 1) ∧ decode cL_law (562 + 1) = .ok (.iload 4, 2) ∧ decode cL_law (562 + 3) = .ok (.iconst 5, 1) ∧ decode cL_law (562 + 4) = .ok (.iadd, 1) ∧ decode cL_law (562 + 5) = .ok (.iaload, 1) by decide +kernel) ?_
  refine s_i2l (Φ := Ev 0) (E := fun _ _ => False) C.1 (show decode cL_law 568 = .ok (.i2l, 1) by decide +kernel) ⟨_, _, rfl, ?_⟩
  refine s_bipush (Φ := Ev 0) (E := fun _ _ => False) C.1 (show decode cL_law 569 = .ok (.bipush 32, 2) by decide +kernel) (by unfold r32; omega) (by decide +kernel) ?_
  refine s_lshl (Φ := Ev 0) (E := fun _ _ => False) C.1 (show decode cL_law 571 = .ok (.lshl, 1) by decide +kernel) ⟨_, _, _, rfl, ?_⟩
  refine ml_b C hi (j := 6) (by omega) (by decide +kernel) (show decode cL_law 572 = .ok (.aload_n 0, 1) ∧ decode cL_law (572 + 1) = .ok (.iload 4, 2) ∧ decode cL_law (572 + 3) = .ok (.bipush 6, 2) ∧ decode cL_law (572 + 5) = .ok (.iadd, 1) ∧ decode cL_law (572 + 6) = .ok (.iaload, 1) by decide +kernel) ?_
  refine s_i2l (Φ := Ev 0) (E := fun _ _ => False) C.1 (show decode cL_law 579 = .ok (.i2l, 1) by decide +kernel) ⟨_, _, rfl, ?_⟩
  refine s_ldc2 (Φ := Ev 0) (E := fun _ _ => False) C.1 (show decode cL_law 580 = .ok (.ldc2_w 50, 3) by decide +kernel) wL_c50 (by unfold r64; omega) ?_
  refine s_land (Φ := Ev 0) (E := fun _ _ => False) C.1 (show decode cL_law 583 = .ok (.land, 1) by decide +kernel) ⟨_, _, _, rfl, ?_⟩
  refine s_lor (Φ := Ev 0) (E := fun _ _ => False) C.1 (show decode cL_law 584 = .ok (.lor, 1) by decide +kernel) ⟨_, _, _, rfl, ?_⟩
  refine lk_X10_feed C (hkk hk) hd.2 (show decode cL_law 585 = .ok (.invokevirtual 61, 3) by decide +kernel) (by simp [cat]) rfl h2 ?_
  exact s_ic_eq (Φ := Ev 0) (E := fun _ _ => False) (tg := 1462) C.1 (show decode cL_law 588 = .ok (.if_icmp .eq 874, 3) by decide +kernel) rfl ⟨_, _, [], rfl, fun _ => K _ _ _ _ _ _ k0 _ _ hR2 ⟨by omega, by omega⟩, fun z => absurd rfl z⟩
set_option maxRecDepth 100000 in
set_option maxHeartbeats 4000000 in
theorem lc_5 (C : lwC p l s m b N xs meth c g) (hd : 60 ≤ d ∧ d ≤ 1000) (hk : k0.1 ≤ 599 ∧ k0.2 ≤ 3594) (hi : 0 ≤ i ∧ i + 7 ≤ N) {t dd rr : Nat} {σ : Sg} {P J : Int} (hR : RR σ t dd P J) (K : lwK p l e s m b below meth c g i k0) : pL p l e s m b below meth c g k0 593 [(3, 0), (16, 0), (87, 0), (138, 0), (0, i), u, v] [] (Wd [] t dd rr σ) := by
  rcases hR.1.2.2.2.2.2.2.1 with ⟨ht, hdd⟩ | ⟨ht, hdd⟩
  · subst ht; subst hdd
    obtain ⟨r, σ1, σ2, t2, dd2, h1, h2, P2, J2, hR2⟩ := rc_text_60 (d + 1) (by omega) [] rr σ P J hR
    refine s_aload_n (Φ := Ev 0) (E := fun _ _ => False) C.1 (show decode cL_law 593 = .ok (.aload_n 1, 1) by decide +kernel) rfl ⟨16, 0, rfl, by decide, by decide, ?_⟩
    refine lk_X9_text C (hkk hk) hd.2 (show decode cL_law 594 = .ok (.invokevirtual 62, 3) by decide +kernel) (by simp [cat]) rfl h1 ?_
    refine s_aload_n (Φ := Ev 0) (E := fun _ _ => False) C.1 (show decode cL_law 597 = .ok (.aload_n 2, 1) by decide +kernel) rfl ⟨87, 0, rfl, by decide, by decide, ?_⟩
    refine lk_X10_text C (hkk hk) hd.2 (show decode cL_law 598 = .ok (.invokevirtual 66, 3) by decide +kernel) (by simp [cat]) rfl h2 ?_
    exact s_ic_eq (Φ := Ev 0) (E := fun _ _ => False) (tg := 1462) C.1 (show decode cL_law 601 = .ok (.if_icmp .eq 861, 3) by decide +kernel) rfl ⟨_, _, [], rfl, fun _ => K _ _ _ _ _ _ k0 _ _ hR2 ⟨by omega, by omega⟩, fun z => absurd rfl z⟩
  · subst ht; subst hdd
    obtain ⟨r, σ1, σ2, t2, dd2, h1, h2, P2, J2, hR2⟩ := rc_text_53 (d + 1) (by omega) [] rr σ P J hR
    refine s_aload_n (Φ := Ev 0) (E := fun _ _ => False) C.1 (show decode cL_law 593 = .ok (.aload_n 1, 1) by decide +kernel) rfl ⟨16, 0, rfl, by decide, by decide, ?_⟩
    refine lk_X9_text C (hkk hk) hd.2 (show decode cL_law 594 = .ok (.invokevirtual 62, 3) by decide +kernel) (by simp [cat]) rfl h1 ?_
    refine s_aload_n (Φ := Ev 0) (E := fun _ _ => False) C.1 (show decode cL_law 597 = .ok (.aload_n 2, 1) by decide +kernel) rfl ⟨87, 0, rfl, by decide, by decide, ?_⟩
    refine lk_X10_text C (hkk hk) hd.2 (show decode cL_law 598 = .ok (.invokevirtual 66, 3) by decide +kernel) (by simp [cat]) rfl h2 ?_
    exact s_ic_eq (Φ := Ev 0) (E := fun _ _ => False) (tg := 1462) C.1 (show decode cL_law 601 = .ok (.if_icmp .eq 861, 3) by decide +kernel) rfl ⟨_, _, [], rfl, fun _ => K _ _ _ _ _ _ k0 _ _ hR2 ⟨by omega, by omega⟩, fun z => absurd rfl z⟩
set_option maxRecDepth 100000 in
set_option maxHeartbeats 4000000 in
theorem lc_6 (C : lwC p l s m b N xs meth c g) (hd : 60 ≤ d ∧ d ≤ 1000) (hk : k0.1 ≤ 599 ∧ k0.2 ≤ 3594) (hi : 0 ≤ i ∧ i + 7 ≤ N) {t dd rr : Nat} {σ : Sg} {P J : Int} (hR : RR σ t dd P J) (K : lwK p l e s m b below meth c g i k0) : pL p l e s m b below meth c g k0 606 [(3, 0), (16, 0), (87, 0), (138, 0), (0, i), u, v] [] (Wd [] t dd rr σ) := by
  obtain ⟨r, σ1, σ2, h1, h2, P2, J2, hR2⟩ := rc_near (d + 1) (by omega) [] t dd rr σ P J (xv xs (i + 1)) hR
  refine s_aload_n (Φ := Ev 0) (E := fun _ _ => False) C.1 (show decode cL_law 606 = .ok (.aload_n 1, 1) by decide +kernel) rfl ⟨16, 0, rfl, by decide, by decide, ?_⟩
  refine ml_x C hi (j := 1) (by omega) (show decode cL_law 607 = .ok (.aload_n 0, 1) ∧ decode cL_law (607 + 1) = .ok (.iload 4, 2) ∧ decode cL_law (607 + 3) = .ok (.iconst 1, 1) ∧ decode cL_law (607 + 4) = .ok (.iadd, 1) ∧ decode cL_law (607 + 5) = .ok (.iaload, 1) by decide +kernel) ?_
  refine lk_X9_near C (hkk hk) hd.2 (show decode cL_law 613 = .ok (.invokevirtual 67, 3) by decide +kernel) (by simp [cat]) rfl h1 ?_
  refine s_aload_n (Φ := Ev 0) (E := fun _ _ => False) C.1 (show decode cL_law 616 = .ok (.aload_n 2, 1) by decide +kernel) rfl ⟨87, 0, rfl, by decide, by decide, ?_⟩
  refine ml_x C hi (j := 1) (by omega) (show decode cL_law 617 = .ok (.aload_n 0, 1) ∧ decode cL_law (617 + 1) = .ok (.iload 4, 2) ∧ decode cL_law (617 + 3) = .ok (.iconst 1, 1) ∧ decode cL_law (617 + 4) = .ok (.iadd, 1) ∧ decode cL_law (617 + 5) = .ok (.iaload, 1) by decide +kernel) ?_
  refine lk_X10_near C (hkk hk) hd.2 (show decode cL_law 623 = .ok (.invokevirtual 71, 3) by decide +kernel) (by simp [cat]) rfl h2 ?_
  exact s_ic_eq (Φ := Ev 0) (E := fun _ _ => False) (tg := 1462) C.1 (show decode cL_law 626 = .ok (.if_icmp .eq 836, 3) by decide +kernel) rfl ⟨_, _, [], rfl, fun _ => K _ _ _ _ _ _ k0 _ _ hR2 ⟨by omega, by omega⟩, fun z => absurd rfl z⟩
set_option maxRecDepth 100000 in
set_option maxHeartbeats 4000000 in
theorem lc_7 (C : lwC p l s m b N xs meth c g) (hd : 60 ≤ d ∧ d ≤ 1000) (hk : k0.1 ≤ 599 ∧ k0.2 ≤ 3594) (hi : 0 ≤ i ∧ i + 7 ≤ N) {t dd rr : Nat} {σ : Sg} {P J : Int} (hR : RR σ t dd P J) (K : lwK p l e s m b below meth c g i k0) : pL p l e s m b below meth c g k0 631 [(3, 0), (16, 0), (87, 0), (138, 0), (0, i), u, v] [] (Wd [] t dd rr σ) := by
  obtain ⟨r1, σ1, h1, h2⟩ := rx_meet (d + 1) (by omega) [] t dd rr σ P J (xv xs (i + 1)) (xv xs (i + 2)) (xv xs (i + 3)) ⟨(r32_of _).2, (r32_of _).2⟩ hR
  refine s_aload_n (Φ := Ev 0) (E := fun _ _ => False) C.1 (show decode cL_law 631 = .ok (.aload_n 1, 1) by decide +kernel) rfl ⟨16, 0, rfl, by decide, by decide, ?_⟩
  refine ml_x C hi (j := 1) (by omega) (show decode cL_law 632 = .ok (.aload_n 0, 1) ∧ decode cL_law (632 + 1) = .ok (.iload 4, 2) ∧ decode cL_law (632 + 3) = .ok (.iconst 1, 1) ∧ decode cL_law (632 + 4) = .ok (.iadd, 1) ∧ decode cL_law (632 + 5) = .ok (.iaload, 1) by decide +kernel) ?_
  refine ml_x C hi (j := 2) (by omega) (show decode cL_law 638 = .ok (.aload_n 0, 1) ∧ decode cL_law (638 + 1) = .ok (.iload 4, 2) ∧ decode cL_law (638 + 3) = .ok (.iconst 2, 1) ∧ decode cL_law (638 + 4) = .ok (.iadd, 1) ∧ decode cL_law (638 + 5) = .ok (.iaload, 1) by decide +kernel) ?_
  refine ml_x C hi (j := 3) (by omega) (show decode cL_law 644 = .ok (.aload_n 0, 1) ∧ decode cL_law (644 + 1) = .ok (.iload 4, 2) ∧ decode cL_law (644 + 3) = .ok (.iconst 3, 1) ∧ decode cL_law (644 + 4) = .ok (.iadd, 1) ∧ decode cL_law (644 + 5) = .ok (.iaload, 1) by decide +kernel) ?_
  refine s_aload_n (Φ := Ev 0) (E := fun _ _ => False) C.1 (show decode cL_law 650 = .ok (.aload_n 3, 1) by decide +kernel) rfl ⟨138, 0, rfl, by decide, by decide, ?_⟩
  rcases (h2 0).choose_spec.choose_spec.2.2.1 with ⟨q, -⟩ | ⟨q, -⟩
  · obtain ⟨x, σ2, h3, hy, hT, P2, J2, hR2⟩ := h2 (h2 0).choose
    rcases hT with ⟨q2, hT⟩ | ⟨q2, hT⟩
    · rw [q] at q2
      have ex : (h2 0).choose = x := (Prod.mk.inj q2).2
      rw [q] at h1
      rw [ex] at h1 h3 hy
      refine lhr_meet C (hkk hk) hd.2 (show decode cL_law 651 = .ok (.invokestatic 72, 3) by decide +kernel) (by simp) rfl rfl h1 ?_
      refine ml_st5 C (show decode cL_law 654 = .ok (.istore 5, 2) by decide +kernel) ?_
      refine s_aload_n (Φ := Ev 0) (E := fun _ _ => False) C.1 (show decode cL_law 656 = .ok (.aload_n 2, 1) by decide +kernel) rfl ⟨87, 0, rfl, by decide, by decide, ?_⟩
      refine ml_x C hi (j := 1) (by omega) (show decode cL_law 657 = .ok (.aload_n 0, 1) ∧ decode cL_law (657 + 1) = .ok (.iload 4, 2) ∧ decode cL_law (657 + 3) = .ok (.iconst 1, 1) ∧ decode cL_law (657 + 4) = .ok (.iadd, 1) ∧ decode cL_law (657 + 5) = .ok (.iaload, 1) by decide +kernel) ?_
      refine ml_x C hi (j := 2) (by omega) (show decode cL_law 663 = .ok (.aload_n 0, 1) ∧ decode cL_law (663 + 1) = .ok (.iload 4, 2) ∧ decode cL_law (663 + 3) = .ok (.iconst 2, 1) ∧ decode cL_law (663 + 4) = .ok (.iadd, 1) ∧ decode cL_law (663 + 5) = .ok (.iaload, 1) by decide +kernel) ?_
      refine ml_x C hi (j := 3) (by omega) (show decode cL_law 669 = .ok (.aload_n 0, 1) ∧ decode cL_law (669 + 1) = .ok (.iload 4, 2) ∧ decode cL_law (669 + 3) = .ok (.iconst 3, 1) ∧ decode cL_law (669 + 4) = .ok (.iadd, 1) ∧ decode cL_law (669 + 5) = .ok (.iaload, 1) by decide +kernel) ?_
      refine lk_X10_meet C (hkk hk) hd.2 (show decode cL_law 675 = .ok (.invokevirtual 77, 3) by decide +kernel) (by simp [cat]) rfl h3 ?_
      exact lt_end C (hkk hk) hd.2 (show decode cL_law 678 = .ok (.istore 6, 2) ∧ decode cL_law (678 + 2) = .ok (.aload_n 2, 1) ∧ decode cL_law (678 + 3) = .ok (.invokevirtual 78, 3) ∧ decode cL_law (678 + 6) = .ok (.iload 5, 2) ∧ decode cL_law (678 + 8) = .ok (.if_icmp .eq 5, 3) ∧ decode cL_law (678 + 13) = .ok (.iload 5, 2) ∧ decode cL_law (678 + 15) = .ok (.ifCond .ne 15, 3) ∧ decode cL_law (678 + 18) = .ok (.aload_n 3, 1) ∧ decode cL_law (678 + 19) = .ok (.iconst 0, 1) ∧ decode cL_law (678 + 20) = .ok (.laload, 1) ∧ decode cL_law (678 + 21) = .ok (.iload 6, 2) ∧ decode cL_law (678 + 23) = .ok (.i2l, 1) ∧ decode cL_law (678 + 24) = .ok (.lcmp, 1) ∧ decode cL_law (678 + 25) = .ok (.ifCond .eq 5, 3) ∧ decode cL_law (678 + 30) = .ok (.goto 754, 3) by decide +kernel) rfl hT (Or.inr hy) (K _ _ _ _ _ _ k0 _ _ hR2 ⟨by omega, by omega⟩)
    · rw [q] at q2; exact absurd (Prod.mk.inj q2).1 (by decide)
  · obtain ⟨x, σ2, h3, hy, hT, P2, J2, hR2⟩ := h2 (σ1 122 0)
    rw [up2_self] at h3
    rcases hT with ⟨q2, hT⟩ | ⟨q2, hT⟩
    · rw [q] at q2; exact absurd (Prod.mk.inj q2).1 (by decide)
    · rw [q] at h1
      refine lht_meet C hk ⟨by omega, hd.2⟩ (show decode cL_law 651 = .ok (.invokestatic 72, 3) by decide +kernel) (by simp) rfl h1 ?_
      refine ml_st5 C (show decode cL_law 654 = .ok (.istore 5, 2) by decide +kernel) ?_
      refine s_aload_n (Φ := Ev 0) (E := fun _ _ => False) C.1 (show decode cL_law 656 = .ok (.aload_n 2, 1) by decide +kernel) rfl ⟨87, 0, rfl, by decide, by decide, ?_⟩
      refine ml_x C hi (j := 1) (by omega) (show decode cL_law 657 = .ok (.aload_n 0, 1) ∧ decode cL_law (657 + 1) = .ok (.iload 4, 2) ∧ decode cL_law (657 + 3) = .ok (.iconst 1, 1) ∧ decode cL_law (657 + 4) = .ok (.iadd, 1) ∧ decode cL_law (657 + 5) = .ok (.iaload, 1) by decide +kernel) ?_
      refine ml_x C hi (j := 2) (by omega) (show decode cL_law 663 = .ok (.aload_n 0, 1) ∧ decode cL_law (663 + 1) = .ok (.iload 4, 2) ∧ decode cL_law (663 + 3) = .ok (.iconst 2, 1) ∧ decode cL_law (663 + 4) = .ok (.iadd, 1) ∧ decode cL_law (663 + 5) = .ok (.iaload, 1) by decide +kernel) ?_
      refine ml_x C hi (j := 3) (by omega) (show decode cL_law 669 = .ok (.aload_n 0, 1) ∧ decode cL_law (669 + 1) = .ok (.iload 4, 2) ∧ decode cL_law (669 + 3) = .ok (.iconst 3, 1) ∧ decode cL_law (669 + 4) = .ok (.iadd, 1) ∧ decode cL_law (669 + 5) = .ok (.iaload, 1) by decide +kernel) ?_
      refine lk_X10_meet C (hk1 hk) hd.2 (show decode cL_law 675 = .ok (.invokevirtual 77, 3) by decide +kernel) (by simp [cat]) rfl h3 ?_
      exact lt_end C (hk1 hk) hd.2 (show decode cL_law 678 = .ok (.istore 6, 2) ∧ decode cL_law (678 + 2) = .ok (.aload_n 2, 1) ∧ decode cL_law (678 + 3) = .ok (.invokevirtual 78, 3) ∧ decode cL_law (678 + 6) = .ok (.iload 5, 2) ∧ decode cL_law (678 + 8) = .ok (.if_icmp .eq 5, 3) ∧ decode cL_law (678 + 13) = .ok (.iload 5, 2) ∧ decode cL_law (678 + 15) = .ok (.ifCond .ne 15, 3) ∧ decode cL_law (678 + 18) = .ok (.aload_n 3, 1) ∧ decode cL_law (678 + 19) = .ok (.iconst 0, 1) ∧ decode cL_law (678 + 20) = .ok (.laload, 1) ∧ decode cL_law (678 + 21) = .ok (.iload 6, 2) ∧ decode cL_law (678 + 23) = .ok (.i2l, 1) ∧ decode cL_law (678 + 24) = .ok (.lcmp, 1) ∧ decode cL_law (678 + 25) = .ok (.ifCond .eq 5, 3) ∧ decode cL_law (678 + 30) = .ok (.goto 754, 3) by decide +kernel) rfl hT (Or.inl (by decide)) (K _ _ _ _ _ _ (k0.1 + 1, k0.2 + 6) _ _ hR2 ⟨Nat.le_refl _, Nat.le_refl _⟩)
set_option maxRecDepth 100000 in
set_option maxHeartbeats 4000000 in
theorem lc_8 (C : lwC p l s m b N xs meth c g) (hd : 60 ≤ d ∧ d ≤ 1000) (hk : k0.1 ≤ 599 ∧ k0.2 ≤ 3594) (hi : 0 ≤ i ∧ i + 7 ≤ N) {t dd rr : Nat} {σ : Sg} {P J : Int} (hR : RR σ t dd P J) (K : lwK p l e s m b below meth c g i k0) : pL p l e s m b below meth c g k0 711 [(3, 0), (16, 0), (87, 0), (138, 0), (0, i), u, v] [] (Wd [] t dd rr σ) := by
  obtain ⟨r, σ1, σ2, h1, h2, P2, J2, hR2⟩ := rc_candidate (d + 1) (by omega) [] t dd rr σ P J (xv xs (i + 1)) (xv xs (i + 2)) ⟨(r32_of _).2, (r32_of _).2⟩ hR
  refine s_aload_n (Φ := Ev 0) (E := fun _ _ => False) C.1 (show decode cL_law 711 = .ok (.aload_n 1, 1) by decide +kernel) rfl ⟨16, 0, rfl, by decide, by decide, ?_⟩
  refine ml_x C hi (j := 1) (by omega) (show decode cL_law 712 = .ok (.aload_n 0, 1) ∧ decode cL_law (712 + 1) = .ok (.iload 4, 2) ∧ decode cL_law (712 + 3) = .ok (.iconst 1, 1) ∧ decode cL_law (712 + 4) = .ok (.iadd, 1) ∧ decode cL_law (712 + 5) = .ok (.iaload, 1) by decide +kernel) ?_
  refine ml_x C hi (j := 2) (by omega) (show decode cL_law 718 = .ok (.aload_n 0, 1) ∧ decode cL_law (718 + 1) = .ok (.iload 4, 2) ∧ decode cL_law (718 + 3) = .ok (.iconst 2, 1) ∧ decode cL_law (718 + 4) = .ok (.iadd, 1) ∧ decode cL_law (718 + 5) = .ok (.iaload, 1) by decide +kernel) ?_
  refine lk_X9_candidate C (hkk hk) hd.2 (show decode cL_law 724 = .ok (.invokevirtual 81, 3) by decide +kernel) (by simp [cat]) rfl h1 ?_
  refine s_aload_n (Φ := Ev 0) (E := fun _ _ => False) C.1 (show decode cL_law 727 = .ok (.aload_n 2, 1) by decide +kernel) rfl ⟨87, 0, rfl, by decide, by decide, ?_⟩
  refine ml_x C hi (j := 1) (by omega) (show decode cL_law 728 = .ok (.aload_n 0, 1) ∧ decode cL_law (728 + 1) = .ok (.iload 4, 2) ∧ decode cL_law (728 + 3) = .ok (.iconst 1, 1) ∧ decode cL_law (728 + 4) = .ok (.iadd, 1) ∧ decode cL_law (728 + 5) = .ok (.iaload, 1) by decide +kernel) ?_
  refine ml_x C hi (j := 2) (by omega) (show decode cL_law 734 = .ok (.aload_n 0, 1) ∧ decode cL_law (734 + 1) = .ok (.iload 4, 2) ∧ decode cL_law (734 + 3) = .ok (.iconst 2, 1) ∧ decode cL_law (734 + 4) = .ok (.iadd, 1) ∧ decode cL_law (734 + 5) = .ok (.iaload, 1) by decide +kernel) ?_
  refine lk_X10_candidate C (hkk hk) hd.2 (show decode cL_law 740 = .ok (.invokevirtual 84, 3) by decide +kernel) (by simp [cat]) rfl h2 ?_
  exact s_ic_eq (Φ := Ev 0) (E := fun _ _ => False) (tg := 1462) C.1 (show decode cL_law 743 = .ok (.if_icmp .eq 719, 3) by decide +kernel) rfl ⟨_, _, [], rfl, fun _ => K _ _ _ _ _ _ k0 _ _ hR2 ⟨by omega, by omega⟩, fun z => absurd rfl z⟩
set_option maxRecDepth 100000 in
set_option maxHeartbeats 4000000 in
theorem lc_9 (C : lwC p l s m b N xs meth c g) (hd : 60 ≤ d ∧ d ≤ 1000) (hk : k0.1 ≤ 599 ∧ k0.2 ≤ 3594) (hi : 0 ≤ i ∧ i + 7 ≤ N) {t dd rr : Nat} {σ : Sg} {P J : Int} (hR : RR σ t dd P J) (K : lwK p l e s m b below meth c g i k0) : pL p l e s m b below meth c g k0 748 [(3, 0), (16, 0), (87, 0), (138, 0), (0, i), u, v] [] (Wd [] t dd rr σ) := by
  obtain ⟨r, σ1, σ2, h1, h2, P2, J2, hR2⟩ := rc_join (d + 1) (by omega) [] t dd rr σ P J (xv xs (i + 1)) (xv xs (i + 2)) ⟨(r32_of _).2, (r32_of _).2⟩ hR
  refine s_aload_n (Φ := Ev 0) (E := fun _ _ => False) C.1 (show decode cL_law 748 = .ok (.aload_n 1, 1) by decide +kernel) rfl ⟨16, 0, rfl, by decide, by decide, ?_⟩
  refine ml_x C hi (j := 1) (by omega) (show decode cL_law 749 = .ok (.aload_n 0, 1) ∧ decode cL_law (749 + 1) = .ok (.iload 4, 2) ∧ decode cL_law (749 + 3) = .ok (.iconst 1, 1) ∧ decode cL_law (749 + 4) = .ok (.iadd, 1) ∧ decode cL_law (749 + 5) = .ok (.iaload, 1) by decide +kernel) ?_
  refine ml_x C hi (j := 2) (by omega) (show decode cL_law 755 = .ok (.aload_n 0, 1) ∧ decode cL_law (755 + 1) = .ok (.iload 4, 2) ∧ decode cL_law (755 + 3) = .ok (.iconst 2, 1) ∧ decode cL_law (755 + 4) = .ok (.iadd, 1) ∧ decode cL_law (755 + 5) = .ok (.iaload, 1) by decide +kernel) ?_
  refine lk_X9_join C (hkk hk) hd.2 (show decode cL_law 761 = .ok (.invokevirtual 85, 3) by decide +kernel) (by simp [cat]) rfl h1 ?_
  refine s_aload_n (Φ := Ev 0) (E := fun _ _ => False) C.1 (show decode cL_law 764 = .ok (.aload_n 2, 1) by decide +kernel) rfl ⟨87, 0, rfl, by decide, by decide, ?_⟩
  refine ml_x C hi (j := 1) (by omega) (show decode cL_law 765 = .ok (.aload_n 0, 1) ∧ decode cL_law (765 + 1) = .ok (.iload 4, 2) ∧ decode cL_law (765 + 3) = .ok (.iconst 1, 1) ∧ decode cL_law (765 + 4) = .ok (.iadd, 1) ∧ decode cL_law (765 + 5) = .ok (.iaload, 1) by decide +kernel) ?_
  refine ml_x C hi (j := 2) (by omega) (show decode cL_law 771 = .ok (.aload_n 0, 1) ∧ decode cL_law (771 + 1) = .ok (.iload 4, 2) ∧ decode cL_law (771 + 3) = .ok (.iconst 2, 1) ∧ decode cL_law (771 + 4) = .ok (.iadd, 1) ∧ decode cL_law (771 + 5) = .ok (.iaload, 1) by decide +kernel) ?_
  refine lk_X10_join C (hkk hk) hd.2 (show decode cL_law 777 = .ok (.invokevirtual 88, 3) by decide +kernel) (by simp [cat]) rfl h2 ?_
  exact s_ic_eq (Φ := Ev 0) (E := fun _ _ => False) (tg := 1462) C.1 (show decode cL_law 780 = .ok (.if_icmp .eq 682, 3) by decide +kernel) rfl ⟨_, _, [], rfl, fun _ => K _ _ _ _ _ _ k0 _ _ hR2 ⟨by omega, by omega⟩, fun z => absurd rfl z⟩
set_option maxRecDepth 100000 in
set_option maxHeartbeats 4000000 in
theorem lc_10 (C : lwC p l s m b N xs meth c g) (hd : 60 ≤ d ∧ d ≤ 1000) (hk : k0.1 ≤ 599 ∧ k0.2 ≤ 3594) (hi : 0 ≤ i ∧ i + 7 ≤ N) {t dd rr : Nat} {σ : Sg} {P J : Int} (hR : RR σ t dd P J) (K : lwK p l e s m b below meth c g i k0) : pL p l e s m b below meth c g k0 785 [(3, 0), (16, 0), (87, 0), (138, 0), (0, i), u, v] [] (Wd [] t dd rr σ) := by
  obtain ⟨r, σ1, σ2, h1, h2, P2, J2, hR2⟩ := rc_part (d + 1) (by omega) [] t dd rr σ P J (xv xs (i + 1)) hR
  refine s_aload_n (Φ := Ev 0) (E := fun _ _ => False) C.1 (show decode cL_law 785 = .ok (.aload_n 1, 1) by decide +kernel) rfl ⟨16, 0, rfl, by decide, by decide, ?_⟩
  refine ml_x C hi (j := 1) (by omega) (show decode cL_law 786 = .ok (.aload_n 0, 1) ∧ decode cL_law (786 + 1) = .ok (.iload 4, 2) ∧ decode cL_law (786 + 3) = .ok (.iconst 1, 1) ∧ decode cL_law (786 + 4) = .ok (.iadd, 1) ∧ decode cL_law (786 + 5) = .ok (.iaload, 1) by decide +kernel) ?_
  refine lk_X9_part C (hkk hk) hd.2 (show decode cL_law 792 = .ok (.invokevirtual 89, 3) by decide +kernel) (by simp [cat]) rfl h1 ?_
  refine s_aload_n (Φ := Ev 0) (E := fun _ _ => False) C.1 (show decode cL_law 795 = .ok (.aload_n 2, 1) by decide +kernel) rfl ⟨87, 0, rfl, by decide, by decide, ?_⟩
  refine ml_x C hi (j := 1) (by omega) (show decode cL_law 796 = .ok (.aload_n 0, 1) ∧ decode cL_law (796 + 1) = .ok (.iload 4, 2) ∧ decode cL_law (796 + 3) = .ok (.iconst 1, 1) ∧ decode cL_law (796 + 4) = .ok (.iadd, 1) ∧ decode cL_law (796 + 5) = .ok (.iaload, 1) by decide +kernel) ?_
  refine lk_X10_part C (hkk hk) hd.2 (show decode cL_law 802 = .ok (.invokevirtual 92, 3) by decide +kernel) (by simp [cat]) rfl h2 ?_
  exact s_ic_eq (Φ := Ev 0) (E := fun _ _ => False) (tg := 1462) C.1 (show decode cL_law 805 = .ok (.if_icmp .eq 657, 3) by decide +kernel) rfl ⟨_, _, [], rfl, fun _ => K _ _ _ _ _ _ k0 _ _ hR2 ⟨by omega, by omega⟩, fun z => absurd rfl z⟩
set_option maxRecDepth 100000 in
set_option maxHeartbeats 4000000 in
theorem lc_11 (C : lwC p l s m b N xs meth c g) (hd : 60 ≤ d ∧ d ≤ 1000) (hk : k0.1 ≤ 599 ∧ k0.2 ≤ 3594) (hi : 0 ≤ i ∧ i + 7 ≤ N) {t dd rr : Nat} {σ : Sg} {P J : Int} (hR : RR σ t dd P J) (K : lwK p l e s m b below meth c g i k0) : pL p l e s m b below meth c g k0 810 [(3, 0), (16, 0), (87, 0), (138, 0), (0, i), u, v] [] (Wd [] t dd rr σ) := by
  obtain ⟨r1, σ1, h1, h2⟩ := rx_joined (d + 1) (by omega) [] t dd rr σ P J (xv xs (i + 1)) (xv xs (i + 2)) hR
  refine s_aload_n (Φ := Ev 0) (E := fun _ _ => False) C.1 (show decode cL_law 810 = .ok (.aload_n 1, 1) by decide +kernel) rfl ⟨16, 0, rfl, by decide, by decide, ?_⟩
  refine ml_x C hi (j := 1) (by omega) (show decode cL_law 811 = .ok (.aload_n 0, 1) ∧ decode cL_law (811 + 1) = .ok (.iload 4, 2) ∧ decode cL_law (811 + 3) = .ok (.iconst 1, 1) ∧ decode cL_law (811 + 4) = .ok (.iadd, 1) ∧ decode cL_law (811 + 5) = .ok (.iaload, 1) by decide +kernel) ?_
  refine ml_x C hi (j := 2) (by omega) (show decode cL_law 817 = .ok (.aload_n 0, 1) ∧ decode cL_law (817 + 1) = .ok (.iload 4, 2) ∧ decode cL_law (817 + 3) = .ok (.iconst 2, 1) ∧ decode cL_law (817 + 4) = .ok (.iadd, 1) ∧ decode cL_law (817 + 5) = .ok (.iaload, 1) by decide +kernel) ?_
  refine s_aload_n (Φ := Ev 0) (E := fun _ _ => False) C.1 (show decode cL_law 823 = .ok (.aload_n 3, 1) by decide +kernel) rfl ⟨138, 0, rfl, by decide, by decide, ?_⟩
  rcases (h2 0).choose_spec.choose_spec.2.2.1 with ⟨q, -⟩ | ⟨q, -⟩
  · obtain ⟨x, σ2, h3, hy, hT, P2, J2, hR2⟩ := h2 (h2 0).choose
    rcases hT with ⟨q2, hT⟩ | ⟨q2, hT⟩
    · rw [q] at q2
      have ex : (h2 0).choose = x := (Prod.mk.inj q2).2
      rw [q] at h1
      rw [ex] at h1 h3 hy
      refine lhr_joined C (hkk hk) hd.2 (show decode cL_law 824 = .ok (.invokestatic 93, 3) by decide +kernel) (by simp) rfl rfl h1 ?_
      refine ml_st5 C (show decode cL_law 827 = .ok (.istore 5, 2) by decide +kernel) ?_
      refine s_aload_n (Φ := Ev 0) (E := fun _ _ => False) C.1 (show decode cL_law 829 = .ok (.aload_n 2, 1) by decide +kernel) rfl ⟨87, 0, rfl, by decide, by decide, ?_⟩
      refine ml_x C hi (j := 1) (by omega) (show decode cL_law 830 = .ok (.aload_n 0, 1) ∧ decode cL_law (830 + 1) = .ok (.iload 4, 2) ∧ decode cL_law (830 + 3) = .ok (.iconst 1, 1) ∧ decode cL_law (830 + 4) = .ok (.iadd, 1) ∧ decode cL_law (830 + 5) = .ok (.iaload, 1) by decide +kernel) ?_
      refine ml_x C hi (j := 2) (by omega) (show decode cL_law 836 = .ok (.aload_n 0, 1) ∧ decode cL_law (836 + 1) = .ok (.iload 4, 2) ∧ decode cL_law (836 + 3) = .ok (.iconst 2, 1) ∧ decode cL_law (836 + 4) = .ok (.iadd, 1) ∧ decode cL_law (836 + 5) = .ok (.iaload, 1) by decide +kernel) ?_
      refine lk_X10_joined C (hkk hk) hd.2 (show decode cL_law 842 = .ok (.invokevirtual 96, 3) by decide +kernel) (by simp [cat]) rfl h3 ?_
      exact lt_end C (hkk hk) hd.2 (show decode cL_law 845 = .ok (.istore 6, 2) ∧ decode cL_law (845 + 2) = .ok (.aload_n 2, 1) ∧ decode cL_law (845 + 3) = .ok (.invokevirtual 78, 3) ∧ decode cL_law (845 + 6) = .ok (.iload 5, 2) ∧ decode cL_law (845 + 8) = .ok (.if_icmp .eq 5, 3) ∧ decode cL_law (845 + 13) = .ok (.iload 5, 2) ∧ decode cL_law (845 + 15) = .ok (.ifCond .ne 15, 3) ∧ decode cL_law (845 + 18) = .ok (.aload_n 3, 1) ∧ decode cL_law (845 + 19) = .ok (.iconst 0, 1) ∧ decode cL_law (845 + 20) = .ok (.laload, 1) ∧ decode cL_law (845 + 21) = .ok (.iload 6, 2) ∧ decode cL_law (845 + 23) = .ok (.i2l, 1) ∧ decode cL_law (845 + 24) = .ok (.lcmp, 1) ∧ decode cL_law (845 + 25) = .ok (.ifCond .eq 5, 3) ∧ decode cL_law (845 + 30) = .ok (.goto 587, 3) by decide +kernel) rfl hT (Or.inr hy) (K _ _ _ _ _ _ k0 _ _ hR2 ⟨by omega, by omega⟩)
    · rw [q] at q2; exact absurd (Prod.mk.inj q2).1 (by decide)
  · obtain ⟨x, σ2, h3, hy, hT, P2, J2, hR2⟩ := h2 (σ1 122 0)
    rw [up2_self] at h3
    rcases hT with ⟨q2, hT⟩ | ⟨q2, hT⟩
    · rw [q] at q2; exact absurd (Prod.mk.inj q2).1 (by decide)
    · rw [q] at h1
      refine lht_joined C hk ⟨by omega, hd.2⟩ (show decode cL_law 824 = .ok (.invokestatic 93, 3) by decide +kernel) (by simp) rfl h1 ?_
      refine ml_st5 C (show decode cL_law 827 = .ok (.istore 5, 2) by decide +kernel) ?_
      refine s_aload_n (Φ := Ev 0) (E := fun _ _ => False) C.1 (show decode cL_law 829 = .ok (.aload_n 2, 1) by decide +kernel) rfl ⟨87, 0, rfl, by decide, by decide, ?_⟩
      refine ml_x C hi (j := 1) (by omega) (show decode cL_law 830 = .ok (.aload_n 0, 1) ∧ decode cL_law (830 + 1) = .ok (.iload 4, 2) ∧ decode cL_law (830 + 3) = .ok (.iconst 1, 1) ∧ decode cL_law (830 + 4) = .ok (.iadd, 1) ∧ decode cL_law (830 + 5) = .ok (.iaload, 1) by decide +kernel) ?_
      refine ml_x C hi (j := 2) (by omega) (show decode cL_law 836 = .ok (.aload_n 0, 1) ∧ decode cL_law (836 + 1) = .ok (.iload 4, 2) ∧ decode cL_law (836 + 3) = .ok (.iconst 2, 1) ∧ decode cL_law (836 + 4) = .ok (.iadd, 1) ∧ decode cL_law (836 + 5) = .ok (.iaload, 1) by decide +kernel) ?_
      refine lk_X10_joined C (hk1 hk) hd.2 (show decode cL_law 842 = .ok (.invokevirtual 96, 3) by decide +kernel) (by simp [cat]) rfl h3 ?_
      exact lt_end C (hk1 hk) hd.2 (show decode cL_law 845 = .ok (.istore 6, 2) ∧ decode cL_law (845 + 2) = .ok (.aload_n 2, 1) ∧ decode cL_law (845 + 3) = .ok (.invokevirtual 78, 3) ∧ decode cL_law (845 + 6) = .ok (.iload 5, 2) ∧ decode cL_law (845 + 8) = .ok (.if_icmp .eq 5, 3) ∧ decode cL_law (845 + 13) = .ok (.iload 5, 2) ∧ decode cL_law (845 + 15) = .ok (.ifCond .ne 15, 3) ∧ decode cL_law (845 + 18) = .ok (.aload_n 3, 1) ∧ decode cL_law (845 + 19) = .ok (.iconst 0, 1) ∧ decode cL_law (845 + 20) = .ok (.laload, 1) ∧ decode cL_law (845 + 21) = .ok (.iload 6, 2) ∧ decode cL_law (845 + 23) = .ok (.i2l, 1) ∧ decode cL_law (845 + 24) = .ok (.lcmp, 1) ∧ decode cL_law (845 + 25) = .ok (.ifCond .eq 5, 3) ∧ decode cL_law (845 + 30) = .ok (.goto 587, 3) by decide +kernel) rfl hT (Or.inl (by decide)) (K _ _ _ _ _ _ (k0.1 + 1, k0.2 + 6) _ _ hR2 ⟨Nat.le_refl _, Nat.le_refl _⟩)
set_option maxRecDepth 100000 in
set_option maxHeartbeats 4000000 in
theorem lc_12 (C : lwC p l s m b N xs meth c g) (hd : 60 ≤ d ∧ d ≤ 1000) (hk : k0.1 ≤ 599 ∧ k0.2 ≤ 3594) (hi : 0 ≤ i ∧ i + 7 ≤ N) {t dd rr : Nat} {σ : Sg} {P J : Int} (hR : RR σ t dd P J) (K : lwK p l e s m b below meth c g i k0) : pL p l e s m b below meth c g k0 878 [(3, 0), (16, 0), (87, 0), (138, 0), (0, i), u, v] [] (Wd [] t dd rr σ) := by
  obtain ⟨r1, σ1, h1, h2⟩ := rx_look (d + 1) (by omega) [] t dd rr σ P J (xv xs (i + 1)) (xv xs (i + 2)) hR
  refine s_aload_n (Φ := Ev 0) (E := fun _ _ => False) C.1 (show decode cL_law 878 = .ok (.aload_n 1, 1) by decide +kernel) rfl ⟨16, 0, rfl, by decide, by decide, ?_⟩
  refine ml_x C hi (j := 1) (by omega) (show decode cL_law 879 = .ok (.aload_n 0, 1) ∧ decode cL_law (879 + 1) = .ok (.iload 4, 2) ∧ decode cL_law (879 + 3) = .ok (.iconst 1, 1) ∧ decode cL_law (879 + 4) = .ok (.iadd, 1) ∧ decode cL_law (879 + 5) = .ok (.iaload, 1) by decide +kernel) ?_
  refine ml_x C hi (j := 2) (by omega) (show decode cL_law 885 = .ok (.aload_n 0, 1) ∧ decode cL_law (885 + 1) = .ok (.iload 4, 2) ∧ decode cL_law (885 + 3) = .ok (.iconst 2, 1) ∧ decode cL_law (885 + 4) = .ok (.iadd, 1) ∧ decode cL_law (885 + 5) = .ok (.iaload, 1) by decide +kernel) ?_
  refine s_aload_n (Φ := Ev 0) (E := fun _ _ => False) C.1 (show decode cL_law 891 = .ok (.aload_n 3, 1) by decide +kernel) rfl ⟨138, 0, rfl, by decide, by decide, ?_⟩
  rcases (h2 0).choose_spec.choose_spec.2.2.1 with ⟨q, -⟩ | ⟨q, -⟩
  · obtain ⟨x, σ2, h3, hy, hT, P2, J2, hR2⟩ := h2 (h2 0).choose
    rcases hT with ⟨q2, hT⟩ | ⟨q2, hT⟩
    · rw [q] at q2
      have ex : (h2 0).choose = x := (Prod.mk.inj q2).2
      rw [q] at h1
      rw [ex] at h1 h3 hy
      refine lhr_look C (hkk hk) hd.2 (show decode cL_law 892 = .ok (.invokestatic 97, 3) by decide +kernel) (by simp) rfl rfl h1 ?_
      refine ml_st5 C (show decode cL_law 895 = .ok (.istore 5, 2) by decide +kernel) ?_
      refine s_aload_n (Φ := Ev 0) (E := fun _ _ => False) C.1 (show decode cL_law 897 = .ok (.aload_n 2, 1) by decide +kernel) rfl ⟨87, 0, rfl, by decide, by decide, ?_⟩
      refine ml_x C hi (j := 1) (by omega) (show decode cL_law 898 = .ok (.aload_n 0, 1) ∧ decode cL_law (898 + 1) = .ok (.iload 4, 2) ∧ decode cL_law (898 + 3) = .ok (.iconst 1, 1) ∧ decode cL_law (898 + 4) = .ok (.iadd, 1) ∧ decode cL_law (898 + 5) = .ok (.iaload, 1) by decide +kernel) ?_
      refine ml_x C hi (j := 2) (by omega) (show decode cL_law 904 = .ok (.aload_n 0, 1) ∧ decode cL_law (904 + 1) = .ok (.iload 4, 2) ∧ decode cL_law (904 + 3) = .ok (.iconst 2, 1) ∧ decode cL_law (904 + 4) = .ok (.iadd, 1) ∧ decode cL_law (904 + 5) = .ok (.iaload, 1) by decide +kernel) ?_
      refine lk_X10_look C (hkk hk) hd.2 (show decode cL_law 910 = .ok (.invokevirtual 99, 3) by decide +kernel) (by simp [cat]) rfl h3 ?_
      exact lt_end C (hkk hk) hd.2 (show decode cL_law 913 = .ok (.istore 6, 2) ∧ decode cL_law (913 + 2) = .ok (.aload_n 2, 1) ∧ decode cL_law (913 + 3) = .ok (.invokevirtual 78, 3) ∧ decode cL_law (913 + 6) = .ok (.iload 5, 2) ∧ decode cL_law (913 + 8) = .ok (.if_icmp .eq 5, 3) ∧ decode cL_law (913 + 13) = .ok (.iload 5, 2) ∧ decode cL_law (913 + 15) = .ok (.ifCond .ne 15, 3) ∧ decode cL_law (913 + 18) = .ok (.aload_n 3, 1) ∧ decode cL_law (913 + 19) = .ok (.iconst 0, 1) ∧ decode cL_law (913 + 20) = .ok (.laload, 1) ∧ decode cL_law (913 + 21) = .ok (.iload 6, 2) ∧ decode cL_law (913 + 23) = .ok (.i2l, 1) ∧ decode cL_law (913 + 24) = .ok (.lcmp, 1) ∧ decode cL_law (913 + 25) = .ok (.ifCond .eq 5, 3) ∧ decode cL_law (913 + 30) = .ok (.goto 519, 3) by decide +kernel) rfl hT (Or.inr hy) (K _ _ _ _ _ _ k0 _ _ hR2 ⟨by omega, by omega⟩)
    · rw [q] at q2; exact absurd (Prod.mk.inj q2).1 (by decide)
  · obtain ⟨x, σ2, h3, hy, hT, P2, J2, hR2⟩ := h2 (σ1 122 0)
    rw [up2_self] at h3
    rcases hT with ⟨q2, hT⟩ | ⟨q2, hT⟩
    · rw [q] at q2; exact absurd (Prod.mk.inj q2).1 (by decide)
    · rw [q] at h1
      refine lht_look C hk ⟨by omega, hd.2⟩ (show decode cL_law 892 = .ok (.invokestatic 97, 3) by decide +kernel) (by simp) rfl h1 ?_
      refine ml_st5 C (show decode cL_law 895 = .ok (.istore 5, 2) by decide +kernel) ?_
      refine s_aload_n (Φ := Ev 0) (E := fun _ _ => False) C.1 (show decode cL_law 897 = .ok (.aload_n 2, 1) by decide +kernel) rfl ⟨87, 0, rfl, by decide, by decide, ?_⟩
      refine ml_x C hi (j := 1) (by omega) (show decode cL_law 898 = .ok (.aload_n 0, 1) ∧ decode cL_law (898 + 1) = .ok (.iload 4, 2) ∧ decode cL_law (898 + 3) = .ok (.iconst 1, 1) ∧ decode cL_law (898 + 4) = .ok (.iadd, 1) ∧ decode cL_law (898 + 5) = .ok (.iaload, 1) by decide +kernel) ?_
      refine ml_x C hi (j := 2) (by omega) (show decode cL_law 904 = .ok (.aload_n 0, 1) ∧ decode cL_law (904 + 1) = .ok (.iload 4, 2) ∧ decode cL_law (904 + 3) = .ok (.iconst 2, 1) ∧ decode cL_law (904 + 4) = .ok (.iadd, 1) ∧ decode cL_law (904 + 5) = .ok (.iaload, 1) by decide +kernel) ?_
      refine lk_X10_look C (hk1 hk) hd.2 (show decode cL_law 910 = .ok (.invokevirtual 99, 3) by decide +kernel) (by simp [cat]) rfl h3 ?_
      exact lt_end C (hk1 hk) hd.2 (show decode cL_law 913 = .ok (.istore 6, 2) ∧ decode cL_law (913 + 2) = .ok (.aload_n 2, 1) ∧ decode cL_law (913 + 3) = .ok (.invokevirtual 78, 3) ∧ decode cL_law (913 + 6) = .ok (.iload 5, 2) ∧ decode cL_law (913 + 8) = .ok (.if_icmp .eq 5, 3) ∧ decode cL_law (913 + 13) = .ok (.iload 5, 2) ∧ decode cL_law (913 + 15) = .ok (.ifCond .ne 15, 3) ∧ decode cL_law (913 + 18) = .ok (.aload_n 3, 1) ∧ decode cL_law (913 + 19) = .ok (.iconst 0, 1) ∧ decode cL_law (913 + 20) = .ok (.laload, 1) ∧ decode cL_law (913 + 21) = .ok (.iload 6, 2) ∧ decode cL_law (913 + 23) = .ok (.i2l, 1) ∧ decode cL_law (913 + 24) = .ok (.lcmp, 1) ∧ decode cL_law (913 + 25) = .ok (.ifCond .eq 5, 3) ∧ decode cL_law (913 + 30) = .ok (.goto 519, 3) by decide +kernel) rfl hT (Or.inl (by decide)) (K _ _ _ _ _ _ (k0.1 + 1, k0.2 + 6) _ _ hR2 ⟨Nat.le_refl _, Nat.le_refl _⟩)
set_option maxRecDepth 100000 in
set_option maxHeartbeats 4000000 in
theorem lc_13 (C : lwC p l s m b N xs meth c g) (hd : 60 ≤ d ∧ d ≤ 1000) (hk : k0.1 ≤ 599 ∧ k0.2 ≤ 3594) (hi : 0 ≤ i ∧ i + 7 ≤ N) {t dd rr : Nat} {σ : Sg} {P J : Int} (hR : RR σ t dd P J) (K : lwK p l e s m b below meth c g i k0) : pL p l e s m b below meth c g k0 946 [(3, 0), (16, 0), (87, 0), (138, 0), (0, i), u, v] [] (Wd [] t dd rr σ) := by
  obtain ⟨r1, σ1, h1, h2⟩ := rx_of (d + 1) (by omega) [] t dd rr σ P J (xv xs (i + 1)) (xv xs (i + 2)) (r32_of _).2 hR
  refine s_aload_n (Φ := Ev 0) (E := fun _ _ => False) C.1 (show decode cL_law 946 = .ok (.aload_n 1, 1) by decide +kernel) rfl ⟨16, 0, rfl, by decide, by decide, ?_⟩
  refine ml_x C hi (j := 1) (by omega) (show decode cL_law 947 = .ok (.aload_n 0, 1) ∧ decode cL_law (947 + 1) = .ok (.iload 4, 2) ∧ decode cL_law (947 + 3) = .ok (.iconst 1, 1) ∧ decode cL_law (947 + 4) = .ok (.iadd, 1) ∧ decode cL_law (947 + 5) = .ok (.iaload, 1) by decide +kernel) ?_
  refine ml_x C hi (j := 2) (by omega) (show decode cL_law 953 = .ok (.aload_n 0, 1) ∧ decode cL_law (953 + 1) = .ok (.iload 4, 2) ∧ decode cL_law (953 + 3) = .ok (.iconst 2, 1) ∧ decode cL_law (953 + 4) = .ok (.iadd, 1) ∧ decode cL_law (953 + 5) = .ok (.iaload, 1) by decide +kernel) ?_
  refine s_aload_n (Φ := Ev 0) (E := fun _ _ => False) C.1 (show decode cL_law 959 = .ok (.aload_n 3, 1) by decide +kernel) rfl ⟨138, 0, rfl, by decide, by decide, ?_⟩
  rcases (h2 0).choose_spec.choose_spec.2.2.1 with ⟨q, -⟩ | ⟨q, -⟩
  · obtain ⟨x, σ2, h3, hy, hT, P2, J2, hR2⟩ := h2 (h2 0).choose
    rcases hT with ⟨q2, hT⟩ | ⟨q2, hT⟩
    · rw [q] at q2
      have ex : (h2 0).choose = x := (Prod.mk.inj q2).2
      rw [q] at h1
      rw [ex] at h1 h3 hy
      refine lhr_of C (hkk hk) hd.2 (show decode cL_law 960 = .ok (.invokestatic 100, 3) by decide +kernel) (by simp) rfl rfl h1 ?_
      refine ml_st5 C (show decode cL_law 963 = .ok (.istore 5, 2) by decide +kernel) ?_
      refine s_aload_n (Φ := Ev 0) (E := fun _ _ => False) C.1 (show decode cL_law 965 = .ok (.aload_n 2, 1) by decide +kernel) rfl ⟨87, 0, rfl, by decide, by decide, ?_⟩
      refine ml_x C hi (j := 1) (by omega) (show decode cL_law 966 = .ok (.aload_n 0, 1) ∧ decode cL_law (966 + 1) = .ok (.iload 4, 2) ∧ decode cL_law (966 + 3) = .ok (.iconst 1, 1) ∧ decode cL_law (966 + 4) = .ok (.iadd, 1) ∧ decode cL_law (966 + 5) = .ok (.iaload, 1) by decide +kernel) ?_
      refine ml_x C hi (j := 2) (by omega) (show decode cL_law 972 = .ok (.aload_n 0, 1) ∧ decode cL_law (972 + 1) = .ok (.iload 4, 2) ∧ decode cL_law (972 + 3) = .ok (.iconst 2, 1) ∧ decode cL_law (972 + 4) = .ok (.iadd, 1) ∧ decode cL_law (972 + 5) = .ok (.iaload, 1) by decide +kernel) ?_
      refine lk_X10_of C (hkk hk) hd.2 (show decode cL_law 978 = .ok (.invokevirtual 102, 3) by decide +kernel) (by simp [cat]) rfl h3 ?_
      exact lt_end C (hkk hk) hd.2 (show decode cL_law 981 = .ok (.istore 6, 2) ∧ decode cL_law (981 + 2) = .ok (.aload_n 2, 1) ∧ decode cL_law (981 + 3) = .ok (.invokevirtual 78, 3) ∧ decode cL_law (981 + 6) = .ok (.iload 5, 2) ∧ decode cL_law (981 + 8) = .ok (.if_icmp .eq 5, 3) ∧ decode cL_law (981 + 13) = .ok (.iload 5, 2) ∧ decode cL_law (981 + 15) = .ok (.ifCond .ne 15, 3) ∧ decode cL_law (981 + 18) = .ok (.aload_n 3, 1) ∧ decode cL_law (981 + 19) = .ok (.iconst 0, 1) ∧ decode cL_law (981 + 20) = .ok (.laload, 1) ∧ decode cL_law (981 + 21) = .ok (.iload 6, 2) ∧ decode cL_law (981 + 23) = .ok (.i2l, 1) ∧ decode cL_law (981 + 24) = .ok (.lcmp, 1) ∧ decode cL_law (981 + 25) = .ok (.ifCond .eq 5, 3) ∧ decode cL_law (981 + 30) = .ok (.goto 451, 3) by decide +kernel) rfl hT (Or.inr hy) (K _ _ _ _ _ _ k0 _ _ hR2 ⟨by omega, by omega⟩)
    · rw [q] at q2; exact absurd (Prod.mk.inj q2).1 (by decide)
  · obtain ⟨x, σ2, h3, hy, hT, P2, J2, hR2⟩ := h2 (σ1 122 0)
    rw [up2_self] at h3
    rcases hT with ⟨q2, hT⟩ | ⟨q2, hT⟩
    · rw [q] at q2; exact absurd (Prod.mk.inj q2).1 (by decide)
    · rw [q] at h1
      refine lht_of C hk ⟨by omega, hd.2⟩ (show decode cL_law 960 = .ok (.invokestatic 100, 3) by decide +kernel) (by simp) rfl h1 ?_
      refine ml_st5 C (show decode cL_law 963 = .ok (.istore 5, 2) by decide +kernel) ?_
      refine s_aload_n (Φ := Ev 0) (E := fun _ _ => False) C.1 (show decode cL_law 965 = .ok (.aload_n 2, 1) by decide +kernel) rfl ⟨87, 0, rfl, by decide, by decide, ?_⟩
      refine ml_x C hi (j := 1) (by omega) (show decode cL_law 966 = .ok (.aload_n 0, 1) ∧ decode cL_law (966 + 1) = .ok (.iload 4, 2) ∧ decode cL_law (966 + 3) = .ok (.iconst 1, 1) ∧ decode cL_law (966 + 4) = .ok (.iadd, 1) ∧ decode cL_law (966 + 5) = .ok (.iaload, 1) by decide +kernel) ?_
      refine ml_x C hi (j := 2) (by omega) (show decode cL_law 972 = .ok (.aload_n 0, 1) ∧ decode cL_law (972 + 1) = .ok (.iload 4, 2) ∧ decode cL_law (972 + 3) = .ok (.iconst 2, 1) ∧ decode cL_law (972 + 4) = .ok (.iadd, 1) ∧ decode cL_law (972 + 5) = .ok (.iaload, 1) by decide +kernel) ?_
      refine lk_X10_of C (hk1 hk) hd.2 (show decode cL_law 978 = .ok (.invokevirtual 102, 3) by decide +kernel) (by simp [cat]) rfl h3 ?_
      exact lt_end C (hk1 hk) hd.2 (show decode cL_law 981 = .ok (.istore 6, 2) ∧ decode cL_law (981 + 2) = .ok (.aload_n 2, 1) ∧ decode cL_law (981 + 3) = .ok (.invokevirtual 78, 3) ∧ decode cL_law (981 + 6) = .ok (.iload 5, 2) ∧ decode cL_law (981 + 8) = .ok (.if_icmp .eq 5, 3) ∧ decode cL_law (981 + 13) = .ok (.iload 5, 2) ∧ decode cL_law (981 + 15) = .ok (.ifCond .ne 15, 3) ∧ decode cL_law (981 + 18) = .ok (.aload_n 3, 1) ∧ decode cL_law (981 + 19) = .ok (.iconst 0, 1) ∧ decode cL_law (981 + 20) = .ok (.laload, 1) ∧ decode cL_law (981 + 21) = .ok (.iload 6, 2) ∧ decode cL_law (981 + 23) = .ok (.i2l, 1) ∧ decode cL_law (981 + 24) = .ok (.lcmp, 1) ∧ decode cL_law (981 + 25) = .ok (.ifCond .eq 5, 3) ∧ decode cL_law (981 + 30) = .ok (.goto 451, 3) by decide +kernel) rfl hT (Or.inl (by decide)) (K _ _ _ _ _ _ (k0.1 + 1, k0.2 + 6) _ _ hR2 ⟨Nat.le_refl _, Nat.le_refl _⟩)
set_option maxRecDepth 100000 in
set_option maxHeartbeats 4000000 in
theorem lc_14 (C : lwC p l s m b N xs meth c g) (hd : 60 ≤ d ∧ d ≤ 1000) (hk : k0.1 ≤ 599 ∧ k0.2 ≤ 3594) (hi : 0 ≤ i ∧ i + 7 ≤ N) {t dd rr : Nat} {σ : Sg} {P J : Int} (hR : RR σ t dd P J) (K : lwK p l e s m b below meth c g i k0) : pL p l e s m b below meth c g k0 1014 [(3, 0), (16, 0), (87, 0), (138, 0), (0, i), u, v] [] (Wd [] t dd rr σ) := by
  obtain ⟨r, σ1, σ2, h1, h2, P2, J2, hR2⟩ := rc_asOf (d + 1) (by omega) [] t dd rr σ P J (xv xs (i + 1)) (xv xs (i + 2)) hR
  refine s_aload_n (Φ := Ev 0) (E := fun _ _ => False) C.1 (show decode cL_law 1014 = .ok (.aload_n 1, 1) by decide +kernel) rfl ⟨16, 0, rfl, by decide, by decide, ?_⟩
  refine ml_x C hi (j := 1) (by omega) (show decode cL_law 1015 = .ok (.aload_n 0, 1) ∧ decode cL_law (1015 + 1) = .ok (.iload 4, 2) ∧ decode cL_law (1015 + 3) = .ok (.iconst 1, 1) ∧ decode cL_law (1015 + 4) = .ok (.iadd, 1) ∧ decode cL_law (1015 + 5) = .ok (.iaload, 1) by decide +kernel) ?_
  refine ml_x C hi (j := 2) (by omega) (show decode cL_law 1021 = .ok (.aload_n 0, 1) ∧ decode cL_law (1021 + 1) = .ok (.iload 4, 2) ∧ decode cL_law (1021 + 3) = .ok (.iconst 2, 1) ∧ decode cL_law (1021 + 4) = .ok (.iadd, 1) ∧ decode cL_law (1021 + 5) = .ok (.iaload, 1) by decide +kernel) ?_
  refine lk_X9_asOf C (hkk hk) hd.2 (show decode cL_law 1027 = .ok (.invokevirtual 103, 3) by decide +kernel) (by simp [cat]) rfl h1 ?_
  refine s_aload_n (Φ := Ev 0) (E := fun _ _ => False) C.1 (show decode cL_law 1030 = .ok (.aload_n 2, 1) by decide +kernel) rfl ⟨87, 0, rfl, by decide, by decide, ?_⟩
  refine ml_x C hi (j := 1) (by omega) (show decode cL_law 1031 = .ok (.aload_n 0, 1) ∧ decode cL_law (1031 + 1) = .ok (.iload 4, 2) ∧ decode cL_law (1031 + 3) = .ok (.iconst 1, 1) ∧ decode cL_law (1031 + 4) = .ok (.iadd, 1) ∧ decode cL_law (1031 + 5) = .ok (.iaload, 1) by decide +kernel) ?_
  refine ml_x C hi (j := 2) (by omega) (show decode cL_law 1037 = .ok (.aload_n 0, 1) ∧ decode cL_law (1037 + 1) = .ok (.iload 4, 2) ∧ decode cL_law (1037 + 3) = .ok (.iconst 2, 1) ∧ decode cL_law (1037 + 4) = .ok (.iadd, 1) ∧ decode cL_law (1037 + 5) = .ok (.iaload, 1) by decide +kernel) ?_
  refine lk_X10_asOf C (hkk hk) hd.2 (show decode cL_law 1043 = .ok (.invokevirtual 106, 3) by decide +kernel) (by simp [cat]) rfl h2 ?_
  exact s_ic_eq (Φ := Ev 0) (E := fun _ _ => False) (tg := 1462) C.1 (show decode cL_law 1046 = .ok (.if_icmp .eq 416, 3) by decide +kernel) rfl ⟨_, _, [], rfl, fun _ => K _ _ _ _ _ _ k0 _ _ hR2 ⟨by omega, by omega⟩, fun z => absurd rfl z⟩
set_option maxRecDepth 100000 in
set_option maxHeartbeats 4000000 in
theorem lc_15 (C : lwC p l s m b N xs meth c g) (hd : 60 ≤ d ∧ d ≤ 1000) (hk : k0.1 ≤ 599 ∧ k0.2 ≤ 3594) (hi : 0 ≤ i ∧ i + 7 ≤ N) {t dd rr : Nat} {σ : Sg} {P J : Int} (hR : RR σ t dd P J) (K : lwK p l e s m b below meth c g i k0) : pL p l e s m b below meth c g k0 1051 [(3, 0), (16, 0), (87, 0), (138, 0), (0, i), u, v] [] (Wd [] t dd rr σ) := by
  obtain ⟨r, σ1, σ2, h1, h2, P2, J2, hR2⟩ := rc_cuts (d + 1) (by omega) [] t dd rr σ P J (xv xs (i + 1)) (xv xs (i + 2)) (xv xs (i + 3)) (r32_of _) (r32_of _) hR
  refine s_aload_n (Φ := Ev 0) (E := fun _ _ => False) C.1 (show decode cL_law 1051 = .ok (.aload_n 1, 1) by decide +kernel) rfl ⟨16, 0, rfl, by decide, by decide, ?_⟩
  refine ml_x C hi (j := 1) (by omega) (show decode cL_law 1052 = .ok (.aload_n 0, 1) ∧ decode cL_law (1052 + 1) = .ok (.iload 4, 2) ∧ decode cL_law (1052 + 3) = .ok (.iconst 1, 1) ∧ decode cL_law (1052 + 4) = .ok (.iadd, 1) ∧ decode cL_law (1052 + 5) = .ok (.iaload, 1) by decide +kernel) ?_
  refine ml_x C hi (j := 2) (by omega) (show decode cL_law 1058 = .ok (.aload_n 0, 1) ∧ decode cL_law (1058 + 1) = .ok (.iload 4, 2) ∧ decode cL_law (1058 + 3) = .ok (.iconst 2, 1) ∧ decode cL_law (1058 + 4) = .ok (.iadd, 1) ∧ decode cL_law (1058 + 5) = .ok (.iaload, 1) by decide +kernel) ?_
  refine ml_x C hi (j := 3) (by omega) (show decode cL_law 1064 = .ok (.aload_n 0, 1) ∧ decode cL_law (1064 + 1) = .ok (.iload 4, 2) ∧ decode cL_law (1064 + 3) = .ok (.iconst 3, 1) ∧ decode cL_law (1064 + 4) = .ok (.iadd, 1) ∧ decode cL_law (1064 + 5) = .ok (.iaload, 1) by decide +kernel) ?_
  refine lk_X9_cuts C (hkk hk) hd.2 (show decode cL_law 1070 = .ok (.invokevirtual 107, 3) by decide +kernel) (by simp [cat]) rfl h1 ?_
  refine s_aload_n (Φ := Ev 0) (E := fun _ _ => False) C.1 (show decode cL_law 1073 = .ok (.aload_n 2, 1) by decide +kernel) rfl ⟨87, 0, rfl, by decide, by decide, ?_⟩
  refine ml_x C hi (j := 1) (by omega) (show decode cL_law 1074 = .ok (.aload_n 0, 1) ∧ decode cL_law (1074 + 1) = .ok (.iload 4, 2) ∧ decode cL_law (1074 + 3) = .ok (.iconst 1, 1) ∧ decode cL_law (1074 + 4) = .ok (.iadd, 1) ∧ decode cL_law (1074 + 5) = .ok (.iaload, 1) by decide +kernel) ?_
  refine ml_x C hi (j := 2) (by omega) (show decode cL_law 1080 = .ok (.aload_n 0, 1) ∧ decode cL_law (1080 + 1) = .ok (.iload 4, 2) ∧ decode cL_law (1080 + 3) = .ok (.iconst 2, 1) ∧ decode cL_law (1080 + 4) = .ok (.iadd, 1) ∧ decode cL_law (1080 + 5) = .ok (.iaload, 1) by decide +kernel) ?_
  refine ml_x C hi (j := 3) (by omega) (show decode cL_law 1086 = .ok (.aload_n 0, 1) ∧ decode cL_law (1086 + 1) = .ok (.iload 4, 2) ∧ decode cL_law (1086 + 3) = .ok (.iconst 3, 1) ∧ decode cL_law (1086 + 4) = .ok (.iadd, 1) ∧ decode cL_law (1086 + 5) = .ok (.iaload, 1) by decide +kernel) ?_
  refine lk_X10_cuts C (hkk hk) hd.2 (show decode cL_law 1092 = .ok (.invokevirtual 111, 3) by decide +kernel) (by simp [cat]) rfl h2 ?_
  exact s_ic_eq (Φ := Ev 0) (E := fun _ _ => False) (tg := 1462) C.1 (show decode cL_law 1095 = .ok (.if_icmp .eq 367, 3) by decide +kernel) rfl ⟨_, _, [], rfl, fun _ => K _ _ _ _ _ _ k0 _ _ hR2 ⟨by omega, by omega⟩, fun z => absurd rfl z⟩
set_option maxRecDepth 100000 in
set_option maxHeartbeats 4000000 in
theorem lc_16 (C : lwC p l s m b N xs meth c g) (hd : 60 ≤ d ∧ d ≤ 1000) (hk : k0.1 ≤ 599 ∧ k0.2 ≤ 3594) (hi : 0 ≤ i ∧ i + 7 ≤ N) {t dd rr : Nat} {σ : Sg} {P J : Int} (hR : RR σ t dd P J) (K : lwK p l e s m b below meth c g i k0) : pL p l e s m b below meth c g k0 1100 [(3, 0), (16, 0), (87, 0), (138, 0), (0, i), u, v] [] (Wd [] t dd rr σ) := by
  obtain ⟨r1, σ1, h1, h2⟩ := rx_cobble (d + 1) (by omega) [] t dd rr σ P J (xv xs (i + 1)) (xv xs (i + 2)) hR
  refine s_aload_n (Φ := Ev 0) (E := fun _ _ => False) C.1 (show decode cL_law 1100 = .ok (.aload_n 1, 1) by decide +kernel) rfl ⟨16, 0, rfl, by decide, by decide, ?_⟩
  refine ml_x C hi (j := 1) (by omega) (show decode cL_law 1101 = .ok (.aload_n 0, 1) ∧ decode cL_law (1101 + 1) = .ok (.iload 4, 2) ∧ decode cL_law (1101 + 3) = .ok (.iconst 1, 1) ∧ decode cL_law (1101 + 4) = .ok (.iadd, 1) ∧ decode cL_law (1101 + 5) = .ok (.iaload, 1) by decide +kernel) ?_
  refine ml_x C hi (j := 2) (by omega) (show decode cL_law 1107 = .ok (.aload_n 0, 1) ∧ decode cL_law (1107 + 1) = .ok (.iload 4, 2) ∧ decode cL_law (1107 + 3) = .ok (.iconst 2, 1) ∧ decode cL_law (1107 + 4) = .ok (.iadd, 1) ∧ decode cL_law (1107 + 5) = .ok (.iaload, 1) by decide +kernel) ?_
  refine s_aload_n (Φ := Ev 0) (E := fun _ _ => False) C.1 (show decode cL_law 1113 = .ok (.aload_n 3, 1) by decide +kernel) rfl ⟨138, 0, rfl, by decide, by decide, ?_⟩
  rcases (h2 0).choose_spec.choose_spec.2.2.1 with ⟨q, -⟩ | ⟨q, -⟩
  · obtain ⟨x, σ2, h3, hy, hT, P2, J2, hR2⟩ := h2 (h2 0).choose
    rcases hT with ⟨q2, hT⟩ | ⟨q2, hT⟩
    · rw [q] at q2
      have ex : (h2 0).choose = x := (Prod.mk.inj q2).2
      rw [q] at h1
      rw [ex] at h1 h3 hy
      refine lhr_cobble C (hkk hk) hd.2 (show decode cL_law 1114 = .ok (.invokestatic 112, 3) by decide +kernel) (by simp) rfl rfl h1 ?_
      refine ml_st5 C (show decode cL_law 1117 = .ok (.istore 5, 2) by decide +kernel) ?_
      refine s_aload_n (Φ := Ev 0) (E := fun _ _ => False) C.1 (show decode cL_law 1119 = .ok (.aload_n 2, 1) by decide +kernel) rfl ⟨87, 0, rfl, by decide, by decide, ?_⟩
      refine ml_x C hi (j := 1) (by omega) (show decode cL_law 1120 = .ok (.aload_n 0, 1) ∧ decode cL_law (1120 + 1) = .ok (.iload 4, 2) ∧ decode cL_law (1120 + 3) = .ok (.iconst 1, 1) ∧ decode cL_law (1120 + 4) = .ok (.iadd, 1) ∧ decode cL_law (1120 + 5) = .ok (.iaload, 1) by decide +kernel) ?_
      refine ml_x C hi (j := 2) (by omega) (show decode cL_law 1126 = .ok (.aload_n 0, 1) ∧ decode cL_law (1126 + 1) = .ok (.iload 4, 2) ∧ decode cL_law (1126 + 3) = .ok (.iconst 2, 1) ∧ decode cL_law (1126 + 4) = .ok (.iadd, 1) ∧ decode cL_law (1126 + 5) = .ok (.iaload, 1) by decide +kernel) ?_
      refine lk_X10_cobble C (hkk hk) hd.2 (show decode cL_law 1132 = .ok (.invokevirtual 114, 3) by decide +kernel) (by simp [cat]) rfl h3 ?_
      exact lt_end C (hkk hk) hd.2 (show decode cL_law 1135 = .ok (.istore 6, 2) ∧ decode cL_law (1135 + 2) = .ok (.aload_n 2, 1) ∧ decode cL_law (1135 + 3) = .ok (.invokevirtual 78, 3) ∧ decode cL_law (1135 + 6) = .ok (.iload 5, 2) ∧ decode cL_law (1135 + 8) = .ok (.if_icmp .eq 5, 3) ∧ decode cL_law (1135 + 13) = .ok (.iload 5, 2) ∧ decode cL_law (1135 + 15) = .ok (.ifCond .ne 15, 3) ∧ decode cL_law (1135 + 18) = .ok (.aload_n 3, 1) ∧ decode cL_law (1135 + 19) = .ok (.iconst 0, 1) ∧ decode cL_law (1135 + 20) = .ok (.laload, 1) ∧ decode cL_law (1135 + 21) = .ok (.iload 6, 2) ∧ decode cL_law (1135 + 23) = .ok (.i2l, 1) ∧ decode cL_law (1135 + 24) = .ok (.lcmp, 1) ∧ decode cL_law (1135 + 25) = .ok (.ifCond .eq 5, 3) ∧ decode cL_law (1135 + 30) = .ok (.goto 297, 3) by decide +kernel) rfl hT (Or.inr hy) (K _ _ _ _ _ _ k0 _ _ hR2 ⟨by omega, by omega⟩)
    · rw [q] at q2; exact absurd (Prod.mk.inj q2).1 (by decide)
  · obtain ⟨x, σ2, h3, hy, hT, P2, J2, hR2⟩ := h2 (σ1 122 0)
    rw [up2_self] at h3
    rcases hT with ⟨q2, hT⟩ | ⟨q2, hT⟩
    · rw [q] at q2; exact absurd (Prod.mk.inj q2).1 (by decide)
    · rw [q] at h1
      refine lht_cobble C hk ⟨by omega, hd.2⟩ (show decode cL_law 1114 = .ok (.invokestatic 112, 3) by decide +kernel) (by simp) rfl h1 ?_
      refine ml_st5 C (show decode cL_law 1117 = .ok (.istore 5, 2) by decide +kernel) ?_
      refine s_aload_n (Φ := Ev 0) (E := fun _ _ => False) C.1 (show decode cL_law 1119 = .ok (.aload_n 2, 1) by decide +kernel) rfl ⟨87, 0, rfl, by decide, by decide, ?_⟩
      refine ml_x C hi (j := 1) (by omega) (show decode cL_law 1120 = .ok (.aload_n 0, 1) ∧ decode cL_law (1120 + 1) = .ok (.iload 4, 2) ∧ decode cL_law (1120 + 3) = .ok (.iconst 1, 1) ∧ decode cL_law (1120 + 4) = .ok (.iadd, 1) ∧ decode cL_law (1120 + 5) = .ok (.iaload, 1) by decide +kernel) ?_
      refine ml_x C hi (j := 2) (by omega) (show decode cL_law 1126 = .ok (.aload_n 0, 1) ∧ decode cL_law (1126 + 1) = .ok (.iload 4, 2) ∧ decode cL_law (1126 + 3) = .ok (.iconst 2, 1) ∧ decode cL_law (1126 + 4) = .ok (.iadd, 1) ∧ decode cL_law (1126 + 5) = .ok (.iaload, 1) by decide +kernel) ?_
      refine lk_X10_cobble C (hk1 hk) hd.2 (show decode cL_law 1132 = .ok (.invokevirtual 114, 3) by decide +kernel) (by simp [cat]) rfl h3 ?_
      exact lt_end C (hk1 hk) hd.2 (show decode cL_law 1135 = .ok (.istore 6, 2) ∧ decode cL_law (1135 + 2) = .ok (.aload_n 2, 1) ∧ decode cL_law (1135 + 3) = .ok (.invokevirtual 78, 3) ∧ decode cL_law (1135 + 6) = .ok (.iload 5, 2) ∧ decode cL_law (1135 + 8) = .ok (.if_icmp .eq 5, 3) ∧ decode cL_law (1135 + 13) = .ok (.iload 5, 2) ∧ decode cL_law (1135 + 15) = .ok (.ifCond .ne 15, 3) ∧ decode cL_law (1135 + 18) = .ok (.aload_n 3, 1) ∧ decode cL_law (1135 + 19) = .ok (.iconst 0, 1) ∧ decode cL_law (1135 + 20) = .ok (.laload, 1) ∧ decode cL_law (1135 + 21) = .ok (.iload 6, 2) ∧ decode cL_law (1135 + 23) = .ok (.i2l, 1) ∧ decode cL_law (1135 + 24) = .ok (.lcmp, 1) ∧ decode cL_law (1135 + 25) = .ok (.ifCond .eq 5, 3) ∧ decode cL_law (1135 + 30) = .ok (.goto 297, 3) by decide +kernel) rfl hT (Or.inl (by decide)) (K _ _ _ _ _ _ (k0.1 + 1, k0.2 + 6) _ _ hR2 ⟨Nat.le_refl _, Nat.le_refl _⟩)
set_option maxRecDepth 100000 in
set_option maxHeartbeats 4000000 in
theorem lc_17 (C : lwC p l s m b N xs meth c g) (hd : 60 ≤ d ∧ d ≤ 1000) (hk : k0.1 ≤ 599 ∧ k0.2 ≤ 3594) (hi : 0 ≤ i ∧ i + 7 ≤ N) {t dd rr : Nat} {σ : Sg} {P J : Int} (hR : RR σ t dd P J) (K : lwK p l e s m b below meth c g i k0) : pL p l e s m b below meth c g k0 1168 [(3, 0), (16, 0), (87, 0), (138, 0), (0, i), u, v] [] (Wd [] t dd rr σ) := by
  obtain ⟨r, σ1, σ2, h1, h2, P2, J2, hR2⟩ := rc_blow (d + 1) (by omega) [] t dd rr σ P J (xv xs (i + 1)) (xv xs (i + 2)) hR
  refine s_aload_n (Φ := Ev 0) (E := fun _ _ => False) C.1 (show decode cL_law 1168 = .ok (.aload_n 1, 1) by decide +kernel) rfl ⟨16, 0, rfl, by decide, by decide, ?_⟩
  refine ml_x C hi (j := 1) (by omega) (show decode cL_law 1169 = .ok (.aload_n 0, 1) ∧ decode cL_law (1169 + 1) = .ok (.iload 4, 2) ∧ decode cL_law (1169 + 3) = .ok (.iconst 1, 1) ∧ decode cL_law (1169 + 4) = .ok (.iadd, 1) ∧ decode cL_law (1169 + 5) = .ok (.iaload, 1) by decide +kernel) ?_
  refine ml_x C hi (j := 2) (by omega) (show decode cL_law 1175 = .ok (.aload_n 0, 1) ∧ decode cL_law (1175 + 1) = .ok (.iload 4, 2) ∧ decode cL_law (1175 + 3) = .ok (.iconst 2, 1) ∧ decode cL_law (1175 + 4) = .ok (.iadd, 1) ∧ decode cL_law (1175 + 5) = .ok (.iaload, 1) by decide +kernel) ?_
  refine lk_X9_blow C (hkk hk) hd.2 (show decode cL_law 1181 = .ok (.invokevirtual 115, 3) by decide +kernel) (by simp [cat]) rfl h1 ?_
  refine s_aload_n (Φ := Ev 0) (E := fun _ _ => False) C.1 (show decode cL_law 1184 = .ok (.aload_n 2, 1) by decide +kernel) rfl ⟨87, 0, rfl, by decide, by decide, ?_⟩
  refine ml_x C hi (j := 1) (by omega) (show decode cL_law 1185 = .ok (.aload_n 0, 1) ∧ decode cL_law (1185 + 1) = .ok (.iload 4, 2) ∧ decode cL_law (1185 + 3) = .ok (.iconst 1, 1) ∧ decode cL_law (1185 + 4) = .ok (.iadd, 1) ∧ decode cL_law (1185 + 5) = .ok (.iaload, 1) by decide +kernel) ?_
  refine ml_x C hi (j := 2) (by omega) (show decode cL_law 1191 = .ok (.aload_n 0, 1) ∧ decode cL_law (1191 + 1) = .ok (.iload 4, 2) ∧ decode cL_law (1191 + 3) = .ok (.iconst 2, 1) ∧ decode cL_law (1191 + 4) = .ok (.iadd, 1) ∧ decode cL_law (1191 + 5) = .ok (.iaload, 1) by decide +kernel) ?_
  refine lk_X10_blow C (hkk hk) hd.2 (show decode cL_law 1197 = .ok (.invokevirtual 118, 3) by decide +kernel) (by simp [cat]) rfl h2 ?_
  exact s_ic_eq (Φ := Ev 0) (E := fun _ _ => False) (tg := 1462) C.1 (show decode cL_law 1200 = .ok (.if_icmp .eq 262, 3) by decide +kernel) rfl ⟨_, _, [], rfl, fun _ => K _ _ _ _ _ _ k0 _ _ hR2 ⟨by omega, by omega⟩, fun z => absurd rfl z⟩
set_option maxRecDepth 100000 in
set_option maxHeartbeats 4000000 in
theorem lc_18 (C : lwC p l s m b N xs meth c g) (hd : 60 ≤ d ∧ d ≤ 1000) (hk : k0.1 ≤ 599 ∧ k0.2 ≤ 3594) (hi : 0 ≤ i ∧ i + 7 ≤ N) {t dd rr : Nat} {σ : Sg} {P J : Int} (hR : RR σ t dd P J) (K : lwK p l e s m b below meth c g i k0) : pL p l e s m b below meth c g k0 1205 [(3, 0), (16, 0), (87, 0), (138, 0), (0, i), u, v] [] (Wd [] t dd rr σ) := by
  obtain ⟨r1, σ1, h1, h2⟩ := rx_seat (d + 1) (by omega) [] t dd rr σ P J (xv xs (i + 1)) (xv xs (i + 2)) (xv xs (i + 3)) hR
  refine s_aload_n (Φ := Ev 0) (E := fun _ _ => False) C.1 (show decode cL_law 1205 = .ok (.aload_n 1, 1) by decide +kernel) rfl ⟨16, 0, rfl, by decide, by decide, ?_⟩
  refine ml_x C hi (j := 1) (by omega) (show decode cL_law 1206 = .ok (.aload_n 0, 1) ∧ decode cL_law (1206 + 1) = .ok (.iload 4, 2) ∧ decode cL_law (1206 + 3) = .ok (.iconst 1, 1) ∧ decode cL_law (1206 + 4) = .ok (.iadd, 1) ∧ decode cL_law (1206 + 5) = .ok (.iaload, 1) by decide +kernel) ?_
  refine ml_x C hi (j := 2) (by omega) (show decode cL_law 1212 = .ok (.aload_n 0, 1) ∧ decode cL_law (1212 + 1) = .ok (.iload 4, 2) ∧ decode cL_law (1212 + 3) = .ok (.iconst 2, 1) ∧ decode cL_law (1212 + 4) = .ok (.iadd, 1) ∧ decode cL_law (1212 + 5) = .ok (.iaload, 1) by decide +kernel) ?_
  refine ml_x C hi (j := 3) (by omega) (show decode cL_law 1218 = .ok (.aload_n 0, 1) ∧ decode cL_law (1218 + 1) = .ok (.iload 4, 2) ∧ decode cL_law (1218 + 3) = .ok (.iconst 3, 1) ∧ decode cL_law (1218 + 4) = .ok (.iadd, 1) ∧ decode cL_law (1218 + 5) = .ok (.iaload, 1) by decide +kernel) ?_
  refine s_aload_n (Φ := Ev 0) (E := fun _ _ => False) C.1 (show decode cL_law 1224 = .ok (.aload_n 3, 1) by decide +kernel) rfl ⟨138, 0, rfl, by decide, by decide, ?_⟩
  rcases (h2 0).choose_spec.choose_spec.2.2.1 with ⟨q, -⟩ | ⟨q, -⟩
  · obtain ⟨x, σ2, h3, hy, hT, P2, J2, hR2⟩ := h2 (h2 0).choose
    rcases hT with ⟨q2, hT⟩ | ⟨q2, hT⟩
    · rw [q] at q2
      have ex : (h2 0).choose = x := (Prod.mk.inj q2).2
      rw [q] at h1
      rw [ex] at h1 h3 hy
      refine lhr_seat C (hkk hk) hd.2 (show decode cL_law 1225 = .ok (.invokestatic 119, 3) by decide +kernel) (by simp) rfl rfl h1 ?_
      refine ml_st5 C (show decode cL_law 1228 = .ok (.istore 5, 2) by decide +kernel) ?_
      refine s_aload_n (Φ := Ev 0) (E := fun _ _ => False) C.1 (show decode cL_law 1230 = .ok (.aload_n 2, 1) by decide +kernel) rfl ⟨87, 0, rfl, by decide, by decide, ?_⟩
      refine ml_x C hi (j := 1) (by omega) (show decode cL_law 1231 = .ok (.aload_n 0, 1) ∧ decode cL_law (1231 + 1) = .ok (.iload 4, 2) ∧ decode cL_law (1231 + 3) = .ok (.iconst 1, 1) ∧ decode cL_law (1231 + 4) = .ok (.iadd, 1) ∧ decode cL_law (1231 + 5) = .ok (.iaload, 1) by decide +kernel) ?_
      refine ml_x C hi (j := 2) (by omega) (show decode cL_law 1237 = .ok (.aload_n 0, 1) ∧ decode cL_law (1237 + 1) = .ok (.iload 4, 2) ∧ decode cL_law (1237 + 3) = .ok (.iconst 2, 1) ∧ decode cL_law (1237 + 4) = .ok (.iadd, 1) ∧ decode cL_law (1237 + 5) = .ok (.iaload, 1) by decide +kernel) ?_
      refine ml_x C hi (j := 3) (by omega) (show decode cL_law 1243 = .ok (.aload_n 0, 1) ∧ decode cL_law (1243 + 1) = .ok (.iload 4, 2) ∧ decode cL_law (1243 + 3) = .ok (.iconst 3, 1) ∧ decode cL_law (1243 + 4) = .ok (.iadd, 1) ∧ decode cL_law (1243 + 5) = .ok (.iaload, 1) by decide +kernel) ?_
      refine lk_X10_seat C (hkk hk) hd.2 (show decode cL_law 1249 = .ok (.invokevirtual 121, 3) by decide +kernel) (by simp [cat]) rfl h3 ?_
      exact lt_end C (hkk hk) hd.2 (show decode cL_law 1252 = .ok (.istore 6, 2) ∧ decode cL_law (1252 + 2) = .ok (.aload_n 2, 1) ∧ decode cL_law (1252 + 3) = .ok (.invokevirtual 78, 3) ∧ decode cL_law (1252 + 6) = .ok (.iload 5, 2) ∧ decode cL_law (1252 + 8) = .ok (.if_icmp .eq 5, 3) ∧ decode cL_law (1252 + 13) = .ok (.iload 5, 2) ∧ decode cL_law (1252 + 15) = .ok (.ifCond .ne 15, 3) ∧ decode cL_law (1252 + 18) = .ok (.aload_n 3, 1) ∧ decode cL_law (1252 + 19) = .ok (.iconst 0, 1) ∧ decode cL_law (1252 + 20) = .ok (.laload, 1) ∧ decode cL_law (1252 + 21) = .ok (.iload 6, 2) ∧ decode cL_law (1252 + 23) = .ok (.i2l, 1) ∧ decode cL_law (1252 + 24) = .ok (.lcmp, 1) ∧ decode cL_law (1252 + 25) = .ok (.ifCond .eq 5, 3) ∧ decode cL_law (1252 + 30) = .ok (.goto 180, 3) by decide +kernel) rfl hT (Or.inr hy) (K _ _ _ _ _ _ k0 _ _ hR2 ⟨by omega, by omega⟩)
    · rw [q] at q2; exact absurd (Prod.mk.inj q2).1 (by decide)
  · obtain ⟨x, σ2, h3, hy, hT, P2, J2, hR2⟩ := h2 (σ1 122 0)
    rw [up2_self] at h3
    rcases hT with ⟨q2, hT⟩ | ⟨q2, hT⟩
    · rw [q] at q2; exact absurd (Prod.mk.inj q2).1 (by decide)
    · rw [q] at h1
      refine lht_seat C hk ⟨by omega, hd.2⟩ (show decode cL_law 1225 = .ok (.invokestatic 119, 3) by decide +kernel) (by simp) rfl h1 ?_
      refine ml_st5 C (show decode cL_law 1228 = .ok (.istore 5, 2) by decide +kernel) ?_
      refine s_aload_n (Φ := Ev 0) (E := fun _ _ => False) C.1 (show decode cL_law 1230 = .ok (.aload_n 2, 1) by decide +kernel) rfl ⟨87, 0, rfl, by decide, by decide, ?_⟩
      refine ml_x C hi (j := 1) (by omega) (show decode cL_law 1231 = .ok (.aload_n 0, 1) ∧ decode cL_law (1231 + 1) = .ok (.iload 4, 2) ∧ decode cL_law (1231 + 3) = .ok (.iconst 1, 1) ∧ decode cL_law (1231 + 4) = .ok (.iadd, 1) ∧ decode cL_law (1231 + 5) = .ok (.iaload, 1) by decide +kernel) ?_
      refine ml_x C hi (j := 2) (by omega) (show decode cL_law 1237 = .ok (.aload_n 0, 1) ∧ decode cL_law (1237 + 1) = .ok (.iload 4, 2) ∧ decode cL_law (1237 + 3) = .ok (.iconst 2, 1) ∧ decode cL_law (1237 + 4) = .ok (.iadd, 1) ∧ decode cL_law (1237 + 5) = .ok (.iaload, 1) by decide +kernel) ?_
      refine ml_x C hi (j := 3) (by omega) (show decode cL_law 1243 = .ok (.aload_n 0, 1) ∧ decode cL_law (1243 + 1) = .ok (.iload 4, 2) ∧ decode cL_law (1243 + 3) = .ok (.iconst 3, 1) ∧ decode cL_law (1243 + 4) = .ok (.iadd, 1) ∧ decode cL_law (1243 + 5) = .ok (.iaload, 1) by decide +kernel) ?_
      refine lk_X10_seat C (hk1 hk) hd.2 (show decode cL_law 1249 = .ok (.invokevirtual 121, 3) by decide +kernel) (by simp [cat]) rfl h3 ?_
      exact lt_end C (hk1 hk) hd.2 (show decode cL_law 1252 = .ok (.istore 6, 2) ∧ decode cL_law (1252 + 2) = .ok (.aload_n 2, 1) ∧ decode cL_law (1252 + 3) = .ok (.invokevirtual 78, 3) ∧ decode cL_law (1252 + 6) = .ok (.iload 5, 2) ∧ decode cL_law (1252 + 8) = .ok (.if_icmp .eq 5, 3) ∧ decode cL_law (1252 + 13) = .ok (.iload 5, 2) ∧ decode cL_law (1252 + 15) = .ok (.ifCond .ne 15, 3) ∧ decode cL_law (1252 + 18) = .ok (.aload_n 3, 1) ∧ decode cL_law (1252 + 19) = .ok (.iconst 0, 1) ∧ decode cL_law (1252 + 20) = .ok (.laload, 1) ∧ decode cL_law (1252 + 21) = .ok (.iload 6, 2) ∧ decode cL_law (1252 + 23) = .ok (.i2l, 1) ∧ decode cL_law (1252 + 24) = .ok (.lcmp, 1) ∧ decode cL_law (1252 + 25) = .ok (.ifCond .eq 5, 3) ∧ decode cL_law (1252 + 30) = .ok (.goto 180, 3) by decide +kernel) rfl hT (Or.inl (by decide)) (K _ _ _ _ _ _ (k0.1 + 1, k0.2 + 6) _ _ hR2 ⟨Nat.le_refl _, Nat.le_refl _⟩)
set_option maxRecDepth 100000 in
set_option maxHeartbeats 4000000 in
theorem lc_19 (C : lwC p l s m b N xs meth c g) (hd : 60 ≤ d ∧ d ≤ 1000) (hk : k0.1 ≤ 599 ∧ k0.2 ≤ 3594) (hi : 0 ≤ i ∧ i + 7 ≤ N) {t dd rr : Nat} {σ : Sg} {P J : Int} (hR : RR σ t dd P J) (K : lwK p l e s m b below meth c g i k0) : pL p l e s m b below meth c g k0 1285 [(3, 0), (16, 0), (87, 0), (138, 0), (0, i), u, v] [] (Wd [] t dd rr σ) := by
  obtain ⟨r, σ1, σ2, h1, h2, P2, J2, hR2⟩ := rc_foot (d + 1) (by omega) [] t dd rr σ P J (xv xs (i + 1)) (xv xs (i + 2)) (xv xs (i + 3)) hR
  refine s_aload_n (Φ := Ev 0) (E := fun _ _ => False) C.1 (show decode cL_law 1285 = .ok (.aload_n 1, 1) by decide +kernel) rfl ⟨16, 0, rfl, by decide, by decide, ?_⟩
  refine ml_x C hi (j := 1) (by omega) (show decode cL_law 1286 = .ok (.aload_n 0, 1) ∧ decode cL_law (1286 + 1) = .ok (.iload 4, 2) ∧ decode cL_law (1286 + 3) = .ok (.iconst 1, 1) ∧ decode cL_law (1286 + 4) = .ok (.iadd, 1) ∧ decode cL_law (1286 + 5) = .ok (.iaload, 1) by decide +kernel) ?_
  refine ml_x C hi (j := 2) (by omega) (show decode cL_law 1292 = .ok (.aload_n 0, 1) ∧ decode cL_law (1292 + 1) = .ok (.iload 4, 2) ∧ decode cL_law (1292 + 3) = .ok (.iconst 2, 1) ∧ decode cL_law (1292 + 4) = .ok (.iadd, 1) ∧ decode cL_law (1292 + 5) = .ok (.iaload, 1) by decide +kernel) ?_
  refine ml_x C hi (j := 3) (by omega) (show decode cL_law 1298 = .ok (.aload_n 0, 1) ∧ decode cL_law (1298 + 1) = .ok (.iload 4, 2) ∧ decode cL_law (1298 + 3) = .ok (.iconst 3, 1) ∧ decode cL_law (1298 + 4) = .ok (.iadd, 1) ∧ decode cL_law (1298 + 5) = .ok (.iaload, 1) by decide +kernel) ?_
  refine lk_X9_foot C (hkk hk) hd.2 (show decode cL_law 1304 = .ok (.invokevirtual 122, 3) by decide +kernel) (by simp [cat]) rfl h1 ?_
  refine s_aload_n (Φ := Ev 0) (E := fun _ _ => False) C.1 (show decode cL_law 1307 = .ok (.aload_n 2, 1) by decide +kernel) rfl ⟨87, 0, rfl, by decide, by decide, ?_⟩
  refine ml_x C hi (j := 1) (by omega) (show decode cL_law 1308 = .ok (.aload_n 0, 1) ∧ decode cL_law (1308 + 1) = .ok (.iload 4, 2) ∧ decode cL_law (1308 + 3) = .ok (.iconst 1, 1) ∧ decode cL_law (1308 + 4) = .ok (.iadd, 1) ∧ decode cL_law (1308 + 5) = .ok (.iaload, 1) by decide +kernel) ?_
  refine ml_x C hi (j := 2) (by omega) (show decode cL_law 1314 = .ok (.aload_n 0, 1) ∧ decode cL_law (1314 + 1) = .ok (.iload 4, 2) ∧ decode cL_law (1314 + 3) = .ok (.iconst 2, 1) ∧ decode cL_law (1314 + 4) = .ok (.iadd, 1) ∧ decode cL_law (1314 + 5) = .ok (.iaload, 1) by decide +kernel) ?_
  refine ml_x C hi (j := 3) (by omega) (show decode cL_law 1320 = .ok (.aload_n 0, 1) ∧ decode cL_law (1320 + 1) = .ok (.iload 4, 2) ∧ decode cL_law (1320 + 3) = .ok (.iconst 3, 1) ∧ decode cL_law (1320 + 4) = .ok (.iadd, 1) ∧ decode cL_law (1320 + 5) = .ok (.iaload, 1) by decide +kernel) ?_
  refine lk_X10_foot C (hkk hk) hd.2 (show decode cL_law 1326 = .ok (.invokevirtual 125, 3) by decide +kernel) (by simp [cat]) rfl h2 ?_
  exact s_ic_eq (Φ := Ev 0) (E := fun _ _ => False) (tg := 1462) C.1 (show decode cL_law 1329 = .ok (.if_icmp .eq 133, 3) by decide +kernel) rfl ⟨_, _, [], rfl, fun _ => K _ _ _ _ _ _ k0 _ _ hR2 ⟨by omega, by omega⟩, fun z => absurd rfl z⟩
set_option maxRecDepth 100000 in
set_option maxHeartbeats 4000000 in
theorem lc_20 (C : lwC p l s m b N xs meth c g) (hd : 60 ≤ d ∧ d ≤ 1000) (hk : k0.1 ≤ 599 ∧ k0.2 ≤ 3594) (hi : 0 ≤ i ∧ i + 7 ≤ N) {t dd rr : Nat} {σ : Sg} {P J : Int} (hR : RR σ t dd P J) (K : lwK p l e s m b below meth c g i k0) : pL p l e s m b below meth c g k0 1334 [(3, 0), (16, 0), (87, 0), (138, 0), (0, i), u, v] [] (Wd [] t dd rr σ) := by
  obtain ⟨r, σ1, σ2, h1, h2, P2, J2, hR2⟩ := rc_hour (d + 1) (by omega) [] t dd rr σ P J (xv xs (i + 1)) hR
  refine s_aload_n (Φ := Ev 0) (E := fun _ _ => False) C.1 (show decode cL_law 1334 = .ok (.aload_n 1, 1) by decide +kernel) rfl ⟨16, 0, rfl, by decide, by decide, ?_⟩
  refine ml_x C hi (j := 1) (by omega) (show decode cL_law 1335 = .ok (.aload_n 0, 1) ∧ decode cL_law (1335 + 1) = .ok (.iload 4, 2) ∧ decode cL_law (1335 + 3) = .ok (.iconst 1, 1) ∧ decode cL_law (1335 + 4) = .ok (.iadd, 1) ∧ decode cL_law (1335 + 5) = .ok (.iaload, 1) by decide +kernel) ?_
  refine lk_X9_hour C (hkk hk) hd.2 (show decode cL_law 1341 = .ok (.invokevirtual 126, 3) by decide +kernel) (by simp [cat]) rfl h1 ?_
  refine s_aload_n (Φ := Ev 0) (E := fun _ _ => False) C.1 (show decode cL_law 1344 = .ok (.aload_n 2, 1) by decide +kernel) rfl ⟨87, 0, rfl, by decide, by decide, ?_⟩
  refine ml_x C hi (j := 1) (by omega) (show decode cL_law 1345 = .ok (.aload_n 0, 1) ∧ decode cL_law (1345 + 1) = .ok (.iload 4, 2) ∧ decode cL_law (1345 + 3) = .ok (.iconst 1, 1) ∧ decode cL_law (1345 + 4) = .ok (.iadd, 1) ∧ decode cL_law (1345 + 5) = .ok (.iaload, 1) by decide +kernel) ?_
  refine lk_X10_hour C (hkk hk) hd.2 (show decode cL_law 1351 = .ok (.invokevirtual 129, 3) by decide +kernel) (by simp [cat]) rfl h2 ?_
  exact s_ic_eq (Φ := Ev 0) (E := fun _ _ => False) (tg := 1462) C.1 (show decode cL_law 1354 = .ok (.if_icmp .eq 108, 3) by decide +kernel) rfl ⟨_, _, [], rfl, fun _ => K _ _ _ _ _ _ k0 _ _ hR2 ⟨by omega, by omega⟩, fun z => absurd rfl z⟩
set_option maxRecDepth 100000 in
set_option maxHeartbeats 4000000 in
theorem lc_21 (C : lwC p l s m b N xs meth c g) (hd : 60 ≤ d ∧ d ≤ 1000) (hk : k0.1 ≤ 599 ∧ k0.2 ≤ 3594) (hi : 0 ≤ i ∧ i + 7 ≤ N) {t dd rr : Nat} {σ : Sg} {P J : Int} (hR : RR σ t dd P J) (K : lwK p l e s m b below meth c g i k0) : pL p l e s m b below meth c g k0 1359 [(3, 0), (16, 0), (87, 0), (138, 0), (0, i), u, v] [] (Wd [] t dd rr σ) := by
  obtain ⟨r, σ1, σ2, h1, h2, P2, J2, hR2⟩ := rc_hands (d + 1) (by omega) [] t dd rr σ P J (xv xs (i + 1)) (xv xs (i + 2)) hR
  refine s_aload_n (Φ := Ev 0) (E := fun _ _ => False) C.1 (show decode cL_law 1359 = .ok (.aload_n 1, 1) by decide +kernel) rfl ⟨16, 0, rfl, by decide, by decide, ?_⟩
  refine ml_x C hi (j := 1) (by omega) (show decode cL_law 1360 = .ok (.aload_n 0, 1) ∧ decode cL_law (1360 + 1) = .ok (.iload 4, 2) ∧ decode cL_law (1360 + 3) = .ok (.iconst 1, 1) ∧ decode cL_law (1360 + 4) = .ok (.iadd, 1) ∧ decode cL_law (1360 + 5) = .ok (.iaload, 1) by decide +kernel) ?_
  refine ml_x C hi (j := 2) (by omega) (show decode cL_law 1366 = .ok (.aload_n 0, 1) ∧ decode cL_law (1366 + 1) = .ok (.iload 4, 2) ∧ decode cL_law (1366 + 3) = .ok (.iconst 2, 1) ∧ decode cL_law (1366 + 4) = .ok (.iadd, 1) ∧ decode cL_law (1366 + 5) = .ok (.iaload, 1) by decide +kernel) ?_
  refine lk_X9_hands C (hkk hk) hd.2 (show decode cL_law 1372 = .ok (.invokevirtual 130, 3) by decide +kernel) (by simp [cat]) rfl h1 ?_
  refine s_aload_n (Φ := Ev 0) (E := fun _ _ => False) C.1 (show decode cL_law 1375 = .ok (.aload_n 2, 1) by decide +kernel) rfl ⟨87, 0, rfl, by decide, by decide, ?_⟩
  refine ml_x C hi (j := 1) (by omega) (show decode cL_law 1376 = .ok (.aload_n 0, 1) ∧ decode cL_law (1376 + 1) = .ok (.iload 4, 2) ∧ decode cL_law (1376 + 3) = .ok (.iconst 1, 1) ∧ decode cL_law (1376 + 4) = .ok (.iadd, 1) ∧ decode cL_law (1376 + 5) = .ok (.iaload, 1) by decide +kernel) ?_
  refine ml_x C hi (j := 2) (by omega) (show decode cL_law 1382 = .ok (.aload_n 0, 1) ∧ decode cL_law (1382 + 1) = .ok (.iload 4, 2) ∧ decode cL_law (1382 + 3) = .ok (.iconst 2, 1) ∧ decode cL_law (1382 + 4) = .ok (.iadd, 1) ∧ decode cL_law (1382 + 5) = .ok (.iaload, 1) by decide +kernel) ?_
  refine lk_X10_hands C (hkk hk) hd.2 (show decode cL_law 1388 = .ok (.invokevirtual 133, 3) by decide +kernel) (by simp [cat]) rfl h2 ?_
  exact s_ic_eq (Φ := Ev 0) (E := fun _ _ => False) (tg := 1462) C.1 (show decode cL_law 1391 = .ok (.if_icmp .eq 71, 3) by decide +kernel) rfl ⟨_, _, [], rfl, fun _ => K _ _ _ _ _ _ k0 _ _ hR2 ⟨by omega, by omega⟩, fun z => absurd rfl z⟩
set_option maxRecDepth 100000 in
set_option maxHeartbeats 4000000 in
theorem lc_22 (C : lwC p l s m b N xs meth c g) (hd : 60 ≤ d ∧ d ≤ 1000) (hk : k0.1 ≤ 599 ∧ k0.2 ≤ 3594) (hi : 0 ≤ i ∧ i + 7 ≤ N) {t dd rr : Nat} {σ : Sg} {P J : Int} (hR : RR σ t dd P J) (K : lwK p l e s m b below meth c g i k0) : pL p l e s m b below meth c g k0 1396 [(3, 0), (16, 0), (87, 0), (138, 0), (0, i), u, v] [] (Wd [] t dd rr σ) := by
  obtain ⟨r, σ1, σ2, h1, h2, P2, J2, hR2⟩ := rc_blind (d + 1) (by omega) [] t dd rr σ P J (bz (xv xs (i + 1))) (bz_01 _) hR
  refine s_aload_n (Φ := Ev 0) (E := fun _ _ => False) C.1 (show decode cL_law 1396 = .ok (.aload_n 1, 1) by decide +kernel) rfl ⟨16, 0, rfl, by decide, by decide, ?_⟩
  refine ml_x C hi (j := 1) (by omega) (show decode cL_law 1397 = .ok (.aload_n 0, 1) ∧ decode cL_law (1397 + 1) = .ok (.iload 4, 2) ∧ decode cL_law (1397 + 3) = .ok (.iconst 1, 1) ∧ decode cL_law (1397 + 4) = .ok (.iadd, 1) ∧ decode cL_law (1397 + 5) = .ok (.iaload, 1) by decide +kernel) ?_
  refine ml_z C (show decode cL_law 1403 = .ok (.ifCond .eq 7, 3) ∧ decode cL_law (1403 + 3) = .ok (.iconst 1, 1) ∧ decode cL_law (1403 + 4) = .ok (.goto 4, 3) ∧ decode cL_law (1403 + 7) = .ok (.iconst 0, 1) by decide +kernel) ?_
  refine lk_X9_blind C (hkk hk) hd.2 (show decode cL_law 1411 = .ok (.invokevirtual 134, 3) by decide +kernel) (by simp [cat]) rfl h1 ?_
  refine s_aload_n (Φ := Ev 0) (E := fun _ _ => False) C.1 (show decode cL_law 1414 = .ok (.aload_n 2, 1) by decide +kernel) rfl ⟨87, 0, rfl, by decide, by decide, ?_⟩
  refine ml_x C hi (j := 1) (by omega) (show decode cL_law 1415 = .ok (.aload_n 0, 1) ∧ decode cL_law (1415 + 1) = .ok (.iload 4, 2) ∧ decode cL_law (1415 + 3) = .ok (.iconst 1, 1) ∧ decode cL_law (1415 + 4) = .ok (.iadd, 1) ∧ decode cL_law (1415 + 5) = .ok (.iaload, 1) by decide +kernel) ?_
  refine ml_z C (show decode cL_law 1421 = .ok (.ifCond .eq 7, 3) ∧ decode cL_law (1421 + 3) = .ok (.iconst 1, 1) ∧ decode cL_law (1421 + 4) = .ok (.goto 4, 3) ∧ decode cL_law (1421 + 7) = .ok (.iconst 0, 1) by decide +kernel) ?_
  refine lk_X10_blind C (hkk hk) hd.2 (show decode cL_law 1429 = .ok (.invokevirtual 138, 3) by decide +kernel) (by simp [cat]) rfl h2 ?_
  exact s_ic_eq (Φ := Ev 0) (E := fun _ _ => False) (tg := 1462) C.1 (show decode cL_law 1432 = .ok (.if_icmp .eq 30, 3) by decide +kernel) rfl ⟨_, _, [], rfl, fun _ => K _ _ _ _ _ _ k0 _ _ hR2 ⟨by omega, by omega⟩, fun z => absurd rfl z⟩
set_option maxRecDepth 100000 in
set_option maxHeartbeats 4000000 in
theorem lc_23 (C : lwC p l s m b N xs meth c g) (hd : 60 ≤ d ∧ d ≤ 1000) (hk : k0.1 ≤ 599 ∧ k0.2 ≤ 3594) (hi : 0 ≤ i ∧ i + 7 ≤ N) {t dd rr : Nat} {σ : Sg} {P J : Int} (hR : RR σ t dd P J) (K : lwK p l e s m b below meth c g i k0) : pL p l e s m b below meth c g k0 1437 [(3, 0), (16, 0), (87, 0), (138, 0), (0, i), u, v] [] (Wd [] t dd rr σ) := by
  have hc : ∃ (r : Int) (σ1 σ2 : Sg), Ev (d + 1) 24 [(16, 0), (0, xv xs (i + 1))] (Wd [] t dd rr σ) (0, r) (Wd [] t dd rr σ1) ∧ Ev (d + 1) 127 [(87, 0), (0, xv xs (i + 1))] (Wd [] t dd rr σ1) (0, r) (Wd [] t dd rr σ2) ∧ ∃ P' J', RR σ2 t dd P' J' := by
    rcases hR.1.2.2.2.2.2.2.1 with ⟨ht, hdd⟩ | ⟨ht, hdd⟩
    · exact rc_count_37 (d + 1) (by omega) [] t dd rr σ P J _ ht hR
    · exact rc_count_44 (d + 1) (by omega) [] t dd rr σ P J _ ht hR
  obtain ⟨r, σ1, σ2, h1, h2, P2, J2, hR2⟩ := hc
  refine s_aload_n (Φ := Ev 0) (E := fun _ _ => False) C.1 (show decode cL_law 1437 = .ok (.aload_n 1, 1) by decide +kernel) rfl ⟨16, 0, rfl, by decide, by decide, ?_⟩
  refine ml_x C hi (j := 1) (by omega) (show decode cL_law 1438 = .ok (.aload_n 0, 1) ∧ decode cL_law (1438 + 1) = .ok (.iload 4, 2) ∧ decode cL_law (1438 + 3) = .ok (.iconst 1, 1) ∧ decode cL_law (1438 + 4) = .ok (.iadd, 1) ∧ decode cL_law (1438 + 5) = .ok (.iaload, 1) by decide +kernel) ?_
  refine lk_X9_count C (hkk hk) hd.2 (show decode cL_law 1444 = .ok (.invokevirtual 139, 3) by decide +kernel) (by simp [cat]) rfl h1 ?_
  refine s_aload_n (Φ := Ev 0) (E := fun _ _ => False) C.1 (show decode cL_law 1447 = .ok (.aload_n 2, 1) by decide +kernel) rfl ⟨87, 0, rfl, by decide, by decide, ?_⟩
  refine ml_x C hi (j := 1) (by omega) (show decode cL_law 1448 = .ok (.aload_n 0, 1) ∧ decode cL_law (1448 + 1) = .ok (.iload 4, 2) ∧ decode cL_law (1448 + 3) = .ok (.iconst 1, 1) ∧ decode cL_law (1448 + 4) = .ok (.iadd, 1) ∧ decode cL_law (1448 + 5) = .ok (.iaload, 1) by decide +kernel) ?_
  refine lk_X10_count C (hkk hk) hd.2 (show decode cL_law 1454 = .ok (.invokevirtual 142, 3) by decide +kernel) (by simp [cat]) rfl h2 ?_
  exact s_ic_eq (Φ := Ev 0) (E := fun _ _ => False) (tg := 1462) C.1 (show decode cL_law 1457 = .ok (.if_icmp .eq 5, 3) by decide +kernel) rfl ⟨_, _, [], rfl, fun _ => K _ _ _ _ _ _ k0 _ _ hR2 ⟨by omega, by omega⟩, fun z => absurd rfl z⟩
theorem lc_all (C : lwC p l s m b N xs meth c g) (hd : 60 ≤ d ∧ d ≤ 1000) (hk : k0.1 ≤ 599 ∧ k0.2 ≤ 3594) (hi : 0 ≤ i ∧ i + 7 ≤ N) {t dd rr : Nat} {σ : Sg} {P J : Int} (hR : RR σ t dd P J) (K : lwK p l e s m b below meth c g i k0) : ∀ tg ∈ [152, 177, 250, 353, 446, 593, 606, 631, 711, 748, 785, 810, 878, 946, 1014, 1051, 1100, 1168, 1205, 1285, 1334, 1359, 1396, 1437], pL p l e s m b below meth c g k0 tg [(3, 0), (16, 0), (87, 0), (138, 0), (0, i), u, v] [] (Wd [] t dd rr σ) :=
  List.forall_mem_cons.mpr ⟨lc_0 C hd hk hi hR K, List.forall_mem_cons.mpr ⟨lc_1 C hd hk hi hR K, List.forall_mem_cons.mpr ⟨lc_2 C hd hk hi hR K, List.forall_mem_cons.mpr ⟨lc_3 C hd hk hi hR K, List.forall_mem_cons.mpr ⟨lc_4 C hd hk hi hR K, List.forall_mem_cons.mpr ⟨lc_5 C hd hk hi hR K, List.forall_mem_cons.mpr ⟨lc_6 C hd hk hi hR K, List.forall_mem_cons.mpr ⟨lc_7 C hd hk hi hR K, List.forall_mem_cons.mpr ⟨lc_8 C hd hk hi hR K, List.forall_mem_cons.mpr ⟨lc_9 C hd hk hi hR K, List.forall_mem_cons.mpr ⟨lc_10 C hd hk hi hR K, List.forall_mem_cons.mpr ⟨lc_11 C hd hk hi hR K, List.forall_mem_cons.mpr ⟨lc_12 C hd hk hi hR K, List.forall_mem_cons.mpr ⟨lc_13 C hd hk hi hR K, List.forall_mem_cons.mpr ⟨lc_14 C hd hk hi hR K, List.forall_mem_cons.mpr ⟨lc_15 C hd hk hi hR K, List.forall_mem_cons.mpr ⟨lc_16 C hd hk hi hR K, List.forall_mem_cons.mpr ⟨lc_17 C hd hk hi hR K, List.forall_mem_cons.mpr ⟨lc_18 C hd hk hi hR K, List.forall_mem_cons.mpr ⟨lc_19 C hd hk hi hR K, List.forall_mem_cons.mpr ⟨lc_20 C hd hk hi hR K, List.forall_mem_cons.mpr ⟨lc_21 C hd hk hi hR K, List.forall_mem_cons.mpr ⟨lc_22 C hd hk hi hR K, List.forall_mem_cons.mpr ⟨lc_23 C hd hk hi hR K, fun _ h => absurd h List.not_mem_nil⟩⟩⟩⟩⟩⟩⟩⟩⟩⟩⟩⟩⟩⟩⟩⟩⟩⟩⟩⟩⟩⟩⟩⟩
end LC

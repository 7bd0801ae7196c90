theorem dt_sval {nx : Nat} : Det (i_sval nx) := fun _ _ _ _ _ _ ⟨a, S', b, c, d, r, w', e, k⟩ => ⟨r, w', e, fun _ hX => ⟨a, S', b, c, d, hX _ _ _ _ k⟩⟩
theorem wk_sval {nx : Nat} : Wk (i_sval nx) := fun _ _ _ _ _ _ _ hr ⟨a, S', b, c, d, k⟩ => ⟨a, S', b, c, d, k _ hr⟩
theorem dt_scod {nx : Nat} : Det (i_scod nx) := fun _ _ _ _ _ _ ⟨a, S', b, c, d, r, w', e, k⟩ => ⟨r, w', e, fun _ hX => ⟨a, S', b, c, d, hX _ _ _ _ k⟩⟩
theorem wk_scod {nx : Nat} : Wk (i_scod nx) := fun _ _ _ _ _ _ _ hr ⟨a, S', b, c, d, k⟩ => ⟨a, S', b, c, d, k _ hr⟩
theorem dt_slen {nx : Nat} : Det (i_slen nx) := fun _ _ _ _ _ _ ⟨a, S', b, c, d, r, w', e, k⟩ => ⟨r, w', e, fun _ hX => ⟨a, S', b, c, d, hX _ _ _ _ k⟩⟩
theorem wk_slen {nx : Nat} : Wk (i_slen nx) := fun _ _ _ _ _ _ _ hr ⟨a, S', b, c, d, k⟩ => ⟨a, S', b, c, d, k _ hr⟩
theorem dt_sbl {nx : Nat} : Det (i_sbl nx) := fun _ _ _ _ _ _ ⟨i, a, S', b, c, d, f, g, r, w', e, k⟩ => ⟨r, w', e, fun _ hX => ⟨i, a, S', b, c, d, f, g, hX _ _ _ _ k⟩⟩
theorem wk_sbl {nx : Nat} : Wk (i_sbl nx) := fun _ _ _ _ _ _ _ hr ⟨i, a, S', b, c, d, f, g, k⟩ => ⟨i, a, S', b, c, d, f, g, k _ hr⟩
theorem dt_i2b {nx : Nat} : Det (i_i2b nx) := fun _ _ _ _ _ _ ⟨a, S', b, r, w', e, k⟩ => ⟨r, w', e, fun _ hX => ⟨a, S', b, hX _ _ _ _ k⟩⟩
theorem wk_i2b {nx : Nat} : Wk (i_i2b nx) := fun _ _ _ _ _ _ _ hr ⟨a, S', b, k⟩ => ⟨a, S', b, k _ hr⟩
theorem dt_invS {μ n nx : Nat} : Det (i_invS μ n nx) := fun _ _ _ _ _ _ ⟨r1, w1, o, as, a, b, c, f, g, h, j, r, w', e, k⟩ => ⟨r, w', e, fun _ hX => ⟨r1, w1, o, as, a, b, c, f, g, h, j, hX _ _ _ _ k⟩⟩
theorem wk_invS {μ n nx : Nat} : Wk (i_invS μ n nx) := fun _ _ _ _ _ _ _ hr ⟨r1, w1, o, as, a, b, c, f, g, h, j, k⟩ => ⟨r1, w1, o, as, a, b, c, f, g, h, j, k _ hr⟩
theorem dt_nret : Det i_nret := fun _ _ _ _ w _ ⟨x, a, b, c, e⟩ => ⟨(0, x), w, e, fun _ _ => ⟨x, a, b, c, rfl, rfl⟩⟩
theorem wk_nret : Wk i_nret := fun _ _ _ _ _ _ _ _ h => h
theorem wk_gq {nx : Nat} : Wk (i_gq nx) := fun _ _ _ _ _ _ _ hr ⟨a, b⟩ => ⟨a _ hr, b _ hr⟩

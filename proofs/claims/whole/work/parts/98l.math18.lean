-- the same blows by functions that agree where it counts
def CG (P : Int) (hs so co who mt hs' so' co' who' mt' : Int → Int) : Prop := (∀ p, 0 ≤ p → p < P → co p = co' p ∧ who p = who' p) ∧ ∀ f, 0 ≤ f → f < 8 * P → hs f = hs' f ∧ so f = so' f ∧ (hs f = 1 → mt f = mt' f)
def AF (P c : Int) (hs so co who mt : Int → Int) : Int → Int := sur (gt2 P c hs so co who mt (8 * P)).2 (gt2 P c hs so co who mt (8 * P)).1 P hs so co who mt
def UF (P c : Int) (hs so co who mt : Int → Int) (cw : Int → Int → Int) : Int → Int := wgt (gt2 P c hs so co who mt (8 * P)).2 (gt2 P c hs so co who mt (8 * P)).1 P c hs so co who mt cw (8 * P)
def qF (P c : Int) (hs so co who mt : Int → Int) (cw : Int → Int → Int) : Int := if (gt2 P c hs so co who mt (8 * P)).1 ≤ 12 then Lq (UF P c hs so co who mt cw) (AF P c hs so co who mt) (gt2 P c hs so co who mt (8 * P)).1 0 else -2
def ordF (P c : Int) (hs so co who mt : Int → Int) (cw : Int → Int → Int) (i : Int) : Int := (gt2 P c hs so co who mt (8 * P)).2 (pck (UF P c hs so co who mt cw) (AF P c hs so co who mt) (gt2 P c hs so co who mt (8 * P)).1 (dnz (UF P c hs so co who mt cw) (AF P c hs so co who mt) (gt2 P c hs so co who mt (8 * P)).1 i))
theorem mny_g {co co' : Int → Int} {P x : Int} (h : ∀ p, 0 ≤ p → p < P → co p = co' p) : mny co P x = mny co' P x := sumZ_congr (fun i i0 i1 => by rw [h i i0 i1])
theorem bl_c {P : Int} {hs so co who mt hs' so' co' who' mt' : Int → Int} (hH : HH P hs co who mt) (h : CG P hs so co who mt hs' so' co' who' mt') {f : Int} (f0 : 0 ≤ f) (f1 : f < 8 * P) (hf : hs f = 1) : bl P so co who mt f = bl P so' co' who' mt' f := by
  have h1 := h.2 f f0 f1
  have h2 := h.1 (f / 8) (by omega) (by omega)
  have h3 := hH.2.2 f f0 f1 hf
  rw [bl_e, bl_e, ← h1.2.1, ← h2.1, ← h1.2.2 hf, mny_g (fun p p0 p1 => (h.1 p p0 p1).1)]
  by_cases z : 0 ≤ mt f
  · rw [if_pos z, if_pos z, (h.1 (mt f / 8) (by omega) (by omega)).2]
  · rw [if_neg z, if_neg z]
theorem gst_c {g g' v : Int → Int} {x : Int} {a : Int × (Int → Int)} (h : g x = g' x) : gst g v x a = gst g' v x a := by unfold gst; rw [h]
theorem gt2_c {P c : Int} {hs so co who mt hs' so' co' who' mt' : Int → Int} (hH : HH P hs co who mt) (h : CG P hs so co who mt hs' so' co' who' mt') : gt2 P c hs so co who mt (8 * P) = gt2 P c hs' so' co' who' mt' (8 * P) := by
  have e1 : gt1 c co who P = gt1 c co' who' P := foldZ_congr (fun i i0 i1 x => gst_c (by unfold gg1; rw [(h.1 i i0 i1).1, (h.1 i i0 i1).2]))
  unfold gt2
  rw [e1]
  refine foldZ_congr (fun i i0 i1 x => gst_c ?_)
  unfold gg2
  rw [← (h.2 i i0 i1).1, ← (h.1 (i / 8) (by omega) (by omega)).1]
  by_cases z : hs i = 1
  · rw [bl_c hH h i0 i1 z]
  · rw [b2i_f (fun w => z w.1), b2i_f (fun w => z w.1)]
theorem stk_c {P : Int} {hs so co who mt hs' so' co' who' mt' : Int → Int} (h : CG P hs so co who mt hs' so' co' who' mt') {w : Int} : stk hs so who mt w (8 * P) = stk hs' so' who' mt' w (8 * P) := by
  refine foldZ_congr (fun i i0 i1 x => ?_)
  have a := h.2 i i0 i1
  rw [← a.1, ← a.2.1, ← (h.1 (i / 8) (by omega) (by omega)).2]
  by_cases z : hs i = 1
  · rw [a.2.2 z]
  · rw [if_neg (fun w => z w.1), if_neg (fun w => z w.1)]
theorem sur_c {R : Int → Int} {T P : Int} {hs so co who mt hs' so' co' who' mt' : Int → Int} (hH : HH P hs co who mt) (h : CG P hs so co who mt hs' so' co' who' mt') : sur R T P hs so co who mt = sur R T P hs' so' co' who' mt' := by
  funext k
  unfold sur
  have e : srf R T P hs so co who mt k (8 * P) = srf R T P hs' so' co' who' mt' k (8 * P) := by
    refine foldZ_congr (fun i i0 i1 x => ?_)
    have a := h.2 i i0 i1
    rw [← a.1, ← (h.1 (i / 8) (by omega) (by omega)).2]
    by_cases z : hs i = 1
    · rw [bl_c hH h i0 i1 z]
    · rw [if_neg (fun w => z w.1), if_neg (fun w => z w.1)]
  rw [e, stk_c h]
theorem wgt_c {R : Int → Int} {T P c : Int} {hs so co who mt hs' so' co' who' mt' : Int → Int} {cw cw' : Int → Int → Int} (hH : HH P hs co who mt) (h : CG P hs so co who mt hs' so' co' who' mt') (hw : ∀ f, 0 ≤ f → f < 8 * P → ∀ g, 0 ≤ g → g < 8 → cw f g = cw' f g ∧ (0 < cw f g → hs f = 1 ∧ hs (f / 8 * 8 + g) = 1)) : wgt R T P c hs so co who mt cw (8 * P) = wgt R T P c hs' so' co' who' mt' cw' (8 * P) := by
  refine foldZ_congr (fun f f0 f1 U => ?_)
  refine foldZ_congr (fun g g0 g1 V => ?_)
  unfold wcs
  have a := h.2 f f0 f1
  have b := hw f f0 f1 g g0 g1
  rw [← a.1, ← b.1, ← (h.1 (f / 8) (by omega) (by omega)).1]
  by_cases z : 0 < cw f g
  · have c := b.2 z
    rw [bl_c hH h f0 f1 c.1, bl_c hH h (f := f / 8 * 8 + g) (by omega) (by omega) c.2]
  · rw [if_neg (fun w => z w.2.2.1), if_neg (fun w => z w.2.2.1)]
theorem qF_c {P c : Int} {hs so co who mt hs' so' co' who' mt' : Int → Int} {cw cw' : Int → Int → Int} (hH : HH P hs co who mt) (h : CG P hs so co who mt hs' so' co' who' mt') (hw : ∀ f, 0 ≤ f → f < 8 * P → ∀ g, 0 ≤ g → g < 8 → cw f g = cw' f g ∧ (0 < cw f g → hs f = 1 ∧ hs (f / 8 * 8 + g) = 1)) : qF P c hs so co who mt cw = qF P c hs' so' co' who' mt' cw' ∧ ordF P c hs so co who mt cw = ordF P c hs' so' co' who' mt' cw' := by
  have e1 := gt2_c (c := c) hH h
  have e2 : AF P c hs so co who mt = AF P c hs' so' co' who' mt' := by unfold AF; rw [e1]; exact sur_c hH h
  have e3 : UF P c hs so co who mt cw = UF P c hs' so' co' who' mt' cw' := by unfold UF; rw [e1]; exact wgt_c hH h hw
  refine ⟨by unfold qF; rw [e1, e2, e3], ?_⟩
  funext i
  unfold ordF
  rw [e1, e2, e3]

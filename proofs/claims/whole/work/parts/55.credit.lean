/-! ===== credit and floor, by the row ===== -/
def crZ (k m : Nat) (v z : Int32) (h c n : Nat) : Int32 := if k = 1 then (if 5 ≤ v then 5 else v) else if k = 2 then v else if k = 3 then v + z else if k = 4 then (if 5 ≤ v then 5 else v) + nI m else if k = 5 then v + nI n else if k = 6 then ((v + z) - nI h) - nI c - nI n else v
def crW (k m : Nat) (v : Int32) (h c n : Nat) : Int32 := crZ k m v (if c = 0 then 3 else 0) h c n
def kHalf (k c : Nat) : Nat := if k = 2 ∨ k = 5 then c / 2 else c
def rCr (r : Nat → Int32) (i : Nat) (d e : Nat → Nat) : Int32 := crW (rK r i) (rMm r i) (rLw r 0 (nI (nAs d e)) (nI (kHalf (rK r i) (nOt d e))) (nI (nFr d e))) (nAs d e) (nOt d e) (nFr d e)
def rFl (r : Nat → Int32) (i : Nat) (d e : Nat → Nat) : Int32 := if nK d 8 = 0 then -1 else heldI (rCr r i d e) 0 9
def rAf (r : Nat → Int32) (i : Nat) (e : Nat → Nat) : Nat → Nat := if rFl r i (dg (rS r i)) e < r 9 then e else rdD (decide (¬ rFl r i (dg (rS r i)) e < 2 * r 9)) (dg (rS r i)) e
def rDk (r : Nat → Int32) (e : Nat → Nat) : Nat → Nat → Nat
  | 0 => e
  | k + 1 => rAf r k (rDk r e k)
def rDy (r : Nat → Int32) (e : Nat → Nat) : Nat → Nat := rDk r e (rN r)
def inc (x : Int32) : Int32 := heldI (x + 1) 0 9999
def incK (x : Int32) : Nat → Int32
  | 0 => x
  | k + 1 => inc (incK x k)
def D3 (e : Nat → Nat) : Prop := ∀ f, f < 8 → e f < 3
theorem dg_D3 (n : Nat) : D3 (dg n) := fun f _ => dg_lt n f
theorem rAf_D3 {r : Nat → Int32} {i : Nat} {e : Nat → Nat} (he : D3 e) : D3 (rAf r i e) := by
  unfold rAf
  by_cases h : rFl r i (dg (rS r i)) e < r 9
  · rw [if_pos h]; exact he
  · rw [if_neg h]; exact rdD_lt (dg_D3 _) he
theorem rDk_D3 {r : Nat → Int32} {e : Nat → Nat} (he : D3 e) : ∀ k, D3 (rDk r e k)
  | 0 => he
  | k + 1 => rAf_D3 (rDk_D3 he k)
theorem rDy_D3 {r : Nat → Int32} {e : Nat → Nat} (he : D3 e) : D3 (rDy r e) := rDk_D3 he _
theorem nOt_le (d e : Nat → Nat) : nOt d e ≤ 8 := cK_le _ 8
theorem nAs_le (d e : Nat → Nat) : nAs d e ≤ 8 := cK_le _ 8
theorem nFr_le (d e : Nat → Nat) : nFr d e ≤ 8 := cK_le _ 8
theorem r_its {M : MS} {i w : Nat} {x : Int32} (hx : x = nI w) (h : 18 + 3 * i + w < 206) : f_X12_its (nI i) x M = some (M.1 1 (18 + 3 * i + w), M) := by
  subst hx
  have e : (18 + (3 * nI i)) + nI w = nI (18 + 3 * i + w) := by rw [show (18 : Int32) = nI 18 by decide +kernel, show (3 : Int32) = nI 3 by decide +kernel, nI_mul, nI_add, nI_add]
  exact gixE _ e h (by decide) rfl
theorem r_cr78 {S : MS} {i k m h c n : Nat} {v z : Int32} (hi : i < 6) (hk : k < 7) (hm : S.1 1 (18 + 3 * i + 1) = nI m) (h2 : S.2 2 = nI h) (h3 : S.2 3 = nI c) (h4 : S.2 4 = nI n) : f_X12_creditOf_78 (nI i) (nI k) v (if 5 ≤ v then 5 else v) v z S = some (crZ k m v z h c n, S) := by
  match k, hk with
  | 0, _ => exact bIE (iteF (by decide) (iteF (by decide) (iteF (by decide) (iteF (by decide) (iteF (by decide) (iteF (by decide) rfl))))))
  | 1, _ => exact bIE (iteT rfl rfl)
  | 2, _ => exact bIE (iteF (by decide) (iteT rfl rfl))
  | 3, _ => exact bIE (iteF (by decide) (iteF (by decide) (iteT rfl rfl)))
  | 4, _ =>
    refine bIE (iteF (by decide) (iteF (by decide) (iteF (by decide) (iteT rfl (cbE (r_its (w := 1) rfl (by omega)) ?_)))))
    rw [hm]; rfl
  | 5, _ =>
    refine bIE (iteF (by decide) (iteF (by decide) (iteF (by decide) (iteF (by decide) (iteT rfl ?_)))))
    rw [h4]; rfl
  | 6, _ =>
    refine bIE (iteF (by decide) (iteF (by decide) (iteF (by decide) (iteF (by decide) (iteF (by decide) (iteT rfl ?_))))))
    rw [h2, h3, h4]; rfl
theorem r_cr62 {S : MS} {i k m h c n : Nat} {v : Int32} (hi : i < 6) (hk : k < 7) (hc : c ≤ 8) (hm : S.1 1 (18 + 3 * i + 1) = nI m) (h2 : S.2 2 = nI h) (h3 : S.2 3 = nI c) (h4 : S.2 4 = nI n) : f_X12_creditOf_62 (nI i) (nI k) v (if 5 ≤ v then 5 else v) S = some (crW k m v h c n, S) := by
  unfold f_X12_creditOf_62 crW
  by_cases hc0 : c = 0
  · rw [if_pos hc0]
    exact iteT (by rw [h3, hc0]; rfl) (r_cr78 hi hk hm h2 h3 h4)
  · rw [if_neg hc0]
    exact iteF (by rw [h3]; exact nI_ne0 (by omega) (by omega)) (r_cr78 hi hk hm h2 h3 h4)
section REF
variable {r : Nat → Int32} {e : Nat → Nat} {x y : Int32} {M : MS}
theorem hr_hd (hR : M.1 1 = HR r e x y) (he : D3 e) : MHd M e := fun f hf => ⟨by rw [hR]; exact HR_h r e x y hf, he f hf⟩
theorem Wf.k (hW : Wf r) {i : Nat} (hi : i < 6) : r (18 + 3 * i) = nI (rK r i) ∧ rK r i < 7 := (hW.2.1 i hi).1
theorem Wf.m (hW : Wf r) {i : Nat} (hi : i < 6) : r (18 + 3 * i + 1) = nI (rMm r i) ∧ rMm r i < 10 := (hW.2.1 i hi).2.1
theorem Wf.s (hW : Wf r) {i : Nat} (hi : i < 6) : r (18 + 3 * i + 2) = nI (rS r i) ∧ rS r i < 6561 := (hW.2.1 i hi).2.2
theorem Wf.n (hW : Wf r) : r 3 = nI (rN r) ∧ rN r < 7 := hW.2.2.1
theorem Wf.t (hW : Wf r) : r 9 = nI (rT r) ∧ rT r < 10 := hW.2.2.2.1
theorem Wf.w (hW : Wf r) : r 8 = nI (rW r) ∧ rW r < 256 := hW.2.2.2.2.1
theorem Wf.tx (hW : Wf r) {u : Nat} (hu : u < 2) : TxOk r u := by
  have hu2 : u = 0 ∨ u = 1 := by omega
  rcases hu2 with rfl | rfl
  · exact hW.2.2.2.2.2.1
  · exact hW.2.2.2.2.2.2
theorem Wf.he (hW : Wf r) : D3 (rE r) := fun f hf => (hW.1 f hf).2
theorem r_creditOf (hW : Wf r) (hP : MPow M) (hR : M.1 1 = HR r e x y) (he : D3 e) {i n : Nat} (hi : i < 6) (hn : n < 6561) : ∃ M2 : MS, ME M M2 (M.1 1) ∧ f_X12_creditOf (nI i) (nI n) M = some (rCr r i (dg n) e, M2) := by
  have hk := hW.k hi
  have hm := hW.m hi
  have hw := m_weigh hP (hr_hd hR he) (n := n) (by omega)
  have hrk : M.1 1 (18 + 3 * i) = nI (rK r i) := by rw [hR, HR_o _ _ _ _ (by omega)]; exact hk.1
  have hrm : M.1 1 (18 + 3 * i + 1) = nI (rMm r i) := by rw [hR, HR_o _ _ _ _ (by omega)]; exact hm.1
  have hro : ∀ j, 6 ≤ j → (j < 8 ∨ 106 ≤ j) → M.1 1 j = r j := fun j h1 h2 => by rw [hR, HR_o _ _ _ _ (by omega)]
  generalize hM1 : wS M (nI (nAs (dg n) e)) (nI (nOt (dg n) e)) (nI (nFr (dg n) e)) = M1 at hw
  have w1 : M1.1 = M.1 := by rw [← hM1]; rfl
  have w2 : M1.2 2 = nI (nAs (dg n) e) := by rw [← hM1]; rfl
  have w3 : M1.2 3 = nI (nOt (dg n) e) := by rw [← hM1]; rfl
  have w4 : M1.2 4 = nI (nFr (dg n) e) := by rw [← hM1]; rfl
  have w5 : ∀ k, (k < 2 ∨ 13 ≤ k) → M1.2 k = M.2 k := fun k hk => by
    rw [← hM1]
    show (if k = 2 then _ else if k = 3 then _ else if k = 4 then _ else M.2 k) = _
    rw [if_neg (by omega), if_neg (by omega), if_neg (by omega)]
  obtain ⟨M2, g1, g2, g3⟩ := r_lawOf (r := r) (M := M1) (u := 0) (by decide) (hW.tx (by decide)) (fun j h1 h2 => by rw [w1]; exact hro j h1 h2) (nI (nAs (dg n) e)) (nI (kHalf (rK r i) (nOt (dg n) e))) (nI (nFr (dg n) e))
  have h41 : f_X12_creditOf_41 (nI i) (nI (rK r i)) 0 (nI (nAs (dg n) e)) (nI (kHalf (rK r i) (nOt (dg n) e))) M1 = some (rCr r i (dg n) e, M2) := by
    unfold f_X12_creditOf_41
    rw [w4]
    refine cbE g3 ?_
    have h62 := r_cr62 (S := M2) (i := i) (k := rK r i) (m := rMm r i) (h := nAs (dg n) e) (c := nOt (dg n) e) (n := nFr (dg n) e) (v := rLw r 0 (nI (nAs (dg n) e)) (nI (kHalf (rK r i) (nOt (dg n) e))) (nI (nFr (dg n) e))) hi hk.2 (nOt_le _ _) (by rw [g1, w1]; exact hrm) ((g2 2 (by omega)).trans w2) ((g2 3 (by omega)).trans w3) ((g2 4 (by omega)).trans w4)
    by_cases h5 : 5 ≤ rLw r 0 (nI (nAs (dg n) e)) (nI (kHalf (rK r i) (nOt (dg n) e))) (nI (nFr (dg n) e))
    · rw [if_pos h5] at h62
      exact iteT h5 h62
    · rw [if_neg h5] at h62
      exact iteF h5 h62
  have hhalf : nI (nOt (dg n) e) / 2 = nI (nOt (dg n) e / 2) := nI_div (by have := nOt_le (dg n) e; omega) (by decide) (by decide)
  refine ⟨M2, ⟨by rw [g1, w1], fun c _ => by rw [g1, w1], fun k hk => (g2 k (by omega)).trans (w5 k hk)⟩, cbE hw (cbE (r_its (w := 0) rfl (by omega)) ?_)⟩
  rw [w1, show 18 + 3 * i + 0 = 18 + 3 * i from rfl, hrk, w2, w3]
  by_cases k2 : rK r i = 2
  · have hh : kHalf (rK r i) (nOt (dg n) e) = nOt (dg n) e / 2 := if_pos (Or.inl k2)
    refine iteT (by rw [k2]; rfl) ?_
    unfold f_X12_creditOf_28
    rw [w3, hhalf, ← hh]
    exact h41
  · have n2 : ¬ nI (rK r i) = 2 := fun h => k2 ((nI_eq (a := rK r i) (b := 2) (by omega) (by decide)).mp h)
    refine iteF n2 ?_
    by_cases k5 : rK r i = 5
    · have hh : kHalf (rK r i) (nOt (dg n) e) = nOt (dg n) e / 2 := if_pos (Or.inr k5)
      refine iteT (by rw [k5]; rfl) ?_
      unfold f_X12_creditOf_28
      rw [w3, hhalf, ← hh]
      exact h41
    · have n5 : ¬ nI (rK r i) = 5 := fun h => k5 ((nI_eq (a := rK r i) (b := 5) (by omega) (by decide)).mp h)
      have hh : kHalf (rK r i) (nOt (dg n) e) = nOt (dg n) e := if_neg (fun h => h.elim k2 k5)
      refine iteF n5 ?_
      rw [hh] at h41
      exact h41
theorem nK_small {n : Nat} (hn : n < 6561) : nK (dg n) 8 = n := by
  rw [nK_dg, Nat.mod_eq_of_lt hn]
theorem r_floorBy (hW : Wf r) (hP : MPow M) (hR : M.1 1 = HR r e x y) (he : D3 e) {i n : Nat} (hi : i < 6) (hn : n < 6561) : ∃ M2 : MS, ME M M2 (M.1 1) ∧ f_X12_floorBy (nI i) (nI n) M = some (rFl r i (dg n) e, M2) := by
  obtain ⟨M2, g1, g2⟩ := r_creditOf hW hP hR he hi hn
  refine ⟨M2, g1, cbE g2 ?_⟩
  unfold rFl
  rw [nK_small hn]
  by_cases h0 : n = 0
  · rw [if_pos h0]
    exact iteT (by rw [h0]; rfl) rfl
  · rw [if_neg h0]
    exact iteF (nI_ne0 (by omega) (by omega)) (csE (r_held _ _ _) rfl)
theorem r_floorOf (hW : Wf r) (hP : MPow M) (hR : M.1 1 = HR r e x y) (he : D3 e) {i : Nat} (hi : i < 6) : ∃ M2 : MS, ME M M2 (M.1 1) ∧ f_X12_floorOf (nI i) M = some (rFl r i (dg (rS r i)) e, M2) := by
  have hs := hW.s hi
  obtain ⟨M2, g1, g2⟩ := r_floorBy hW hP hR he hi hs.2
  refine ⟨M2, g1, cbE (r_its (w := 2) rfl (by omega)) ?_⟩
  rw [hR, HR_o _ _ _ _ (by omega), hs.1]
  exact cbE g2 rfl
end REF

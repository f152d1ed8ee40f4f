/-! ===== the calls, both sides: the shortest story, the shortest true one, what to leave out ===== -/
theorem tI_0 {b : Bool} (h : b = false) : tI b = 0 := by rw [h]; rfl
theorem tI_n {b : Bool} (h : b = true) : ¬ tI b = 0 := by rw [h]; decide
def BB (y : Int32) (n : Nat) : Prop := y = -1 ∨ ∃ b, b < n ∧ y = nI b
theorem BB.n {y : Int32} {n : Nat} (h : BB y n) (hn : n ≤ 2 ^ 31) : (0 ≤ y ∧ ¬ y < 0) ∨ (¬ 0 ≤ y ∧ y < 0 ∧ y = -1) := by
  rcases h with rfl | ⟨b, hb, rfl⟩
  · exact Or.inr (by decide)
  · exact Or.inl ⟨nI_pos' (by omega), nI_pos (by omega)⟩
section SEARCH
variable {RD : RDt} {S M : MS}
theorem short_loop (R : Rel RD S M) {i : Nat} (hi : i < 6) (f X x3 : Int32) (wn : Nat) (al : Nat → Bool) (hA : ∀ k, f_X11_isWithin (eD (dg k)) X = some (tI (al k))) (hw : wn < 6561) (hB : (x3 = 0 ∧ ∀ k, k < 6561 → al k = true) ∨ (¬ x3 = 0 ∧ ∀ k, k < 6561 → tK k wn 8 = al k)) : ∀ (j k fu fv : Nat) (N : MS) (y : Int32) (l : Nat), k + j = 6561 → j < fu → j < fv → ME M N (M.1 1) → BB y 6561 → l ≤ 9 → ∃ (y2 : Int32) (N2 : MS), BB y2 6561 ∧ ME M N2 (M.1 1) ∧ f_X11_shortestOf_13 RD fu (nI i) f X y (nI l) (eD (dg k)) (nI k) S = (if (0 ≤ y2 : Prop) then some (y2, S) else cb (f_X11_error RD 2 S) fun r5 S3 => some (r5, S3)) ∧ f_X12_shortestTo_16 fv (nI i) f x3 (nI wn) y (nI l) (nI k) N = some (y2, N2) := by
  have L := R.lf
  have hW := L.wf
  have hE := hW.he
  intro j
  induction j with
  | zero =>
    intro k fu fv N y l hk hf hg hN hy hl
    obtain rfl : k = 6561 := by omega
    obtain ⟨fu, rfl⟩ : ∃ z, fu = z + 1 := ⟨fu - 1, by omega⟩
    obtain ⟨fv, rfl⟩ : ∃ z, fv = z + 1 := ⟨fv - 1, by omega⟩
    refine ⟨y, N, hy, hN, ?_, ?_⟩
    · simp only [f_X11_shortestOf_13]
      exact iteT (by decide) rfl
    · simp only [f_X12_shortestTo_16]
      exact iteT (by decide) rfl
  | succ j ih =>
    intro k fu fv N y l hk hf hg hN hy hl
    obtain ⟨fu, rfl⟩ : ∃ z, fu = z + 1 := ⟨fu - 1, by omega⟩
    obtain ⟨fv, rfl⟩ : ∃ z, fv = z + 1 := ⟨fv - 1, by omega⟩
    have hk6 : k < 6561 := by omega
    have hle : ¬ (6561 : Int32) ≤ nI k := fun z => nI_ge (a := k) (b := 6561) hk6 (by decide) z
    have hbc := v_bitCount (dg_D3 k)
    have hnx := v_next hk6
    have hLl : cK (fun f => dg k f != 0) 8 ≤ 8 := cK_le _ 8
    have gf := c_floor hW L.abc hi (dg_D3 k) hE
    rw [← L.h.2] at gf
    -- a step that changes nothing
    have c72 : ∀ (y2 : Int32) (l2 : Nat) u, f_X11_shortestOf_13 RD fu (nI i) f X y2 (nI l2) (eD (dg (k + 1))) (nI (k + 1)) S = u → f_X11_shortestOf_72 RD (f_X11_shortestOf_13 RD fu) (nI i) f X y2 (nI l2) (eD (dg k)) (nI k) S = u := fun y2 l2 u h => by
      refine csE hnx (bIE ?_)
      rw [nI_1]; exact h
    have r85 : ∀ (y2 : Int32) (l2 : Nat) (N2 : MS) u, f_X12_shortestTo_16 fv (nI i) f x3 (nI wn) y2 (nI l2) (nI (k + 1)) N2 = u → f_X12_shortestTo_85 (f_X12_shortestTo_16 fv) (nI i) f x3 (nI wn) y2 (nI l2) (nI k) N2 = u := fun y2 l2 N2 u h => by
      refine bIE ?_
      rw [nI_1]; exact h
    have r54 : ∀ (N2 : MS) u, f_X12_shortestTo_16 fv (nI i) f x3 (nI wn) y (nI l) (nI (k + 1)) N2 = u → f_X12_shortestTo_54 (f_X12_shortestTo_16 fv) (nI i) f x3 (nI wn) y (nI l) (nI k) N2 = u := fun N2 u h => by
      unfold f_X12_shortestTo_54 f_X12_shortestTo_55
      exact iteT rfl (r85 y l N2 u h)
    -- the reference's way to the length, where the story may be
    have rgo : ∀ u, (al k = true → f_X12_shortestTo_39 (f_X12_shortestTo_16 fv) (nI i) f x3 (nI wn) y (nI l) (nI k) N = u) → (al k = false → f_X12_shortestTo_54 (f_X12_shortestTo_16 fv) (nI i) f x3 (nI wn) y (nI l) (nI k) N = u) → f_X12_shortestTo_16 (fv + 1) (nI i) f x3 (nI wn) y (nI l) (nI k) N = u := fun u ht hff => by
      refine iteF hle ?_
      rcases hB with ⟨q1, q2⟩ | ⟨q1, q2⟩
      · exact iteT q1 (ht (q2 k hk6))
      · refine iteF q1 (cbE (m_isTrue (hN.pow R.pow) (by omega) (by omega)) ?_)
        rw [q2 k hk6]
        cases ha : al k
        · exact iteT rfl (hff ha)
        · exact iteF (by decide) (ht ha)
    have hlong := m_longOf (hN.pow R.pow) (n := k) (by omega)
    by_cases hl2 : nI l ≤ nI (cK (fun f => dg k f != 0) 8)
    · -- too long
      obtain ⟨y2, N2, k1, k2, k3, k4⟩ := ih (k + 1) fu fv N y l (by omega) (by omega) (by omega) hN hy hl
      refine ⟨y2, N2, k1, k2, iteF hle (csE hbc (iteT hl2 (c72 y l _ k3))), rgo _ (fun _ => cbE hlong (iteT hl2 (r54 N _ k4))) (fun _ => r54 N _ k4)⟩
    · cases ha : al k
      · obtain ⟨y2, N2, k1, k2, k3, k4⟩ := ih (k + 1) fu fv N y l (by omega) (by omega) (by omega) hN hy hl
        exact ⟨y2, N2, k1, k2, iteF hle (csE hbc (iteF hl2 (csE (hA k) (iteT (tI_0 ha) (c72 y l _ k3))))), rgo _ (fun h => by rw [ha] at h; cases h) (fun _ => r54 N _ k4)⟩
      · obtain ⟨N1, g1, g2⟩ := r_floorBy hW (hN.pow R.pow) (hN.1.trans R.hr) hE hi hk6
        rw [hN.1] at g1
        have hN1 := hN.trans g1
        have r55 : ∀ u, (if (rFl (M.1 1) i (dg k) (rE (M.1 1)) < f : Prop) then f_X12_shortestTo_85 (f_X12_shortestTo_16 fv) (nI i) f x3 (nI wn) y (nI l) (nI k) N1 else cb (f_X12_longOf (nI k) N1) fun r18 S16 => f_X12_shortestTo_85 (f_X12_shortestTo_16 fv) (nI i) f x3 (nI wn) (nI k) r18 (nI k) S16) = u → f_X12_shortestTo_39 (f_X12_shortestTo_16 fv) (nI i) f x3 (nI wn) y (nI l) (nI k) N = u := fun u h => by
          refine cbE hlong (iteF hl2 ?_)
          unfold f_X12_shortestTo_55
          exact iteF (by decide) (cbE g2 h)
        by_cases hlt : rFl (M.1 1) i (dg k) (rE (M.1 1)) < f
        · obtain ⟨y2, N2, k1, k2, k3, k4⟩ := ih (k + 1) fu fv N1 y l (by omega) (by omega) (by omega) hN1 hy hl
          refine ⟨y2, N2, k1, k2, iteF hle (csE hbc (iteF hl2 (csE (hA k) (iteF (tI_n ha) (cbE gf (iteT hlt ?_)))))), rgo _ (fun _ => r55 _ (iteT hlt (r85 y l N1 _ k4))) (fun h => by rw [ha] at h; cases h)⟩
          rw [sL_self]
          exact c72 y l _ k3
        · obtain ⟨y2, N2, k1, k2, k3, k4⟩ := ih (k + 1) fu fv N1 (nI k) (cK (fun f => dg k f != 0) 8) (by omega) (by omega) (by omega) hN1 (Or.inr ⟨k, hk6, rfl⟩) (by omega)
          refine ⟨y2, N2, k1, k2, iteF hle (csE hbc (iteF hl2 (csE (hA k) (iteF (tI_n ha) (cbE gf (iteF hlt (csE hbc ?_))))))), rgo _ (fun _ => r55 _ (iteF hlt (cbE (m_longOf (hN1.pow R.pow) (by omega)) (r85 (nI k) _ N1 _ k4)))) (fun h => by rw [ha] at h; cases h)⟩
          rw [sL_self]
          exact c72 (nI k) _ _ k3
theorem dg0 : eD (dg 0) = 0 := eD_z (dg_D3 0) (nK_small (by decide))
theorem short_both (R : Rel RD S M) {i q : Nat} (hi : i < 6) (hq : q < 10) (X x3 : Int32) (al : Nat → Bool) (hA : ∀ k, f_X11_isWithin (eD (dg k)) X = some (tI (al k))) (hB : (x3 = 0 ∧ ∀ k, k < 6561 → al k = true) ∨ (¬ x3 = 0 ∧ ∀ k, k < 6561 → tK k (nK (wD (rW (M.1 1))) 8) 8 = al k)) : ∃ (y2 : Int32) (N2 : MS), BB y2 6561 ∧ ME M N2 (M.1 1) ∧ f_X11_shortestOf RD (nI i) (nI q) X S = (if (0 ≤ y2 : Prop) then some (y2, S) else cb (f_X11_error RD 2 S) fun r5 S3 => some (r5, S3)) ∧ f_X12_shortestTo (nI i) (nI q) x3 M = some (y2, N2) := by
  have L := R.lf
  have hW := L.wf
  have hE := hW.he
  have hww := hW.w
  have gw := m_worldStory (M := M) R.pow hww.2 hww.1
  have lw : nK (wD (rW (M.1 1))) 8 < 6561 := nK_lt 8 (fun f _ => wD_lt _ f)
  obtain ⟨y2, N2, k1, k2, k3, k4⟩ := short_loop R hi (nI q) X x3 _ al hA lw hB 6560 1 6999 7000 M (-1) 9 (by decide) (by decide) (by decide) ME.rf (Or.inl rfl) (by decide)
  refine ⟨y2, N2, k1, k2, ?_, cbE gw k4⟩
  -- the class begins at the story that says nothing
  have hz : nK (dg 0) 8 = 0 := nK_small (by decide)
  have hfl : rFl (M.1 1) i (dg 0) (rE (M.1 1)) = -1 := if_pos hz
  have gf := c_floor hW L.abc hi (dg_D3 0) hE
  rw [← L.h.2, hfl] at gf
  have hlt : (-1 : Int32) < nI q := by
    rw [Int32.lt_iff_toInt_lt, nI_toInt (by omega)]
    have : (-1 : Int32).toInt = -1 := by decide
    omega
  have hbc := v_bitCount (dg_D3 0)
  have hc0 : cK (fun f => dg 0 f != 0) 8 = 0 := by decide +kernel
  rw [hc0] at hbc
  have step : ∀ (fu : Nat) (u : Option (Int32 × MS)), f_X11_shortestOf_13 RD fu (nI i) (nI q) X (-1) (nI 9) (eD (dg 1)) (nI 1) S = u → f_X11_shortestOf_13 RD (fu + 1) (nI i) (nI q) X (-1) (nI 9) (eD (dg 0)) (nI 0) S = u := fun fu u h => by
    have h72 : f_X11_shortestOf_72 RD (f_X11_shortestOf_13 RD fu) (nI i) (nI q) X (-1) (nI 9) (eD (dg 0)) (nI 0) S = u := by
      refine csE (v_next (n := 0) (by decide)) (bIE ?_)
      exact h
    have un : ∀ (x5 x7 : Int32) (w : Option (Int32 × MS)), ¬ (6561 : Int32) ≤ x7 → (cs (f_J6_bitCount_0f7a4 (eD (dg 0))) fun r6 => if (x5 ≤ r6 : Prop) then f_X11_shortestOf_72 RD (f_X11_shortestOf_13 RD fu) (nI i) (nI q) X (-1) x5 (eD (dg 0)) x7 S else cs (f_X11_isWithin (eD (dg 0)) X) fun r12 => if (r12 = 0 : Prop) then f_X11_shortestOf_72 RD (f_X11_shortestOf_13 RD fu) (nI i) (nI q) X (-1) x5 (eD (dg 0)) x7 S else cb (f_X4_floor RD (nI i) (eD (dg 0)) (S.2 0) S) fun r17 S15 => if (r17 < nI q : Prop) then f_X11_shortestOf_72 RD (f_X11_shortestOf_13 RD fu) (nI i) (nI q) X (-1) x5 (eD (dg 0)) x7 (sL S S15) else cs (f_J6_bitCount_0f7a4 (eD (dg 0))) fun r19 => f_X11_shortestOf_72 RD (f_X11_shortestOf_13 RD fu) (nI i) (nI q) X x7 r19 (eD (dg 0)) x7 (sL S S15)) = w → f_X11_shortestOf_13 RD (fu + 1) (nI i) (nI q) X (-1) x5 (eD (dg 0)) x7 S = w := fun x5 x7 w h1 h2 => iteF h1 h2
    refine un _ _ _ (fun z => nI_ge (a := 0) (b := 6561) (by decide) (by decide) z) (csE hbc (iteF (fun z => nI_ge (a := 0) (b := 9) (by decide) (by decide) z) (csE (hA 0) ?_)))
    cases ha : al 0
    · exact iteT rfl h72
    · refine iteF (by decide) (cbE gf (iteT hlt ?_))
      rw [sL_self]
      exact h72
  have e : f_X11_shortestOf RD (nI i) (nI q) X S = f_X11_shortestOf_13 RD (6999 + 1) (nI i) (nI q) X (-1) (nI 9) (eD (dg 0)) (nI 0) S := by
    unfold f_X11_shortestOf
    rw [dg0]
    rfl
  rw [e]
  exact step 6999 _ k3
theorem within_all (k : Nat) : f_X11_isWithin (eD (dg k)) (eP (fun _ => true) (fun _ => true)) = some (tI true) := v_within1 ⟨fun _ _ _ => rfl, fun _ _ _ => rfl⟩
theorem two_short_end (R : Rel RD S M) {y : Int32} {N : MS} {fc fr : Option (Int32 × MS)} (hy : BB y 6561) (hN : ME M N (M.1 1)) (hc : ∀ u, (if (0 ≤ y : Prop) then some (y, S) else cb (f_X11_error RD 2 S) fun r5 S3 => some (r5, S3)) = u → fc = u) (hr : ∀ u, (if (0 ≤ y : Prop) then some (y, N) else cb (f_X12_errs (-1000000002) N) fun r17 S15 => some (r17, S15)) = u → fr = u) : Two RD M fc fr := by
  rcases hy.n (by decide) with ⟨h1, _⟩ | ⟨h1, _⟩
  · exact Two.same R (v := y) (hc _ (iteT h1 rfl)) (hr _ (iteT h1 rfl)) hN
  · have R2 : Rel RD S N := ⟨by rw [hN.1]; exact R.lf, R.xr.go SK.rf (MK.of hN), hN.pow R.pow⟩
    exact Two.tr (M := M) (two_err R2 2 2 (-1000000002) (by decide) rfl (by decide) (fun y T h => hc _ (iteF h1 (cbE h rfl))) (fun y T h => hr _ (iteF h1 (cbE h rfl)))) ((MK.of hN).1 2 (by omega)) (hN.2.2 0 (by omega))
theorem two_shortest (R : Rel RD S M) (a b : Int32) : Two RD M (f_X11_shortest RD a b S) (f_X12_shortest a b M) := by
  cases h1 : inR a (rN (M.1 1))
  · exact two_err R 1 1 (-1000000001) (by decide) rfl (by decide) (fun y T h => cbE (R.cR a) (iteT (b0 h1) (cbE h rfl))) (fun y T h => cbE (R.rR a) (iteT (b0 h1) (cbE h rfl)))
  cases h2 : inR b 10
  · exact two_err R 1 1 (-1000000001) (by decide) rfl (by decide) (fun y T h => cbE (R.cR a) (iteF (b1n h1) (csE (c_isGoal b) (iteT (b0 h2) (cbE h rfl))))) (fun y T h => cbE (R.rR a) (iteF (b1n h1) (csE (r_isFloor b) (iteT (b0 h2) (cbE h rfl)))))
  · have hn7 := R.n7
    obtain ⟨i, hi, rfl, _⟩ := inR_t h1
    obtain ⟨q, hq, rfl, _⟩ := inR_t h2
    have e1 : f_X11_bothWays 255 = some (eP (fun _ => true) (fun _ => true)) := by rw [mask_255]; exact v_bothWays _
    obtain ⟨y, N, k1, k2, k3, k4⟩ := short_both R (i := i) (q := q) (by omega) hq (eP (fun _ => true) (fun _ => true)) 0 (fun _ => true) within_all (Or.inl ⟨rfl, fun _ _ => rfl⟩)
    refine two_short_end R k1 k2 (fun u h => cbE (R.cR _) (iteF (b1n h1) (csE (c_isGoal _) (iteF (b1n h2) (csE e1 ?_))))) (fun u h => cbE (R.rR _) (iteF (b1n h1) (csE (r_isFloor _) (iteF (b1n h2) (cbE k4 h)))))
    have k5 := k3.trans h
    cases u with
    | none => rw [k5]; rfl
    | some z => exact cbE k5 rfl
theorem two_truest (R : Rel RD S M) (a b : Int32) : Two RD M (f_X11_truest RD a b S) (f_X12_truest a b M) := by
  cases h1 : inR a (rN (M.1 1))
  · exact two_err R 1 1 (-1000000001) (by decide) rfl (by decide) (fun y T h => cbE (R.cR a) (iteT (b0 h1) (cbE h rfl))) (fun y T h => cbE (R.rR a) (iteT (b0 h1) (cbE h rfl)))
  cases h2 : inR b 10
  · exact two_err R 1 1 (-1000000001) (by decide) rfl (by decide) (fun y T h => cbE (R.cR a) (iteF (b1n h1) (csE (c_isGoal b) (iteT (b0 h2) (cbE h rfl))))) (fun y T h => cbE (R.rR a) (iteF (b1n h1) (csE (r_isFloor b) (iteT (b0 h2) (cbE h rfl)))))
  · have hn7 := R.n7
    obtain ⟨i, hi, rfl, _⟩ := inR_t h1
    obtain ⟨q, hq, rfl, _⟩ := inR_t h2
    have hww := R.lf.wf.w
    have e1 : f_X11_truth (S.2 1) = some (eP (Nat.testBit (rW (M.1 1))) (fun f => !Nat.testBit (rW (M.1 1)) f)) := by
      rw [R.lf.w.2, hww.1, w_eP hww.2]
      exact v_truth _
    obtain ⟨y, N, k1, k2, k3, k4⟩ := short_both R (i := i) (q := q) (by omega) hq _ 1 (fun k => tK k (nK (wD (rW (M.1 1))) 8) 8) (fun k => true_eq hww.2) (Or.inr ⟨by decide, fun _ _ => rfl⟩)
    refine two_short_end R k1 k2 (fun u h => cbE (R.cR _) (iteF (b1n h1) (csE (c_isGoal _) (iteF (b1n h2) (csE e1 ?_))))) (fun u h => cbE (R.rR _) (iteF (b1n h1) (csE (r_isFloor _) (iteF (b1n h2) (cbE k4 h)))))
    have k5 := k3.trans h
    cases u with
    | none => rw [k5]; rfl
    | some z => exact cbE k5 rfl
/-- a story's digits, those of the facts below k that are in a set left out -/
def zd (s n k : Nat) : Nat → Nat := fun f => if f < k ∧ Nat.testBit s f = true then 0 else dg n f
theorem zd_D3 (s n k : Nat) : D3 (zd s n k) := fun f _ => by
  unfold zd
  split
  · decide
  · exact dg_lt n f
theorem zd_0 (s n : Nat) : nK (zd s n 0) 8 = nK (dg n) 8 := by
  have h : zd s n 0 = dg n := funext fun f => if_neg (fun z => Nat.not_lt_zero f z.1)
  rw [h]
theorem zd_f {s n k : Nat} (h : Nat.testBit s k = false) : zd s n (k + 1) = zd s n k := funext fun f => by
  unfold zd
  by_cases e : f = k
  · subst e
    rw [if_neg (fun z => by rw [h] at z; cases z.2), if_neg (fun z => by rw [h] at z; cases z.2)]
  · by_cases h2 : f < k ∧ Nat.testBit s f = true
    · rw [if_pos h2, if_pos ⟨by omega, h2.2⟩]
    · rw [if_neg h2, if_neg (fun z => h2 ⟨by omega, z.2⟩)]
theorem zd_t {s n k : Nat} (hk : k < 8) (h : Nat.testBit s k = true) : nK (zd s n (k + 1)) 8 + dg n k * 3 ^ k = nK (zd s n k) 8 := by
  have e : zd s n (k + 1) = fun g => if g = k then 0 else zd s n k g := funext fun f => by
    unfold zd
    by_cases e : f = k
    · subst e
      rw [if_pos ⟨by omega, h⟩, if_pos rfl]
    · rw [if_neg e]
      by_cases h2 : f < k ∧ Nat.testBit s f = true
      · rw [if_pos h2, if_pos ⟨by omega, h2.2⟩]
      · rw [if_neg h2, if_neg (fun z => h2 ⟨by omega, z.2⟩)]
  have h1 := nK_put (d := zd s n k) (f := k) (v := 0) 8 hk
  have e2 : zd s n k k = dg n k := if_neg (fun z => Nat.lt_irrefl k z.1)
  rw [e2, Nat.zero_mul, Nat.add_zero] at h1
  rw [e]
  exact h1
theorem nI_subK (b c : Nat) : nI (b + c) - nI c = nI b := by
  rw [← nI_add, Int32.add_sub_cancel]
/-- the reference's walk through the facts to be left out -/
theorem r_out_74 {N : MS} (hP : MPow N) {s n : Nat} (hs : s < 256) (hn : n < 6561) (lp : Int32 → Int32 → Int32 → Int32 → Int32 → MS → Option (Int32 × MS)) (x1 x2 x4 : Int32) : ∀ (j k fu : Nat), k + j = 8 → j + 1 < fu → (∀ f, f < k → Nat.testBit s f = true → ¬ dg n f = 0) → ((∀ f, f < 8 → Nat.testBit s f = true → ¬ dg n f = 0) ∧ f_X12_out_74 lp fu x1 x2 (nI n) x4 (nI s) (nI (nK (zd s n k) 8)) 1 (nI k) N = f_X12_out_140 lp x1 x2 (nI n) x4 (nI s) (nI (nK (zd s n 8) 8)) 1 N) ∨ (¬ (∀ f, f < 8 → Nat.testBit s f = true → ¬ dg n f = 0) ∧ ∃ x6 : Int32, f_X12_out_74 lp fu x1 x2 (nI n) x4 (nI s) (nI (nK (zd s n k) 8)) 1 (nI k) N = f_X12_out_140 lp x1 x2 (nI n) x4 (nI s) x6 0 N) := by
  intro j
  induction j with
  | zero =>
    intro k fu hk hf hok
    obtain rfl : k = 8 := by omega
    obtain ⟨fu, rfl⟩ : ∃ z, fu = z + 1 := ⟨fu - 1, by omega⟩
    refine Or.inl ⟨hok, ?_⟩
    simp only [f_X12_out_74]
    exact iteT (by decide) rfl
  | succ j ih =>
    intro k fu hk hf hok
    obtain ⟨fu, rfl⟩ : ∃ z, fu = z + 1 := ⟨fu - 1, by omega⟩
    have hk8 : k < 8 := by omega
    have hbit : jshr (nI s) (nI k) &&& 1 = bif Nat.testBit s k then 1 else 0 := bit_set hs hk8
    have hsy := m_saying hP (n := n) (f := k) (by omega) hk8
    cases hb : Nat.testBit s k
    · rw [hb] at hbit
      have ih2 := ih (k + 1) fu (by omega) (by omega) (fun f hf h => by
        by_cases e : f = k
        · subst e; rw [hb] at h; cases h
        · exact hok f (by omega) h)
      rw [zd_f hb] at ih2
      have go : ∀ u, f_X12_out_74 lp fu x1 x2 (nI n) x4 (nI s) (nI (nK (zd s n k) 8)) 1 (nI (k + 1)) N = u → f_X12_out_74 lp (fu + 1) x1 x2 (nI n) x4 (nI s) (nI (nK (zd s n k) 8)) 1 (nI k) N = u := fun u h => by
        refine iteF (h8k hk8) (iteF (by decide) (iteF (by rw [hbit]; decide) (bIE ?_)))
        rw [nI_1]; exact h
      rcases ih2 with ⟨q1, q2⟩ | ⟨q1, x6, q2⟩
      · exact Or.inl ⟨q1, go _ q2⟩
      · exact Or.inr ⟨q1, x6, go _ q2⟩
    · rw [hb] at hbit
      have h112 : ∀ (y0 : Int32) u, f_X12_out_74 lp fu x1 x2 (nI n) x4 (nI s) (nI (nK (zd s n (k + 1)) 8)) y0 (nI (k + 1)) N = u → f_X12_out_112 lp (f_X12_out_74 lp fu) x1 x2 (nI n) x4 (nI s) (nI (nK (zd s n k) 8)) (nI k) y0 N = u := fun y0 u h => by
        refine gixE k rfl hk8 (by decide) (cbE hsy (bIE (bIE ?_)))
        have e := zd_t (n := n) hk8 hb
        rw [hP k hk8, nI_mul, Nat.mul_comm, ← e, nI_subK, nI_1]
        exact h
      by_cases h0 : dg n k = 0
      · obtain ⟨fu, rfl⟩ : ∃ z, fu = z + 1 := ⟨fu - 1, by omega⟩
        refine Or.inr ⟨fun z => z k hk8 hb h0, nI (nK (zd s n (k + 1)) 8), ?_⟩
        refine iteF (h8k hk8) (iteF (by decide) (iteT hbit (cbE hsy (iteT (by rw [h0]; decide) (h112 0 _ ?_)))))
        by_cases h8 : (8 : Int32) ≤ nI (k + 1)
        · exact iteT h8 rfl
        · exact iteF h8 (iteT rfl rfl)
      · have ih2 := ih (k + 1) fu (by omega) (by omega) (fun f hf h => by
          by_cases e : f = k
          · subst e; exact h0
          · exact hok f (by omega) h)
        have hd := dg_lt n k
        have go : ∀ u, f_X12_out_74 lp fu x1 x2 (nI n) x4 (nI s) (nI (nK (zd s n (k + 1)) 8)) 1 (nI (k + 1)) N = u → f_X12_out_74 lp (fu + 1) x1 x2 (nI n) x4 (nI s) (nI (nK (zd s n k) 8)) 1 (nI k) N = u := fun u h => iteF (h8k hk8) (iteF (by decide) (iteT hbit (cbE hsy (iteF (nI_nle (by omega) (by omega)) (h112 1 _ h)))))
        rcases ih2 with ⟨q1, q2⟩ | ⟨q1, x6, q2⟩
        · exact Or.inl ⟨q1, go _ q2⟩
        · exact Or.inr ⟨q1, x6, go _ q2⟩
theorem c_left (s n : Nat) (hs : s < 256) : f_X11_bothWays (nI s) = some (eP (Nat.testBit s) (Nat.testBit s)) ∧ eD (dg n) &&& (eP (Nat.testBit s) (Nat.testBit s) ^^^ (-1)) = eD (dg (nK (zd s n 8) 8)) := by
  refine ⟨by rw [w_eP hs]; exact v_bothWays _, ?_⟩
  have e : eD (dg (nK (zd s n 8) 8)) = eD (zd s n 8) := eD_congr (fun f hf => dg_nK 8 (zd_D3 s n 8) f hf)
  rw [e]
  unfold eD
  rw [eP_andn]
  refine eP_congr (fun f hf => ?_) (fun f hf => ?_)
  · unfold zd
    cases hb : Nat.testBit s f
    · rw [if_neg (fun z => by cases z.2)]
      rw [Bool.not_false, Bool.and_true]
    · rw [if_pos ⟨hf, rfl⟩, Bool.not_true, Bool.and_false]; rfl
  · unfold zd
    cases hb : Nat.testBit s f
    · rw [if_neg (fun z => by cases z.2)]
      rw [Bool.not_false, Bool.and_true]
    · rw [if_pos ⟨hf, rfl⟩, Bool.not_true, Bool.and_false]; rfl
theorem c_inF (s n : Nat) (hs : s < 256) : ((∀ f, f < 8 → Nat.testBit s f = true → ¬ dg n f = 0) → f_X11_isWithin (nI s) (eP (fun f => dg n f == 1 || dg n f == 2) (fun _ => false)) = some 1) ∧ (¬ (∀ f, f < 8 → Nat.testBit s f = true → ¬ dg n f = 0) → f_X11_isWithin (nI s) (eP (fun f => dg n f == 1 || dg n f == 2) (fun _ => false)) = some 0) := by
  have hiff : ∀ f, (dg n f == 1 || dg n f == 2) = true ↔ ¬ dg n f = 0 := fun f => by
    rcases lt3 (dg_lt n f) with h | h | h <;> rw [h] <;> decide
  rw [w_eP hs]
  refine ⟨fun h => v_within1 ⟨fun f hf hb => (hiff f).mpr (h f hf hb), fun f _ hb => by cases hb⟩, fun h => v_within0 (fun z => h (fun f hf hb => (hiff f).mp (z.1 f hf hb)))⟩
theorem out_loop (R : Rel RD S M) {i n : Nat} (hi : i < 6) (hn : n < 6561) (f : Int32) : ∀ (j k fu fv : Nat) (N : MS) (y : Int32) (l : Nat), k + j = 256 → j < fu → j < fv → ME M N (M.1 1) → ((y = -1 ∧ l = 9) ∨ ∃ b, b < 256 ∧ y = nI b ∧ l = cK (Nat.testBit b) 8) → Two RD M (f_X11_out_41 RD fu (nI i) f (eD (dg n)) y (nI l) (nI k) S) (f_X12_out_35 fv (nI i) f (nI n) y (nI k) N) := by
  have L := R.lf
  have hW := L.wf
  have hE := hW.he
  intro j
  induction j with
  | zero =>
    intro k fu fv N y l hk hf hg hN hy
    obtain rfl : k = 256 := by omega
    obtain ⟨fu, rfl⟩ : ∃ z, fu = z + 1 := ⟨fu - 1, by omega⟩
    obtain ⟨fv, rfl⟩ : ∃ z, fv = z + 1 := ⟨fv - 1, by omega⟩
    have hB : BB y 6561 := by
      rcases hy with h | ⟨b, hb, h, _⟩
      · exact Or.inl h.1
      · exact Or.inr ⟨b, by omega, h⟩
    refine two_short_end R hB hN (fun u h => ?_) (fun u h => ?_)
    · simp only [f_X11_out_41]
      exact iteT (by decide) h
    · simp only [f_X12_out_35]
      exact iteT (by decide) h
  | succ j ih =>
    intro k fu fv N y l hk hf hg hN hy
    obtain ⟨fu, rfl⟩ : ∃ z, fu = z + 1 := ⟨fu - 1, by omega⟩
    obtain ⟨fv, rfl⟩ : ∃ z, fv = z + 1 := ⟨fv - 1, by omega⟩
    have hk6 : k < 256 := by omega
    have hle : ¬ (255 : Int32) < nI k := fun z => nI_nlt (a := 255) (b := k) (by omega) (by decide) z
    have hle2 : ¬ (256 : Int32) ≤ nI k := fun z => nI_ge (a := k) (b := 256) (by omega) (by decide) z
    have hlK : cK (Nat.testBit k) 8 ≤ 8 := cK_le _ 8
    obtain ⟨c1, c2⟩ := c_left k n hk6
    have c3 : f_X11_factsOf (eD (dg n)) = some (eP (fun f => dg n f == 1 || dg n f == 2) (fun _ => false)) := v_factsOf _ _
    obtain ⟨c4, c5⟩ := c_inF k n hk6
    have hzn : nK (zd k n 8) 8 < 6561 := nK_lt 8 (zd_D3 k n 8)
    have gf := c_floor hW L.abc hi (dg_D3 (nK (zd k n 8) 8)) hE
    rw [← L.h.2] at gf
    have c114 : ∀ (y2 : Int32) (l2 : Nat) u, f_X11_out_41 RD fu (nI i) f (eD (dg n)) y2 (nI l2) (nI (k + 1)) S = u → f_X11_out_114 RD (f_X11_out_41 RD fu) (nI i) f (eD (dg n)) y2 (nI l2) (nI k) S = u := fun y2 l2 u h => by
      refine bIE ?_
      rw [nI_1]; exact h
    have r160 : ∀ (y2 : Int32) (N2 : MS) u, f_X12_out_35 fv (nI i) f (nI n) y2 (nI (k + 1)) N2 = u → f_X12_out_160 (f_X12_out_35 fv) (nI i) f (nI n) y2 (nI k) N2 = u := fun y2 N2 u h => by
      refine bIE ?_
      rw [nI_1]; exact h
    have cgo : ∀ (r23 : Int32) u, f_X11_isWithin (nI k) (eP (fun f => dg n f == 1 || dg n f == 2) (fun _ => false)) = some r23 → (if (r23 = 0 : Prop) then f_X11_out_114 RD (f_X11_out_41 RD fu) (nI i) f (eD (dg n)) y (nI l) (nI k) S else cs (f_J6_bitCount_0f7a4 (nI k)) fun r27 => if (nI l ≤ r27 : Prop) then f_X11_out_114 RD (f_X11_out_41 RD fu) (nI i) f (eD (dg n)) y (nI l) (nI k) S else cb (f_X4_floor RD (nI i) (eD (dg (nK (zd k n 8) 8))) (S.2 0) S) fun r32 S30 => if (r32 < f : Prop) then f_X11_out_114 RD (f_X11_out_41 RD fu) (nI i) f (eD (dg n)) y (nI l) (nI k) (sL S S30) else cs (f_J6_bitCount_0f7a4 (nI k)) fun r34 => f_X11_out_114 RD (f_X11_out_41 RD fu) (nI i) f (eD (dg n)) (nI k) r34 (nI k) (sL S S30)) = u → f_X11_out_41 RD (fu + 1) (nI i) f (eD (dg n)) y (nI l) (nI k) S = u := fun r23 u h1 h2 => by
      refine iteF hle (csE c1 (bIE (csE c3 (csE h1 ?_))))
      rw [c2]
      exact h2
    -- whether the set is smaller than the best one so far
    have rgo : ∀ u, (¬ nI l ≤ nI (cK (Nat.testBit k) 8) → f_X12_out_74 (f_X12_out_35 fv) 7000 (nI i) f (nI n) y (nI k) (nI n) 1 0 N = u) → (nI l ≤ nI (cK (Nat.testBit k) 8) → f_X12_out_74 (f_X12_out_35 fv) 7000 (nI i) f (nI n) y (nI k) (nI n) 0 0 N = u) → f_X12_out_35 (fv + 1) (nI i) f (nI n) y (nI k) N = u := fun u h1 h2 => by
      refine iteF hle2 ?_
      rcases hy with ⟨rfl, rfl⟩ | ⟨b, hb, rfl, rfl⟩
      · exact iteT (by decide) (h1 (nI_ge (by omega) (by decide)))
      · refine iteF (nI_pos (by omega)) (csE (m_bits hk6) (csE (m_bits hb) ?_))
        by_cases q : nI (cK (Nat.testBit b) 8) ≤ nI (cK (Nat.testBit k) 8)
        · exact iteT q (h2 q)
        · exact iteF q (h1 q)
    have skip := ih (k + 1) fu fv N y l (by omega) (by omega) (by omega) hN hy
    have r140 : ∀ (x6 : Int32) u, f_X12_out_35 fv (nI i) f (nI n) y (nI (k + 1)) N = u → f_X12_out_140 (f_X12_out_35 fv) (nI i) f (nI n) y (nI k) x6 0 N = u := fun x6 u h => by
      unfold f_X12_out_140
      exact iteT rfl (r160 y N _ h)
    have r74z : ∀ u, f_X12_out_35 fv (nI i) f (nI n) y (nI (k + 1)) N = u → f_X12_out_74 (f_X12_out_35 fv) 7000 (nI i) f (nI n) y (nI k) (nI n) 0 0 N = u := fun u h => by
      have e : ∀ fu : Nat, f_X12_out_74 (f_X12_out_35 fv) (fu + 1) (nI i) f (nI n) y (nI k) (nI n) 0 (nI 0) N = f_X12_out_140 (f_X12_out_35 fv) (nI i) f (nI n) y (nI k) (nI n) 0 N := fun fu => by
        simp only [f_X12_out_74]
        exact iteF (by decide) (iteT trivial rfl)
      exact (e 6999).trans (r140 _ _ h)
    have h74 := r_out_74 (hN.pow R.pow) hk6 hn (f_X12_out_35 fv) (nI i) f y 8 0 7000 (by decide) (by decide) (fun g hg => absurd hg (Nat.not_lt_zero g))
    rw [zd_0, nK_small hn] at h74
    by_cases q : nI l ≤ nI (cK (Nat.testBit k) 8)
    · -- not fewer
      refine Two.eqs skip (fun u h => ?_) (fun u h => rgo _ (fun z => absurd q z) (fun _ => r74z _ h))
      by_cases hin : ∀ f, f < 8 → Nat.testBit k f = true → ¬ dg n f = 0
      · exact cgo 1 _ (c4 hin) (iteF ne10 (csE (c_bits hk6) (iteT q (c114 y l _ h))))
      · exact cgo 0 _ (c5 hin) (iteT rfl (c114 y l _ h))
    · rcases h74 with ⟨hin, e74⟩ | ⟨hin, x6, e74⟩
      · obtain ⟨N1, g1, g2⟩ := r_floorBy hW (hN.pow R.pow) (hN.1.trans R.hr) hE hi hzn
        rw [hN.1] at g1
        have hN1 := hN.trans g1
        have r140' : ∀ u, (if (rFl (M.1 1) i (dg (nK (zd k n 8) 8)) (rE (M.1 1)) < f : Prop) then f_X12_out_160 (f_X12_out_35 fv) (nI i) f (nI n) y (nI k) N1 else f_X12_out_160 (f_X12_out_35 fv) (nI i) f (nI n) (nI k) (nI k) N1) = u → f_X12_out_35 (fv + 1) (nI i) f (nI n) y (nI k) N = u := fun u h => by
          refine rgo _ (fun _ => e74.trans ?_) (fun z => absurd z q)
          unfold f_X12_out_140
          exact iteF (by decide) (cbE g2 h)
        by_cases hlt : rFl (M.1 1) i (dg (nK (zd k n 8) 8)) (rE (M.1 1)) < f
        · refine Two.eqs (ih (k + 1) fu fv N1 y l (by omega) (by omega) (by omega) hN1 hy) (fun u h => cgo 1 _ (c4 hin) (iteF ne10 (csE (c_bits hk6) (iteF q (cbE gf (iteT hlt ?_)))))) (fun u h => r140' _ (iteT hlt (r160 y N1 _ h)))
          rw [sL_self]
          exact c114 y l _ h
        · refine Two.eqs (ih (k + 1) fu fv N1 (nI k) (cK (Nat.testBit k) 8) (by omega) (by omega) (by omega) hN1 (Or.inr ⟨k, hk6, rfl, rfl⟩)) (fun u h => cgo 1 _ (c4 hin) (iteF ne10 (csE (c_bits hk6) (iteF q (cbE gf (iteF hlt (csE (c_bits hk6) ?_))))))) (fun u h => r140' _ (iteF hlt (r160 (nI k) N1 _ h)))
          rw [sL_self]
          exact c114 (nI k) _ _ h
      · exact Two.eqs skip (fun u h => cgo 0 _ (c5 hin) (iteT rfl (c114 y l _ h))) (fun u h => rgo _ (fun _ => e74.trans (r140 x6 _ h)) (fun z => absurd z q))
theorem two_out (R : Rel RD S M) (a b : Int32) : Two RD M (f_X11_out RD a b S) (f_X12_out a b M) := by
  cases h1 : inR a (rN (M.1 1))
  · exact two_err R 1 1 (-1000000001) (by decide) rfl (by decide) (fun y T h => cbE (R.cR a) (iteT (b0 h1) (cbE h rfl))) (fun y T h => cbE (R.rR a) (iteT (b0 h1) (cbE h rfl)))
  cases h2 : inR b 10
  · exact two_err R 1 1 (-1000000001) (by decide) rfl (by decide) (fun y T h => cbE (R.cR a) (iteF (b1n h1) (csE (c_isGoal b) (iteT (b0 h2) (cbE h rfl))))) (fun y T h => cbE (R.rR a) (iteF (b1n h1) (csE (r_isFloor b) (iteT (b0 h2) (cbE h rfl)))))
  · have hn7 := R.n7
    obtain ⟨i, hi, rfl, _⟩ := inR_t h1
    have hi6 : i < 6 := by omega
    have hs := R.lf.wf.s hi6
    refine Two.eqs (out_loop R hi6 hs.2 b 256 0 600 7000 M (-1) 9 (by decide) (by decide) (by decide) ME.rf (Or.inl ⟨rfl, rfl⟩)) (fun u h => cbE (R.cR _) (iteF (b1n h1) (csE (c_isGoal _) (iteF (b1n h2) (gixE i rfl hi6 (by decide) (bIE ?_)))))) (fun u h => cbE (R.rR _) (iteF (b1n h1) (csE (r_isFloor _) (iteF (b1n h2) (cbE ((r_its (M := M) (i := i) (w := 2) (x := 2) rfl (by omega)).trans (by rw [hs.1])) h)))))
    rw [(R.lf.rr i hi6).2.1]
    exact h
end SEARCH

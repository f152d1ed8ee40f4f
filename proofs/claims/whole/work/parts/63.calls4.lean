/-! ===== the calls, both sides: rides and days ===== -/
theorem sF_sF (S : MS) (k : Nat) (v x : Int32) : sF (sF S k v) k x = sF S k x := by
  refine Prod.ext rfl (funext fun j => ?_)
  show upd (upd S.2 k v) k x j = upd S.2 k x j
  by_cases h : j = k
  · subst h; rw [upd_eq, upd_eq]
  · rw [upd_ne h, upd_ne h, upd_ne h]
theorem sL_F (S : MS) {k : Nat} (hk : k < 40) (v : Int32) : sL S (sF S k v) = sF S k v := by
  refine Prod.ext (funext fun c => ?_) (funext fun j => ?_)
  · show (if c < 7 then S.1 c else S.1 c) = S.1 c
    split <;> rfl
  · show (if j < 40 then upd S.2 k v j else S.2 j) = upd S.2 k v j
    by_cases h : j < 40
    · rw [if_pos h]
    · rw [if_neg h, upd_ne (by omega)]
theorem sL_FF (S : MS) {k l : Nat} (hk : k < 40) (hl : l < 40) (v x : Int32) : sL S (sF (sF S k v) l x) = sF (sF S k v) l x := by
  refine Prod.ext (funext fun c => ?_) (funext fun j => ?_)
  · show (if c < 7 then S.1 c else S.1 c) = S.1 c
    split <;> rfl
  · show (if j < 40 then upd (upd S.2 k v) l x j else S.2 j) = upd (upd S.2 k v) l x j
    by_cases h : j < 40
    · rw [if_pos h]
    · rw [if_neg h, upd_ne (by omega), upd_ne (by omega)]
theorem HR_HR {r : Nat → Int32} {d e : Nat → Nat} {a b x y : Int32} : HR (HR r d a b) e x y = HR r e x y := by
  funext j
  show (if 10 ≤ j ∧ j < 18 then _ else if j = 1 then x else if j = 0 then y else if 10 ≤ j ∧ j < 18 then _ else if j = 1 then a else if j = 0 then b else r j) = (if 10 ≤ j ∧ j < 18 then _ else if j = 1 then x else if j = 0 then y else r j)
  by_cases h1 : 10 ≤ j ∧ j < 18
  · rw [if_pos h1, if_pos h1]
  · rw [if_neg h1, if_neg h1, if_neg h1]
    by_cases h2 : j = 1
    · rw [if_pos h2, if_pos h2]
    · rw [if_neg h2, if_neg h2, if_neg h2]
      by_cases h3 : j = 0
      · rw [if_pos h3, if_pos h3]
      · rw [if_neg h3, if_neg h3, if_neg h3]
theorem rE_HR {r : Nat → Int32} {e : Nat → Nat} {x y : Int32} (he : D3 e) {f : Nat} (hf : f < 8) : rE (HR r e x y) f = e f := by
  unfold rE
  rw [HR_h r e x y hf]
  exact nI_clamp (by have := he f hf; omega)
/-- the lift where what is heard, the rides, the day are others -/
theorem Lf.hr {r : Nat → Int32} {RD : RDt} {S S2 : MS} (L : Lf r RD S) {e : Nat → Nat} {x y : Int32} (he : D3 e) (hx : isNI x 10000) (hy : isNI y 10000) (h0 : S2.2 0 = eD e) (h3 : S2.2 3 = y) (h4 : S2.2 4 = x) (ho : ∀ k, k < 40 → ¬ k = 0 → ¬ k = 3 → ¬ k = 4 → S2.2 k = S.2 k) (ha : ∀ c, c < 7 → S2.1 c = S.1 c) : Lf (HR r e x y) RD S2 := by
  have hne : ∀ j, ¬ (10 ≤ j ∧ j < 18 ∨ j < 2) → HR r e x y j = r j := fun j hj => HR_o r e x y (by omega)
  have o1 := ho 1 (by decide) (by decide) (by decide) (by decide)
  have o2 := ho 2 (by decide) (by decide) (by decide) (by decide)
  have o5 := ho 5 (by decide) (by decide) (by decide) (by decide)
  have o6 := ho 6 (by decide) (by decide) (by decide) (by decide)
  have o7 := ho 7 (by decide) (by decide) (by decide) (by decide)
  have o8 := ho 8 (by decide) (by decide) (by decide) (by decide)
  have o20 := ho 20 (by decide) (by decide) (by decide) (by decide)
  have o30 := ho 30 (by decide) (by decide) (by decide) (by decide)
  unfold Lf
  rw [h0, h3, h4, o1, o2, o5, o6, o7, o8, o20, o30, ha 1 (by decide), ha 2 (by decide), ha 3 (by decide), ha 4 (by decide), ha 5 (by decide), ha 6 (by decide)]
  exact ⟨⟨fun f hf => by rw [HR_h r e x y hf]; exact isNI_of (he f hf) (by decide), eD_congr (fun f hf => (rE_HR he hf).symm)⟩, L.rr.cg (fun j _ _ => hne j (by omega)), L.n.cg (hne 3 (by omega)), L.t.cg (hne 9 (by omega)), L.w.cg (hne 8 (by omega)), ⟨hy, rfl⟩, ⟨hx, rfl⟩, L.z.cg (hne 2 (by omega)), L.p.cg (hne 4 (by omega)) (fun j _ _ => hne j (by omega)), L.q.cg (hne 5 (by omega)) (fun j _ _ => hne j (by omega)), L.l.cg (fun j _ _ _ => hne j (by omega))⟩
theorem jmin_n {k : Nat} (hk : k < 2 ^ 31) : jmin 9999 (nI k) = nI (min 9999 k) := by
  unfold jmin
  by_cases h : k < 9999
  · rw [if_pos (show nI k < 9999 from nI_lt (b := 9999) h (by decide)), Nat.min_eq_right (by omega)]
  · rw [if_neg (show ¬ nI k < 9999 from nI_nlt (b := 9999) (by omega) hk), Nat.min_eq_left (by omega)]
    rfl
theorem inc_n {k : Nat} (hk : k ≤ 9999) : inc (nI k) = nI (min 9999 (k + 1)) := by
  have hj := heldI_j (v := nI (k + 1)) (lo := 0) (hi := 9999) (by decide)
  unfold inc
  rw [nI_1, ← hj, jmin_n (by omega)]
  unfold jmax
  by_cases h : (0 : Int32) < nI (min 9999 (k + 1))
  · rw [if_pos h]
  · exact absurd (nI_lt (a := 0) (b := min 9999 (k + 1)) (by omega) (by omega)) h
theorem incK_n {a : Nat} (ha : a ≤ 9999) : ∀ m, incK (nI a) m = nI (min 9999 (a + m))
  | 0 => by rw [Nat.add_zero, Nat.min_eq_right ha]; rfl
  | m + 1 => by
    show inc (incK (nI a) m) = _
    rw [incK_n ha m, inc_n (Nat.min_le_left _ _)]
    congr 1
    omega
theorem incK_add (x : Int32) (a : Nat) : ∀ b, incK (incK x a) b = incK x (a + b)
  | 0 => rfl
  | b + 1 => congrArg inc (incK_add x a b)
section CALLS4
variable {RD : RDt} {S M : MS}
theorem two_ride (R : Rel RD S M) (a : Int32) : Two RD M (f_X11_ride RD a S) (f_X12_ride a M) := by
  have L := R.lf
  cases h1 : inR a (rN (M.1 1))
  · exact two_err R 1 1 (-1000000001) (by decide) rfl (by decide) (fun y T h => cbE (R.cR a) (iteT (b0 h1) (cbE h rfl))) (fun y T h => cbE (R.rR a) (iteT (b0 h1) (cbE h rfl)))
  · have hn7 := R.n7
    obtain ⟨i, hi, rfl, _⟩ := inR_t h1
    have hi6 : i < 6 := by omega
    have hW := L.wf
    have hE := hW.he
    obtain ⟨M2, g1, g2⟩ := r_rides hW R.pow R.hr hE hi6
    have gf := c_floor hW L.abc hi6 (dg_D3 (rS (M.1 1) i)) hE
    have ga := c_afterRide hW L.abc hi6 hE
    rw [← (L.rr i hi6).2.1, ← L.h.2] at gf
    rw [← L.h.2] at ga
    obtain ⟨x, hx, hx1, _⟩ := isNI_ex L.x.1
    have hs4 : S.2 4 = nI x := L.x.2.trans hx1
    refine Two.go R (v := rFl (M.1 1) i (dg (rS (M.1 1) i)) (rE (M.1 1))) (S2 := sF (sF S 0 (eD (rAf (M.1 1) i (rE (M.1 1))))) 4 (nI (min 9999 (x + 1)))) (M2 := M2) ?_ (cbE (R.rR _) (iteF (b1n h1) (cbE g2 rfl))) ((SK.setF (by decide) _).trans (SK.setF (by decide) _)) (MK.of g1) ?_
    · refine cbE (R.cR _) (iteF (b1n h1) (gixE i rfl hi6 (by decide) (cbE gf ?_)))
      rw [sL_self]
      refine cbE ga ?_
      rw [sL_self]
      refine cbE (r := 0) (S := sF (sF S 0 (eD (rAf (M.1 1) i (rE (M.1 1))))) 4 (nI (min 9999 (x + 1)))) (bIE ?_) ?_
      · show some ((0 : Int32), sF (sF S 0 (eD (rAf (M.1 1) i (rE (M.1 1))))) 4 (jmin 9999 (S.2 4 + 1))) = _
        rw [hs4, nI_1, jmin_n (by omega)]
      · rw [sL_F _ (by decide)]
    · rw [g1.1]
      refine L.hr (rAf_D3 hE) ?_ L.d.1 rfl L.d.2 ?_ (fun k h1 h2 h3 h4 => (upd_ne h4).trans (upd_ne h2)) (fun _ _ => rfl)
      · rw [hx1, inc_n (by omega)]
        exact isNI_of (by omega) (by decide)
      · rw [hx1, inc_n (by omega)]
        rfl
/-- the days' loop: q is the row where the day and the rides are as they were -/
def Inv (RD : RDt) (S0 M0 : MS) (k : Nat) (q : Nat → Int32) (T M : MS) : Prop := Lf q RD T ∧ M.1 1 = HR q (rE q) (incK (q 1) (k * rN q)) (q 0 + nI k) ∧ q 1 = M0.1 1 1 ∧ q 0 = M0.1 1 0 ∧ rN q = rN (M0.1 1) ∧ SK S0 T ∧ MK M0 M ∧ MPow M
theorem inv_0 (R : Rel RD S M) : Inv RD S M 0 (M.1 1) S M := by
  refine ⟨R.lf, ?_, rfl, rfl, rfl, SK.rf, MK.rf, R.pow⟩
  rw [Nat.zero_mul, nI_0, Int32.add_zero]
  exact R.hr
theorem inv_day {k : Nat} {q : Nat → Int32} {T N : MS} (I : Inv RD S M k q T N) : ∃ (q2 : Nat → Int32) (N2 : MS), Inv RD S M (k + 1) q2 (sF T 0 (eD (rDy q (rE q)))) N2 ∧ f_X4_afterDay RD (T.2 0) T = some (eD (rDy q (rE q)), T) ∧ f_X12_oneDay N = some (0, N2) := by
  obtain ⟨L, i1, i2, i3, i4, i5, i6, i7⟩ := I
  have hW := L.wf
  have hE := hW.he
  have hD := rDy_D3 (r := q) hE
  obtain ⟨N2, g1, g2⟩ := r_oneDay hW i7 i1 hE
  have ga := c_afterDay hW L.abc hE
  rw [← L.h.2] at ga
  refine ⟨HR q (rDy q (rE q)) (q 1) (q 0), N2, ⟨?_, ?_, i2, i3, ?_, i5.trans (SK.setF (by decide) _), i6.trans (MK.of g1), g1.pow i7⟩, ga, g2⟩
  · exact L.hr hD L.x.1 L.d.1 rfl L.d.2 L.x.2 (fun j _ h2 _ _ => upd_ne h2) (fun _ _ => rfl)
  · have e1 : HR q (rDy q (rE q)) (q 1) (q 0) 1 = q 1 := rfl
    have e0 : HR q (rDy q (rE q)) (q 1) (q 0) 0 = q 0 := rfl
    have eN : rN (HR q (rDy q (rE q)) (q 1) (q 0)) = rN q := by unfold rN; rw [HR_o _ _ _ _ (by omega)]
    rw [g1.1, e1, e0, eN, HR_HR, incK_add, Nat.succ_mul, Int32.add_assoc, nI_1]
    exact HR_congr (fun f hf => (rE_HR hD hf).symm)
  · rw [← i4]
    unfold rN
    rw [HR_o _ _ _ _ (by omega)]
theorem inv_end {n : Nat} {q : Nat → Int32} {T N : MS} (I : Inv RD S M n q T N) (hn : n ≤ 60) (hd : (M.1 1 0).toNatClampNeg + n ≤ 9999) : ∃ T2 : MS, f_X4_countDays RD (nI n) T = some (0, T2) ∧ sL T T2 = T2 ∧ SK S T2 ∧ Lf (N.1 1) RD T2 ∧ f_X11_numberOf (T2.2 0) = some (nI (nK (rE q) 8)) ∧ f_X12_heardAll N = some (nI (nK (rE q) 8), N) := by
  obtain ⟨L, i1, i2, i3, i4, i5, i6, i7⟩ := I
  have hW := L.wf
  have hE := hW.he
  obtain ⟨x, hx, hx1, _⟩ := isNI_ex L.x.1
  obtain ⟨d, hdd, hd1, hd2⟩ := isNI_ex L.d.1
  have hn7 : rN q < 7 := L.n.1.2
  have hs3 : T.2 3 = nI d := L.d.2.trans hd1
  have hs4 : T.2 4 = nI x := L.x.2.trans hx1
  have hs6 : T.2 6 = nI (rN q) := L.n.2.trans L.n.1.1
  have hdn : d + n ≤ 9999 := by rw [← i3, hd2] at hd; exact hd
  have hmul : n * rN q ≤ 60 * 6 := Nat.mul_le_mul hn (by omega)
  refine ⟨sF (sF T 3 (nI (d + n))) 4 (nI (min 9999 (x + n * rN q))), ?_, sL_FF _ (by decide) (by decide) _ _, i5.trans ((SK.setF (by decide) _).trans (SK.setF (by decide) _)), ?_, ?_, r_heardAll i7 i1 hE⟩
  · refine bIE (cbE (r := 0) (S := sF (sF T 3 (nI (d + n))) 4 (nI (min 9999 (x + n * rN q)))) (bIE ?_) rfl)
    show some ((0 : Int32), sF (sF T 3 (T.2 3 + nI n)) 4 (jmin 9999 (T.2 4 + nI n * T.2 6))) = _
    rw [hs3, hs4, hs6, nI_mul, nI_add, nI_add, jmin_n (by omega)]
  · rw [i1, hx1, hd1, nI_add, incK_n (by omega)]
    refine L.hr hE (isNI_of (by omega) (by decide)) (isNI_of (by omega) (by decide)) L.h.2 rfl rfl (fun k _ _ h3 h4 => (upd_ne h4).trans (upd_ne h3)) (fun _ _ => rfl)
  · show f_X11_numberOf (T.2 0) = _
    rw [L.h.2]
    exact v_numberOf hE
theorem days_loop {n : Nat} (hn : n ≤ 60) (hd : (M.1 1 0).toNatClampNeg + n ≤ 9999) : ∀ (j k fu : Nat) (q : Nat → Int32) (T N : MS), k + j = n → j < fu → Inv RD S M k q T N → ∃ (v : Int32) (T2 N2 : MS), f_X11_days_40 RD fu (nI n) (nI k) T = some (v, T2) ∧ f_X12_days_40 fu (nI n) (nI k) N = some (v, N2) ∧ SK S T2 ∧ MK M N2 ∧ Lf (N2.1 1) RD T2 := by
  intro j
  induction j with
  | zero =>
    intro k fu q T N hk hf I
    obtain rfl : k = n := by omega
    obtain ⟨fu, rfl⟩ : ∃ z, fu = z + 1 := ⟨fu - 1, by omega⟩
    obtain ⟨T2, e1, e2, e3, e4, e5, e6⟩ := inv_end I hn hd
    have hle : nI k ≤ nI k := nI_le (Nat.le_refl _) (by omega)
    refine ⟨nI (nK (rE q) 8), T2, N, iteT hle (cbE e1 ?_), iteT hle (cbE e6 rfl), e3, I.2.2.2.2.2.2.1, e4⟩
    rw [e2]
    exact csE e5 rfl
  | succ j ih =>
    intro k fu q T N hk hf I
    obtain ⟨fu, rfl⟩ : ∃ z, fu = z + 1 := ⟨fu - 1, by omega⟩
    have hle : ¬ nI n ≤ nI k := nI_ge (by omega) (by omega)
    obtain ⟨q2, N2, I2, g1, g2⟩ := inv_day I
    obtain ⟨v, T3, N3, k1, k2, k3⟩ := ih (k + 1) fu q2 _ N2 (by omega) (by omega) I2
    refine ⟨v, T3, N3, iteF hle (cbE g1 (bIE ?_)), iteF hle (cbE g2 (bIE ?_)), k3⟩
    · rw [sL_self, nI_1]; exact k1
    · rw [nI_1]; exact k2
theorem two_days (R : Rel RD S M) (a : Int32) : Two RD M (f_X11_days RD a S) (f_X12_days a M) := by
  have L := R.lf
  by_cases h0 : a < 1
  · exact two_err R 1 1 (-1000000001) (by decide) rfl (by decide) (fun y T h => iteT h0 (cbE h rfl)) (fun y T h => csE (r := 0) (iteT h0 rfl) (iteT rfl (cbE h rfl)))
  · by_cases h1 : a ≤ 60
    · obtain ⟨n, hn, rfl⟩ : ∃ k, k ≤ 60 ∧ a = nI k := by
        have n0 : ¬ a < 0 := fun z => h0 (by
          rw [Int32.lt_iff_toInt_lt] at z ⊢
          have e0 : (0 : Int32).toInt = 0 := by decide
          have e1 : (1 : Int32).toInt = 1 := by decide
          omega)
        exact nI_of2 (n := 60) (by decide) n0 h1
      have hin : f_X12_in (nI n) 1 60 = some 1 := iteF h0 (iteF (Int32.not_lt.mpr h1) rfl)
      obtain ⟨d, hd, hd1, hd2⟩ := isNI_ex L.d.1
      have hs3 : S.2 3 = nI d := L.d.2.trans hd1
      by_cases h2 : d + n ≤ 9999
      · have hle : nI d + nI n ≤ 9999 := by rw [nI_add]; exact nI_le (b := 9999) h2 (by decide)
        obtain ⟨v, T2, N2, k1, k2, k3, k4, k5⟩ := days_loop (n := n) (by omega) (by rw [hd2]; exact h2) n 0 100 (M.1 1) S M (by omega) (by omega) (inv_0 R)
        exact Two.go R (iteF h0 (iteT h1 (iteT (by rw [hs3]; exact hle) k1))) (csE hin (iteF ne10 (iteT (by rw [hd1]; exact hle) k2))) k3 k4 k5
      · have hle : ¬ nI d + nI n ≤ 9999 := by rw [nI_add]; exact nI_ge (a := 9999) (by omega) (by omega)
        exact two_err R 3 3 (-1000000003) (by decide) rfl (by decide) (fun y T h => iteF h0 (iteT h1 (iteF (by rw [hs3]; exact hle) (cbE h rfl)))) (fun y T h => csE hin (iteF ne10 (iteF (by rw [hd1]; exact hle) (cbE h rfl))))
    · exact two_err R 1 1 (-1000000001) (by decide) rfl (by decide) (fun y T h => iteF h0 (iteF h1 (cbE h rfl))) (fun y T h => csE (r := 0) (iteF h0 (iteT (Int32.not_le.mp h1) rfl)) (iteT rfl (cbE h rfl)))
end CALLS4

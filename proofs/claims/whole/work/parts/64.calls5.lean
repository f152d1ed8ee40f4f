/-! ===== the calls, both sides: rumours, then, when, still, check ===== -/
theorem ushr8 (x : Int32) : ∃ m, m < 2 ^ 24 ∧ jushr x 8 = nI m := by
  have hm : (x.toUInt32 >>> ((8 : Int32).toUInt32 &&& Int32.toUInt32 31)).toNat = x.toUInt32.toNat / 256 := by
    rw [show (8 : Int32).toUInt32 &&& Int32.toUInt32 31 = 8 by decide, UInt32.toNat_shiftRight, show (8 : UInt32).toNat % 32 = 8 by decide, Nat.shiftRight_eq_div_pow]
  have hlt := x.toUInt32.toNat_lt
  refine ⟨(x.toUInt32 >>> ((8 : Int32).toUInt32 &&& Int32.toUInt32 31)).toNat, by rw [hm]; omega, ?_⟩
  show (x.toUInt32 >>> ((8 : Int32).toUInt32 &&& Int32.toUInt32 31)).toInt32 = nI (x.toUInt32 >>> ((8 : Int32).toUInt32 &&& Int32.toUInt32 31)).toNat
  generalize x.toUInt32 >>> ((8 : Int32).toUInt32 &&& Int32.toUInt32 31) = y
  apply Int32.toBitVec_inj.mp
  show y.toBitVec = BitVec.ofNat 32 y.toBitVec.toNat
  apply BitVec.eq_of_toNat_eq
  rw [BitVec.toNat_ofNat, Nat.mod_eq_of_lt y.toBitVec.isLt]
theorem drawn_rem (x : Int32) (n : Nat) (h0 : 0 < n) (hn : n < 2 ^ 31) : ∃ f, f < n ∧ jrem (jushr x 8) (nI n) = nI f := by
  obtain ⟨m, hm, e⟩ := ushr8 x
  exact ⟨m % n, Nat.mod_lt _ h0, by rw [e, jrem_nI (by omega) h0 hn]⟩
section CALLS5
variable {RD : RDt} {S M : MS}
theorem AbC.sg {r : Nat → Int32} {RD : RDt} {S S2 : MS} (A : AbC r RD S) (h2 : S2.2 2 = S.2 2) (h6 : S2.2 6 = S.2 6) (h1 : S2.1 1 = S.1 1) (h4 : S2.1 4 = S.1 4) : AbC r RD S2 := by
  unfold AbC
  rw [h2, h6, h1, h4]
  exact A
theorem sF_ne (T : MS) {k j : Nat} (h : ¬ j = k) {z : Int32} : (sF T k z).2 j = T.2 j := if_neg h
theorem sF_at (T : MS) (k : Nat) (z : Int32) : (sF T k z).2 k = z := if_pos rfl
theorem sA_at (N : MS) (j i : Nat) (z : Int32) : (sA N j i z).1 j i = z := by
  show (if j = j then upd (N.1 j) i z else N.1 j) i = z
  rw [if_pos rfl, upd_eq]
theorem sA_sA (N : MS) (j i : Nat) (a b : Int32) : sA (sA N j i a) j i b = sA N j i b := by
  refine Prod.ext (funext fun c => ?_) rfl
  show (if c = j then upd ((sA N j i a).1 j) i b else (sA N j i a).1 c) = (if c = j then upd (N.1 j) i b else N.1 c)
  by_cases h : c = j
  · rw [if_pos h, if_pos h]
    funext z
    show upd (if j = j then upd (N.1 j) i a else N.1 j) i b z = upd (N.1 j) i b z
    rw [if_pos rfl]
    by_cases hz : z = i
    · subst hz; rw [upd_eq, upd_eq]
    · rw [upd_ne hz, upd_ne hz, upd_ne hz]
  · rw [if_neg h, if_neg h]
    exact if_neg h
theorem inv_put {k : Nat} {q : Nat → Int32} {T N : MS} (I : Inv RD S M k q T N) {f v : Nat} (hf : f < 8) (hv : v < 3) (z2 : Int32) : Inv RD S M k (upd (upd q 2 z2) (10 + f) (nI v)) (sF (sF T 5 z2) 0 (eD (fun g => if g = f then v else rE q g))) (sA (sA N 1 2 z2) 1 (10 + f) (nI v)) ∧ (∀ g, g < 8 → (if g = f then v else rE q g) = rE (upd (upd q 2 z2) (10 + f) (nI v)) g) := by
  obtain ⟨L, i1, i2, i3, i4, i5, i6, i7⟩ := I
  have hq2 : ∀ j, ¬ j = 2 → ¬ j = 10 + f → upd (upd q 2 z2) (10 + f) (nI v) j = q j := fun j h1 h2 => (upd_ne h2).trans (upd_ne h1)
  have hne : ∀ j, ¬ (j = 2 ∨ j = 10 + f) → upd (upd q 2 z2) (10 + f) (nI v) j = q j := fun j h => hq2 j (fun z => h (Or.inl z)) (fun z => h (Or.inr z))
  have hEq : ∀ g, g < 8 → (if g = f then v else rE q g) = rE (upd (upd q 2 z2) (10 + f) (nI v)) g := fun g hg => by
    show _ = (upd (upd q 2 z2) (10 + f) (nI v) (10 + g)).toNatClampNeg
    by_cases e : g = f
    · subst e; rw [upd_eq, if_pos rfl, nI_clamp (by omega)]
    · rw [if_neg e, hq2 _ (by omega) (by omega)]; rfl
  have L2 : Lf (upd (upd q 2 z2) (10 + f) (nI v)) RD (sF (sF T 5 z2) 0 (eD (fun g => if g = f then v else rE q g))) := by
    refine ⟨⟨fun g hg => ?_, eD_congr hEq⟩, L.rr.cg (fun j _ _ => hne j (by omega)), L.n.cg (hne 3 (by omega)), L.t.cg (hne 9 (by omega)), L.w.cg (hne 8 (by omega)), L.d.cg (hne 0 (by omega)), L.x.cg (hne 1 (by omega)), ?_, L.p.cg (hne 4 (by omega)) (fun j _ _ => hne j (by omega)), L.q.cg (hne 5 (by omega)) (fun j _ _ => hne j (by omega)), L.l.cg (fun j _ _ _ => hne j (by omega))⟩
    · by_cases e : g = f
      · subst e; rw [upd_eq]; exact isNI_of hv (by decide)
      · rw [hq2 _ (by omega) (by omega)]; exact L.h.1 g hg
    · show z2 = upd (upd q 2 z2) (10 + f) (nI v) 2
      rw [upd_ne (by omega), upd_eq]
  have hrow : (sA (sA N 1 2 z2) 1 (10 + f) (nI v)).1 1 = HR (upd (upd q 2 z2) (10 + f) (nI v)) (rE (upd (upd q 2 z2) (10 + f) (nI v))) (incK (q 1) (k * rN q)) (q 0 + nI k) := by
    show upd (upd (N.1 1) 2 z2) (10 + f) (nI v) = _
    funext j
    by_cases h1 : j = 10 + f
    · subst h1
      rw [upd_eq, HR_h _ _ _ _ hf, ← hEq f hf, if_pos rfl]
    · rw [upd_ne h1]
      by_cases h2 : j = 2
      · subst h2
        rw [upd_eq, HR_o _ _ _ _ (by omega), upd_ne (by omega), upd_eq]
      · rw [upd_ne h2, i1]
        by_cases h3 : 10 ≤ j ∧ j < 18
        · obtain ⟨g, hg, rfl⟩ : ∃ g, g < 8 ∧ j = 10 + g := ⟨j - 10, by omega, by omega⟩
          rw [HR_h _ _ _ _ hg, HR_h _ _ _ _ hg, ← hEq g hg, if_neg (by omega)]
        · show (if 10 ≤ j ∧ j < 18 then _ else if j = 1 then _ else if j = 0 then _ else q j) = (if 10 ≤ j ∧ j < 18 then _ else if j = 1 then _ else if j = 0 then _ else upd (upd q 2 z2) (10 + f) (nI v) j)
          rw [if_neg h3, if_neg h3, hq2 j h2 h1]
  have hNk : MK N (sA (sA N 1 2 z2) 1 (10 + f) (nI v)) := (MK.set1 _ _).trans (MK.set1 _ _)
  have e1 : upd (upd q 2 z2) (10 + f) (nI v) 1 = q 1 := hq2 1 (by omega) (by omega)
  have e0 : upd (upd q 2 z2) (10 + f) (nI v) 0 = q 0 := hq2 0 (by omega) (by omega)
  have eN : rN (upd (upd q 2 z2) (10 + f) (nI v)) = rN q := by unfold rN; rw [hq2 3 (by omega) (by omega)]
  refine ⟨⟨L2, ?_, e1.trans i2, e0.trans i3, eN.trans i4, i5.trans ((SK.setF (by decide) _).trans (SK.setF (by decide) _)), i6.trans hNk, fun g hg => by rw [hNk.1 5 (by omega)]; exact i7 g hg⟩, hEq⟩
  rw [hrow, e1, e0, eN]
theorem c_draw2 {T : MS} {z1 z2 : Int32} (h1 : T.2 5 * 1103515245 + 12345 = z1) (h2 : z1 * 1103515245 + 12345 = z2) : f_X4_draw RD T = some (jushr z1 8, sF T 5 z1) ∧ f_X4_draw RD (sF T 5 z1) = some (jushr z2 8, sF T 5 z2) := by
  refine ⟨bIE ?_, bIE ?_⟩
  · rw [h1]
  · rw [sF_at T 5 z1, h2, sF_sF]
theorem r_draw2 {N : MS} {z1 z2 : Int32} {f v : Nat} (h1 : N.1 1 2 * 1103515245 + 12345 = z1) (h2 : z1 * 1103515245 + 12345 = z2) (e1 : jrem (jushr z1 8) 8 = nI f) (e2 : jrem (jushr z2 8) 3 = nI v) : f_X12_drawn 8 N = some (nI f, sA N 1 2 z1) ∧ f_X12_drawn 3 (sA N 1 2 z1) = some (nI v, sA N 1 2 z2) := by
  have u : ∀ (N : MS) (z : Int32), (sA N 1 2 z).1 1 2 = z := fun N z => sA_at N 1 2 z
  refine ⟨bIE (gnzE (by decide) ?_), bIE (gnzE (by decide) ?_)⟩
  · rw [h1, u, e1]
  · rw [u N z1, h2, u, e2, sA_sA]
theorem inv_rum {k : Nat} {q : Nat → Int32} {T N : MS} (I : Inv RD S M k q T N) : ∃ (q2 : Nat → Int32) (T2 N2 : MS), Inv RD S M (k + 1) q2 T2 N2 ∧ (∀ (n : Int32) (fu : Nat) (x : Option (Int32 × MS)), ¬ n ≤ nI k → f_X11_rumours_40 RD fu n (nI (k + 1)) T2 = x → f_X11_rumours_40 RD (fu + 1) n (nI k) T = x) ∧ (∀ (n : Int32) (fu : Nat) (x : Option (Int32 × MS)), ¬ n ≤ nI k → f_X12_rumours_40 fu n (nI (k + 1)) N2 = x → f_X12_rumours_40 (fu + 1) n (nI k) N = x) := by
  have L := I.1
  have i1 := I.2.1
  generalize hz1 : T.2 5 * 1103515245 + 12345 = z1
  generalize hz2 : z1 * 1103515245 + 12345 = z2
  obtain ⟨f, hf, ef⟩ := drawn_rem z1 8 (by decide) (by decide)
  obtain ⟨v, hv, ev⟩ := drawn_rem z2 3 (by decide) (by decide)
  have ef : jrem (jushr z1 8) 8 = nI f := ef
  have ev : jrem (jushr z2 8) 3 = nI v := ev
  have hn2 : N.1 1 2 = T.2 5 := by rw [i1, HR_o _ _ _ _ (by omega)]; exact L.z.symm
  obtain ⟨I2, hEq⟩ := inv_put I hf hv z2
  obtain ⟨d1, d2⟩ := c_draw2 (RD := RD) hz1 hz2
  obtain ⟨d3, d4⟩ := r_draw2 (N := N) (by rw [hn2]; exact hz1) hz2 ef ev
  have ew : f_X11_withSaying ((sF T 5 z2).2 0) (nI f) (nI v) = some (eD (rE (upd (upd q 2 z2) (10 + f) (nI v)))) := by
    rw [← eD_congr hEq]
    show f_X11_withSaying (T.2 0) (nI f) (nI v) = _
    rw [L.h.2]
    exact v_withSaying hf hv
  have A2 : AbC (upd (upd q 2 z2) (10 + f) (nI v)) RD (sF T 5 z2) := AbC.sg I2.1.abc (sF_ne _ (show ¬ 2 = 0 by decide)).symm (sF_ne _ (show ¬ 6 = 0 by decide)).symm rfl rfl
  have ga := c_afterDay I2.1.wf A2 I2.1.wf.he
  obtain ⟨q3, N3, I3, g1, g2⟩ := inv_day I2
  rw [sF_sF] at I3
  have s1 : sL T (sF T 5 z1) = sF T 5 z1 := sL_F T (by decide) z1
  have s2 : sL (sF T 5 z1) (sF T 5 z2) = sF T 5 z2 := by
    have h := sL_F (sF T 5 z1) (k := 5) (by decide) z2
    rw [sF_sF] at h
    exact h
  have s3 : sL (sF T 5 z2) (sF T 5 z2) = sF T 5 z2 := sL_self _
  refine ⟨q3, _, N3, I3, fun n fu x hle h => ?_, fun n fu x hle h => ?_⟩
  · refine iteF hle (cbE d1 (bIE ?_))
    rw [s1]
    refine cbE d2 (bIE ?_)
    rw [s2, ef, ev]
    refine csE ew (cbE ga (bIE ?_))
    rw [s3, nI_1]
    exact h
  · refine iteF hle (cbE d3 (cbE d4 (gixE (10 + f) (l10 f) (by omega) (by decide) (cbE g2 (bIE ?_)))))
    rw [nI_1]
    exact h
theorem rumours_loop {n : Nat} (hn : n ≤ 60) (hd : (M.1 1 0).toNatClampNeg + n ≤ 9999) : ∀ (j k fu : Nat) (q : Nat → Int32) (T N : MS), k + j = n → j < fu → Inv RD S M k q T N → ∃ (v : Int32) (T2 N2 : MS), f_X11_rumours_40 RD fu (nI n) (nI k) T = some (v, T2) ∧ f_X12_rumours_40 fu (nI n) (nI k) N = some (v, N2) ∧ SK S T2 ∧ MK M N2 ∧ Lf (N2.1 1) RD T2 := by
  intro j
  induction j with
  | zero =>
    intro k fu q T N hk hf I
    obtain rfl : k = n := by omega
    obtain ⟨fu, rfl⟩ : ∃ z, fu = z + 1 := ⟨fu - 1, by omega⟩
    obtain ⟨T2, e1, e2, e3, e4, e5, e6⟩ := inv_end I hn hd
    have hle : nI k ≤ nI k := nI_le (Nat.le_refl _) (by omega)
    refine ⟨nI (nK (rE q) 8), T2, N, iteT hle (cbE e1 ?_), iteT hle (cbE e6 rfl), e3, I.2.2.2.2.2.2.1, e4⟩
    rw [e2]
    exact csE e5 rfl
  | succ j ih =>
    intro k fu q T N hk hf I
    obtain ⟨fu, rfl⟩ : ∃ z, fu = z + 1 := ⟨fu - 1, by omega⟩
    have hle : ¬ nI n ≤ nI k := nI_ge (by omega) (by omega)
    obtain ⟨q2, T2, N2, I2, g1, g2⟩ := inv_rum I
    obtain ⟨v, T3, N3, k1, k2, k3⟩ := ih (k + 1) fu q2 _ N2 (by omega) (by omega) I2
    exact ⟨v, T3, N3, g1 (nI n) fu _ hle k1, g2 (nI n) fu _ hle k2, k3⟩
theorem two_rumours (R : Rel RD S M) (a : Int32) : Two RD M (f_X11_rumours RD a S) (f_X12_rumours a M) := by
  have L := R.lf
  by_cases h0 : a < 1
  · exact two_err R 1 1 (-1000000001) (by decide) rfl (by decide) (fun y T h => iteT h0 (cbE h rfl)) (fun y T h => csE (r := 0) (iteT h0 rfl) (iteT rfl (cbE h rfl)))
  · by_cases h1 : a ≤ 40
    · obtain ⟨n, hn, rfl⟩ : ∃ k, k ≤ 40 ∧ a = nI k := by
        have n0 : ¬ a < 0 := fun z => h0 (by
          rw [Int32.lt_iff_toInt_lt] at z ⊢
          have e0 : (0 : Int32).toInt = 0 := by decide
          have e1 : (1 : Int32).toInt = 1 := by decide
          omega)
        exact nI_of2 (n := 40) (by decide) n0 h1
      have hin : f_X12_in (nI n) 1 40 = some 1 := iteF h0 (iteF (Int32.not_lt.mpr h1) rfl)
      obtain ⟨d, hd, hd1, hd2⟩ := isNI_ex L.d.1
      have hs3 : S.2 3 = nI d := L.d.2.trans hd1
      by_cases h2 : d + n ≤ 9999
      · have hle : nI d + nI n ≤ 9999 := by rw [nI_add]; exact nI_le (b := 9999) h2 (by decide)
        obtain ⟨v, T2, N2, k1, k2, k3, k4, k5⟩ := rumours_loop (n := n) (by omega) (by rw [hd2]; exact h2) n 0 100 (M.1 1) S M (by omega) (by omega) (inv_0 R)
        exact Two.go R (iteF h0 (iteT h1 (iteT (by rw [hs3]; exact hle) k1))) (csE hin (iteF ne10 (iteT (by rw [hd1]; exact hle) k2))) k3 k4 k5
      · have hle : ¬ nI d + nI n ≤ 9999 := by rw [nI_add]; exact nI_ge (a := 9999) (by omega) (by omega)
        exact two_err R 3 3 (-1000000003) (by decide) rfl (by decide) (fun y T h => iteF h0 (iteT h1 (iteF (by rw [hs3]; exact hle) (cbE h rfl)))) (fun y T h => csE hin (iteF ne10 (iteF (by rw [hd1]; exact hle) (cbE h rfl))))
    · exact two_err R 1 1 (-1000000001) (by decide) rfl (by decide) (fun y T h => iteF h0 (iteF h1 (cbE h rfl))) (fun y T h => csE (r := 0) (iteF h0 (iteT (Int32.not_le.mp h1) rfl)) (iteT rfl (cbE h rfl)))
/-! what is only thought -/
def Th (M : MS) (e : Nat → Nat) (N : MS) : Prop := D3 e ∧ MPow N ∧ ∃ x y, ME (sM M 1 3) N (HR (M.1 1) e x y)
theorem th_0 (R : Rel RD S M) : Th M (rE (M.1 1)) (sM M 1 3) := ⟨R.lf.wf.he, R.pow, _, _, R.hr, fun _ _ => rfl, fun _ _ => rfl⟩
theorem th_day (R : Rel RD S M) {e : Nat → Nat} {N : MS} (T : Th M e N) : ∃ N2 : MS, Th M (rDy (M.1 1) e) N2 ∧ f_X12_oneDay N = some (0, N2) := by
  obtain ⟨he, hP, x, y, hM⟩ := T
  obtain ⟨N2, g1, g2⟩ := r_oneDay R.lf.wf hP hM.1 he
  exact ⟨N2, ⟨rDy_D3 he, g1.pow hP, _, _, hM.trans g1⟩, g2⟩
theorem th_floor (R : Rel RD S M) {e : Nat → Nat} {N : MS} (T : Th M e N) {i n : Nat} (hi : i < 6) (hn : n < 6561) : ∃ N2 : MS, Th M e N2 ∧ f_X12_floorBy (nI i) (nI n) N = some (rFl (M.1 1) i (dg n) e, N2) := by
  obtain ⟨he, hP, x, y, hM⟩ := T
  obtain ⟨N2, g1, g2⟩ := r_floorBy R.lf.wf hP hM.1 he hi hn
  rw [hM.1] at g1
  exact ⟨N2, ⟨he, g1.pow hP, _, _, hM.trans g1⟩, g2⟩
theorem th_floorOf (R : Rel RD S M) {e : Nat → Nat} {N : MS} (T : Th M e N) {i : Nat} (hi : i < 6) : ∃ N2 : MS, Th M e N2 ∧ f_X12_floorOf (nI i) N = some (rFl (M.1 1) i (dg (rS (M.1 1) i)) e, N2) := by
  obtain ⟨he, hP, x, y, hM⟩ := T
  obtain ⟨N2, g1, g2⟩ := r_floorOf R.lf.wf hP hM.1 he hi
  rw [hM.1] at g1
  exact ⟨N2, ⟨he, g1.pow hP, _, _, hM.trans g1⟩, g2⟩
theorem th_num {e : Nat → Nat} {N : MS} (T : Th M e N) : f_X12_heardAll N = some (nI (nK e 8), N) := by
  obtain ⟨he, hP, x, y, hM⟩ := T
  exact r_heardAll hP hM.1 he
theorem th_o {e : Nat → Nat} {N : MS} (T : Th M e N) {j : Nat} (h : 2 ≤ j ∧ (j < 10 ∨ 18 ≤ j)) : N.1 1 j = M.1 1 j := by
  obtain ⟨he, hP, x, y, hM⟩ := T
  rw [hM.1, HR_o _ _ _ _ h]
theorem th_back (R : Rel RD S M) {e : Nat → Nat} {N : MS} (T : Th M e N) : Rel RD S (sM N 3 1) ∧ (sM N 3 1).1 2 = M.1 2 ∧ (sM N 3 1).2 0 = M.2 0 := by
  obtain ⟨he, hP, x, y, hM⟩ := T
  have h3 : N.1 3 = M.1 1 := hM.2.1 3 (by decide)
  have hK : MK M (sM N 3 1) := ⟨fun c hc => by
    show (if c = 1 then _ else N.1 c) = M.1 c
    rw [if_neg (by omega), hM.2.1 c (by omega)]
    show (if c = 3 then _ else M.1 c) = M.1 c
    rw [if_neg (by omega)], fun k hk => hM.2.2 k hk⟩
  refine ⟨⟨?_, R.xr.go SK.rf hK, hP⟩, hK.1 2 (by omega), hK.2 0 (by omega)⟩
  show Lf (N.1 3) RD S
  rw [h3]
  exact R.lf
theorem Two.back (R : Rel RD S M) {e : Nat → Nat} {N : MS} {fc fr : Option (Int32 × MS)} {v : Int32} (T : Th M e N) (h1 : fc = some (v, S)) (h2 : fr = some (v, sM N 3 1)) : Two RD M fc fr := ⟨v, S, _, h1, h2, th_back R T⟩
theorem two_errB (R : Rel RD S M) {e : Nat → Nat} {N : MS} {fc fr : Option (Int32 × MS)} (T : Th M e N) (h1 : ∀ y T, f_X11_error RD 2 S = some (y, T) → fc = some (y, T)) (h2 : ∀ y T, f_X12_errs (-1000000002) (sM N 3 1) = some (y, T) → fr = some (y, T)) : Two RD M fc fr := by
  obtain ⟨R2, k1, k2⟩ := th_back R T
  obtain ⟨v, S2, M2, g1, g2, g3, g4, g5⟩ := two_err (fc := fc) (fr := fr) R2 2 2 (-1000000002) (by decide) rfl (by decide) h1 h2
  exact ⟨v, S2, M2, g1, g2, g3, g4.trans k1, g5.trans k2⟩
theorem then_loop (R : Rel RD S M) {n : Nat} (hn : n ≤ 60) : ∀ (j k fu : Nat) (e : Nat → Nat) (N : MS), k + j = n → j < fu → Th M e N → Two RD M (f_X11_then_26 RD fu (nI n) (eD e) (nI k) S) (f_X12_then_31 fu (nI n) (nI k) N) := by
  intro j
  induction j with
  | zero =>
    intro k fu e N hk hf T
    obtain rfl : k = n := by omega
    obtain ⟨fu, rfl⟩ : ∃ z, fu = z + 1 := ⟨fu - 1, by omega⟩
    have hle : nI k ≤ nI k := nI_le (Nat.le_refl _) (by omega)
    exact Two.back R (v := nI (nK e 8)) T (iteT hle (csE (v_numberOf T.1) rfl)) (iteT hle (cbE (th_num T) rfl))
  | succ j ih =>
    intro k fu e N hk hf T
    obtain ⟨fu, rfl⟩ : ∃ z, fu = z + 1 := ⟨fu - 1, by omega⟩
    have hle : ¬ nI n ≤ nI k := nI_ge (by omega) (by omega)
    obtain ⟨N2, T2, g2⟩ := th_day R T
    have ga := c_afterDay R.lf.wf R.lf.abc T.1
    obtain ⟨v, S2, M2, k1, k2, k3⟩ := ih (k + 1) fu _ N2 (by omega) (by omega) T2
    refine ⟨v, S2, M2, iteF hle (cbE ga (bIE ?_)), iteF hle (cbE g2 (bIE ?_)), k3⟩
    · rw [sL_self, nI_1]; exact k1
    · rw [nI_1]; exact k2
theorem two_then (R : Rel RD S M) (a : Int32) : Two RD M (f_X11_then RD a S) (f_X12_then a M) := by
  cases h1 : inR a 61
  · refine two_err R 1 1 (-1000000001) (by decide) rfl (by decide) (fun y T h => ?_) (fun y T h => csE (r_in (by decide)) (iteT (b0 h1) (cbE h rfl)))
    rcases rng_out h1 60 (by decide) with h0 | ⟨h0, h2⟩
    · exact iteT h0 (cbE h rfl)
    · exact iteF h0 (iteF h2 (cbE h rfl))
  · obtain ⟨h0, h2⟩ := rng_in h1
    obtain ⟨n, hn, rfl, _⟩ := inR_t h1
    obtain ⟨v, S2, M2, k1, k2, k3⟩ := then_loop R (n := n) (by omega) n 0 100 _ _ (by omega) (by omega) (th_0 R)
    refine ⟨v, S2, M2, iteF h0 (iteT (h2 60 (by decide)) (bIE ?_)), csE (r_in (by decide)) (iteF (b1n h1) k2), k3⟩
    rw [R.lf.h.2]
    exact k1
theorem when_loop (R : Rel RD S M) {i : Nat} (hi : i < 6) (a : Int32) : ∀ (j k fu : Nat) (e : Nat → Nat) (N : MS), k + j = 61 → j < fu → Th M e N → Two RD M (f_X11_when_32 RD fu (nI i) a (eD e) (nI k) S) (f_X12_when_36 fu (nI i) a (nI k) N) := by
  intro j
  induction j with
  | zero =>
    intro k fu e N hk hf T
    obtain rfl : k = 61 := by omega
    obtain ⟨fu, rfl⟩ : ∃ z, fu = z + 1 := ⟨fu - 1, by omega⟩
    refine two_errB R T (fun y T h => ?_) (fun y T h => ?_)
    · simp only [f_X11_when_32]
      exact iteT (by decide) (cbE h rfl)
    · simp only [f_X12_when_36, f_X12_when_61]
      exact iteT (by decide) (iteF (by decide) (cbE h rfl))
  | succ j ih =>
    intro k fu e N hk hf T
    obtain ⟨fu, rfl⟩ : ∃ z, fu = z + 1 := ⟨fu - 1, by omega⟩
    have hle : ¬ (60 : Int32) < nI k := nI_nlt (a := 60) (b := k) (by omega) (by decide)
    have hle2 : nI k ≤ (60 : Int32) := nI_le (a := k) (b := 60) (by omega) (by decide)
    have hW := R.lf.wf
    have hs := (R.lf.rr i hi).2.1
    obtain ⟨N1, T1, g1⟩ := th_floorOf R T hi
    have gf := c_floor hW R.lf.abc hi (dg_D3 (rS (M.1 1) i)) T.1
    rw [← hs] at gf
    by_cases hlt : rFl (M.1 1) i (dg (rS (M.1 1) i)) e < a
    · obtain ⟨N2, T2, g2⟩ := th_day R T1
      have ga := c_afterDay hW R.lf.abc T.1
      obtain ⟨v, S2, M2, k1, k2, k3⟩ := ih (k + 1) fu _ N2 (by omega) (by omega) T2
      refine ⟨v, S2, M2, iteF hle (gixE i rfl hi (by decide) (cbE gf (iteT hlt ?_))), iteF hle (cbE g1 (iteF (Int32.not_le.mpr hlt) (cbE g2 (bIE ?_)))), k3⟩
      · rw [sL_self]
        refine cbE ga (bIE ?_)
        rw [sL_self, nI_1]; exact k1
      · rw [nI_1]; exact k2
    · refine Two.back R (v := nI k) T1 (iteF hle (gixE i rfl hi (by decide) (cbE gf (iteF hlt ?_)))) (iteF hle (cbE g1 (iteT (Int32.not_lt.mp hlt) ?_)))
      · rw [sL_self]
      · exact iteT hle2 rfl
theorem two_when (R : Rel RD S M) (a b : Int32) : Two RD M (f_X11_when RD a b S) (f_X12_when a b M) := by
  cases h1 : inR a (rN (M.1 1))
  · exact two_err R 1 1 (-1000000001) (by decide) rfl (by decide) (fun y T h => cbE (R.cR a) (iteT (b0 h1) (cbE h rfl))) (fun y T h => cbE (R.rR a) (iteT (b0 h1) (cbE h rfl)))
  · cases h2 : inR b 10
    · exact two_err R 1 1 (-1000000001) (by decide) rfl (by decide) (fun y T h => cbE (R.cR a) (iteF (b1n h1) (csE (c_isGoal b) (iteT (b0 h2) (cbE h rfl))))) (fun y T h => cbE (R.rR a) (iteF (b1n h1) (csE (r_isFloor b) (iteT (b0 h2) (cbE h rfl)))))
    · have hn7 := R.n7
      obtain ⟨i, hi, rfl, _⟩ := inR_t h1
      obtain ⟨v, S2, M2, k1, k2, k3⟩ := when_loop R (i := i) (by omega) b 61 0 100 _ _ (by omega) (by omega) (th_0 R)
      refine ⟨v, S2, M2, cbE (R.cR _) (iteF (b1n h1) (csE (c_isGoal b) (iteF (b1n h2) (bIE ?_)))), cbE (R.rR _) (iteF (b1n h1) (csE (r_isFloor b) (iteF (b1n h2) k2))), k3⟩
      rw [R.lf.h.2]
      exact k1
theorem still_s (n : Nat) (x1 x2 : Int32) (N : MS) : f_X12_still_16 (n + 1) x1 x2 N = (if (60 < x1 : Prop) then f_X12_still_45 x1 N else cb (f_X12_heardAll N) fun r8 S6 => if (x2 = r8 : Prop) then f_X12_still_45 x1 S6 else cb (f_X12_heardAll S6) fun r12 S10 => cb (f_X12_oneDay S10) fun _ S13 => bI (x1 + 1) fun v16 => f_X12_still_16 n v16 r12 S13) := rfl
theorem still_loop2 (R : Rel RD S M) : ∀ (j k fu fv : Nat) (e : Nat → Nat) (N : MS), k + j = 61 → j < fu → j < fv → D3 e → Th M (rDy (M.1 1) e) N → Two RD M (f_X11_still_10 RD fu (eD e) (nI k) S) (f_X12_still_16 fv (nI k) (nI (nK e 8)) N) := by
  intro j
  induction j with
  | zero =>
    intro k fu fv e N hk hf hg he T
    obtain rfl : k = 61 := by omega
    obtain ⟨fu, rfl⟩ : ∃ z, fu = z + 1 := ⟨fu - 1, by omega⟩
    obtain ⟨fv, rfl⟩ : ∃ z, fv = z + 1 := ⟨fv - 1, by omega⟩
    refine two_errB R T (fun y T h => ?_) (fun y T h => ?_)
    · simp only [f_X11_still_10]
      exact iteT (by decide) (cbE h rfl)
    · simp only [f_X12_still_16, f_X12_still_45]
      exact iteT (by decide) (iteF (by decide) (cbE h rfl))
  | succ j ih =>
    intro k fu fv e N hk hf hg he T
    obtain ⟨fu, rfl⟩ : ∃ z, fu = z + 1 := ⟨fu - 1, by omega⟩
    obtain ⟨fv, rfl⟩ : ∃ z, fv = z + 1 := ⟨fv - 1, by omega⟩
    have hle : ¬ (60 : Int32) < nI k := nI_nlt (a := 60) (b := k) (by omega) (by decide)
    have hle2 : nI k ≤ (60 : Int32) := nI_le (a := k) (b := 60) (by omega) (by decide)
    have ga := c_afterDay R.lf.wf R.lf.abc he
    have l1 := nK_lt 8 he
    have l2 := nK_lt 8 T.1
    by_cases heq : nK e 8 = nK (rDy (M.1 1) e) 8
    · have hc : eD (rDy (M.1 1) e) = eD e := (eD_num T.1 he).mpr heq.symm
      refine Two.back R (v := nI k) T (iteF hle (cbE ga (iteT hc ?_))) (iteF hle (cbE (th_num T) (iteT (by rw [heq]) (iteT hle2 rfl))))
      rw [sL_self]
    · have hc : ¬ eD (rDy (M.1 1) e) = eD e := fun z => heq ((eD_num T.1 he).mp z).symm
      have hr : ¬ nI (nK e 8) = nI (nK (rDy (M.1 1) e) 8) := fun z => heq ((nI_eq (by omega) (by omega)).mp z)
      obtain ⟨N2, T2, g2⟩ := th_day R T
      obtain ⟨v, S2, M2, k1, k2, k3⟩ := ih (k + 1) fu fv _ N2 (by omega) (by omega) (by omega) T.1 T2
      refine ⟨v, S2, M2, iteF hle (cbE ga (iteF hc (bIE ?_))), iteF hle (cbE (th_num T) (iteF hr (cbE (th_num T) (cbE g2 (bIE ?_))))), k3⟩
      · rw [sL_self, nI_1]; exact k1
      · rw [nI_1]; exact k2
theorem two_still (R : Rel RD S M) : Two RD M (f_X11_still RD S) (f_X12_still M) := by
  have T := th_0 R
  obtain ⟨N2, T2, g2⟩ := th_day R T
  have l1 := nK_lt 8 T.1
  have hn : ¬ (-1 : Int32) = nI (nK (rE (M.1 1)) 8) := fun z => by
    have h := nI_pos' (n := nK (rE (M.1 1)) 8) (by omega)
    rw [← z] at h
    exact absurd h (by decide)
  obtain ⟨v, S2, M2, c1, c2, c3⟩ : Two RD M (f_X11_still_10 RD 100 (eD (rE (M.1 1))) (nI 0) S) (f_X12_still_16 99 (nI 0) (nI (nK (rE (M.1 1)) 8)) N2) := by
    exact still_loop2 R 61 0 100 99 _ N2 (by omega) (by omega) (by omega) T.1 T2
  refine ⟨v, S2, M2, bIE ?_, ?_, c3⟩
  · rw [R.lf.h.2]; exact c1
  · exact (still_s 99 (-1) (-1) (sM M 1 3)).trans (iteF (by decide) (cbE (th_num T) (iteF hn (cbE (th_num T) (cbE g2 (bIE c2))))))
theorem check_loop (R : Rel RD S M) {n : Nat} (hn : n ≤ 20) : ∀ (j k fu : Nat) (e : Nat → Nat) (N : MS), k + j = n → j + 1 < fu → Th M e N → Two RD M (f_X11_check_26 RD fu (nI n) (eD e) (nI k) S) (f_X12_check_30 fu (nI n) (nI k) 1 N) := by
  intro j
  induction j with
  | zero =>
    intro k fu e N hk hf T
    obtain rfl : k = n := by omega
    obtain ⟨fu, rfl⟩ : ∃ z, fu = z + 1 := ⟨fu - 1, by omega⟩
    have hle : nI k ≤ nI k := nI_le (Nat.le_refl _) (by omega)
    refine Two.back R (v := 0) T (iteT hle rfl) (iteT hle ?_)
    unfold f_X12_check_80
    exact iteF (by decide) rfl
  | succ j ih =>
    intro k fu e N hk hf T
    obtain ⟨fu, rfl⟩ : ∃ z, fu = z + 1 := ⟨fu - 1, by omega⟩
    have hle : ¬ nI n ≤ nI k := nI_ge (by omega) (by omega)
    obtain ⟨N2, T2, g2⟩ := th_day R T
    have ga := c_afterDay R.lf.wf R.lf.abc T.1
    have hq := R.lf.q.2.2 k (by omega)
    have e86 : (86 : Int32) + nI k = nI (86 + k) := by rw [show (86 : Int32) = nI 86 by decide +kernel, nI_add]
    have hN : N2.1 1 (86 + k) = S.1 3 k := (th_o T2 (by omega)).trans hq.symm
    by_cases heq : S.1 3 k = nI (nK (rDy (M.1 1) e) 8)
    · obtain ⟨v, S2, M2, k1, k2, k3⟩ := ih (k + 1) fu _ N2 (by omega) (by omega) T2
      refine ⟨v, S2, M2, iteF hle (cbE ga (gixE k rfl (by omega) (by decide) (csE (v_numberOf T2.1) ?_))), iteF hle (iteF (by decide) (cbE g2 (cbE (th_num T2) (gixE (86 + k) e86 (by omega) (by decide) (iteT (by rw [hN, heq]) ?_))))), k3⟩
      · rw [sL_self]
        refine iteT heq (bIE ?_)
        rw [nI_1]; exact k1
      · unfold f_X12_check_64
        refine iteF (by decide) (bIE ?_)
        rw [nI_1]; exact k2
    · obtain ⟨fu, rfl⟩ : ∃ z, fu = z + 1 := ⟨fu - 1, by omega⟩
      refine Two.back R (v := 1 + nI k) T2 (iteF hle (cbE ga (gixE k rfl (by omega) (by decide) (csE (v_numberOf T2.1) ?_)))) (iteF hle (iteF (by decide) (cbE g2 (cbE (th_num T2) (gixE (86 + k) e86 (by omega) (by decide) (iteF (by rw [hN]; exact fun z => heq z.symm) ?_))))))
      · rw [sL_self]
        exact iteF heq rfl
      · unfold f_X12_check_64
        refine iteT rfl (bIE ?_)
        rw [Int32.add_zero]
        refine iteF hle ?_
        refine iteT rfl ?_
        unfold f_X12_check_80
        exact iteT rfl rfl
theorem two_check (R : Rel RD S M) : Two RD M (f_X11_check RD S) (f_X12_check M) := by
  have L := R.lf
  obtain ⟨n, hn, h5, _⟩ := isNI_ex L.q.1
  have h8 : S.2 8 = nI n := L.q.2.1.trans h5
  have hne : ∀ j, ¬ j = 5 → upd (M.1 1) 5 0 j = M.1 1 j := fun j hj => upd_ne hj
  have L2 : Lf ((sA M 1 5 0).1 1) RD (sF S 8 0) := ⟨L.h.cg (fun j _ _ => hne j (by omega)), L.rr.cg (fun j _ _ => hne j (by omega)), L.n.cg (hne 3 (by omega)), L.t.cg (hne 9 (by omega)), L.w.cg (hne 8 (by omega)), L.d.cg (hne 0 (by omega)), L.x.cg (hne 1 (by omega)), L.z.cg (hne 2 (by omega)), L.p.cg (hne 4 (by omega)) (fun j _ _ => hne j (by omega)), ⟨isNI_of (k := 0) (by decide) (by decide), rfl, fun k hk => (L.q.2.2 k hk).trans (hne _ (by omega)).symm⟩, L.l.cg (fun j _ _ _ => hne j (by omega))⟩
  have R2 : Rel RD (sF S 8 0) (sA M 1 5 0) := ⟨L2, R.xr.go (SK.setF (by decide) _) (MK.set1 _ _), R.pow⟩
  obtain ⟨v, S2, M2, k1, k2, k3, k4, k5⟩ := check_loop R2 (n := n) (by omega) n 0 100 _ _ (by omega) (by omega) (th_0 R2)
  refine ⟨v, S2, M2, bIE (bIE ?_), bIE ?_, k3, k4, k5⟩
  · rw [h8, show S.2 0 = eD (rE ((sA M 1 5 0).1 1)) from L2.h.2]; exact k1
  · rw [h5]; exact k2
end CALLS5

/-! ===== the calls, both sides: crowds ===== -/
theorem eP0_n (p : Nat → Bool) : ∃ w, w < 256 ∧ eP p (fun _ => false) = nI w ∧ ∀ f, f < 8 → Nat.testBit w f = p f := by
  have hb : ∀ i, Nat.testBit (eB p (fun _ => false)).toNat i = (eB p (fun _ => false)).getLsbD i := fun i => BitVec.testBit_toNat _
  refine ⟨(eB p (fun _ => false)).toNat, ?_, ?_, fun f hf => ?_⟩
  · refine Nat.lt_pow_two_of_testBit (n := 8) _ (fun i hi => ?_)
    rw [hb, eB_get, if_neg (by omega)]
    split <;> rfl
  · apply Int32.toBitVec_inj.mp
    show eB p (fun _ => false) = BitVec.ofNat 32 (eB p (fun _ => false)).toNat
    apply BitVec.eq_of_toNat_eq
    rw [BitVec.toNat_ofNat, Nat.mod_eq_of_lt (eB p (fun _ => false)).isLt]
  · rw [hb, eB_get, if_pos hf]
theorem r_bits_eP (p : Nat → Bool) : f_X12_bits (eP p (fun _ => false)) = some (nI (cK p 8)) := by
  obtain ⟨w, hw, e1, e2⟩ := eP0_n p
  rw [e1, m_bits hw]
  exact congrArg (fun z => some (nI z)) (cK_congr 8 e2)
theorem cK_11 {n : Nat} (hn : n < 256) : cK (Nat.testBit n) 11 = cK (Nat.testBit n) 8 := by
  have h : ∀ k, 8 ≤ k → Nat.testBit n k = false := fun k hk => Nat.testBit_lt_two_pow (Nat.lt_of_lt_of_le hn (Nat.pow_le_pow_right (n := 2) (i := 8) (j := k) (by decide) hk))
  rw [cK_s, cK_s, cK_s, h 8 (by decide), h 9 (by decide), h 10 (by decide)]
  rfl
theorem c_bits {n : Nat} (hn : n < 256) : f_J6_bitCount_0f7a4 (nI n) = some (nI (cK (Nat.testBit n) 8)) := by
  rw [v_bitSet (by omega), cK_11 hn]
theorem c_disp (p q : Nat → Bool) : f_J6_bitCount_0f7a4 (eP p q &&& jshr (eP p q) 8) = some (nI (cK (fun f => p f && q f) 8)) := by
  rw [eP_shr8, eP_and]
  have e : eP (fun f => p f && q f) (fun f => q f && false) = eD (fun f => bif p f && q f then 1 else 0) := by
    unfold eD
    refine eP_congr (fun f _ => ?_) (fun f _ => ?_)
    · show (p f && q f) = ((bif p f && q f then 1 else 0) == 1)
      cases p f && q f <;> rfl
    · show (q f && false) = ((bif p f && q f then 1 else 0) == 2)
      rw [Bool.and_false]
      cases p f && q f <;> rfl
  rw [e, v_bitCount (fun f _ => by cases p f && q f <;> decide)]
  refine congrArg (fun z => some (nI z)) (cK_congr 8 (fun f _ => ?_))
  cases p f && q f <;> rfl
theorem r_disp (p q : Nat → Bool) : f_X12_bits (eP p (fun _ => false) &&& eP q (fun _ => false)) = some (nI (cK (fun f => p f && q f) 8)) := by
  rw [eP_and]
  exact r_bits_eP _
theorem eP_z (p q : Nat → Bool) : (eP p q = 0) ↔ (eP p (fun _ => false) ||| eP q (fun _ => false) = 0) := by
  rw [eP_or, eP_0]
  constructor
  · intro h
    have h2 := eP_inj h
    refine eP_congr (fun f hf => ?_) (fun f _ => rfl)
    rw [h2.1 f hf, h2.2 f hf]; rfl
  · intro h
    have h2 := (eP_inj h).1
    refine eP_congr (fun f hf => ?_) (fun f hf => ?_)
    · have := h2 f hf
      cases hp : p f
      · rfl
      · rw [hp] at this; cases this
    · have := h2 f hf
      cases hq : q f
      · rfl
      · rw [hq, Bool.or_true] at this; cases this
theorem Lf.sg2 {r : Nat → Int32} {RD : RDt} {S S2 : MS} (L : Lf r RD S) (h1 : ∀ c, c < 7 → S2.1 c = S.1 c) (h2 : ∀ k, (k ≤ 20 ∨ k = 30) → S2.2 k = S.2 k) : Lf r RD S2 := by
  unfold Lf
  rw [h2 0 (by decide), h2 1 (by decide), h2 2 (by decide), h2 3 (by decide), h2 4 (by decide), h2 5 (by decide), h2 6 (by decide), h2 7 (by decide), h2 8 (by decide), h2 20 (by decide), h2 30 (by decide), h1 1 (by decide), h1 2 (by decide), h1 3 (by decide), h1 4 (by decide), h1 5 (by decide), h1 6 (by decide)]
  exact L
/-- behind the class's walk through a law -/
theorem Lf.lv {r : Nat → Int32} {RD : RDt} {S T : MS} {u : Nat} (hu : u < 2) (L : Lf r RD S) (hT : T.2 0 = S.2 (20 + 10 * u)) : Lf r RD (lvJ u S T) := by
  refine L.sg2 (fun c _ => rfl) (fun k hk => ?_)
  show (if 20 + 10 * u ≤ k ∧ k < 27 + 10 * u then T.2 (k - (20 + 10 * u)) else if k = 27 + 10 * u then 0 else S.2 k) = S.2 k
  by_cases h : k = 20 + 10 * u
  · rw [if_pos (by omega), h, Nat.sub_self, hT]
  · rw [if_neg (by omega), if_neg (by omega)]
theorem Lf.sLl {r : Nat → Int32} {RD : RDt} {S T : MS} (L : Lf r RD T) : Lf r RD (sL S T) := L.sg (fun c hc => if_pos hc) (fun k hk => if_pos hk)
/-- what a crowd's riders say, one rider's sayings put to it -/
def orS (p : Nat → Bool) (n v k : Nat) : Nat → Bool := fun g => p g || (decide (g < k) && dg n g == v)
theorem orS_0 (p : Nat → Bool) (n v : Nat) : eP (orS p n v 0) (fun _ => false) = eP p (fun _ => false) := eP_congr (fun f _ => by unfold orS; rw [decide_eq_false (Nat.not_lt_zero f), Bool.false_and, Bool.or_false]) (fun _ _ => rfl)
theorem orS_t {p : Nat → Bool} {n v k : Nat} (hk : k < 8) (h : dg n k = v) : eP (orS p n v k) (fun _ => false) ||| jshl 1 (nI k) = eP (orS p n v (k + 1)) (fun _ => false) := by
  rw [one_shl k hk, eP_or]
  refine eP_congr (fun f _ => ?_) (fun _ _ => rfl)
  unfold orS
  by_cases e : f = k
  · subst e
    have e1 : (dg n f == v) = true := beq_iff_eq.mpr h
    rw [e1, decide_eq_true (show f < f + 1 by omega), beq_self_eq_true f, Bool.or_true]
    cases p f <;> rfl
  · have e1 : (f == k) = false := beq_eq_false_iff_ne.mpr e
    have e2 : decide (f < k + 1) = decide (f < k) := by
      by_cases h2 : f < k
      · rw [decide_eq_true h2, decide_eq_true (by omega)]
      · rw [decide_eq_false h2, decide_eq_false (by omega)]
    rw [e1, e2, Bool.or_false]
theorem orS_f {p : Nat → Bool} {n v k : Nat} (h : ¬ dg n k = v) : eP (orS p n v k) (fun _ => false) ||| 0 = eP (orS p n v (k + 1)) (fun _ => false) := by
  rw [Int32.or_zero]
  refine eP_congr (fun f _ => ?_) (fun _ _ => rfl)
  unfold orS
  by_cases e : f = k
  · subst e
    have e1 : (dg n f == v) = false := beq_eq_false_iff_ne.mpr h
    rw [e1, Bool.and_false, Bool.and_false]
  · have e2 : decide (f < k + 1) = decide (f < k) := by
      by_cases h2 : f < k
      · rw [decide_eq_true h2, decide_eq_true (by omega)]
      · rw [decide_eq_false h2, decide_eq_false (by omega)]
    rw [e2]
theorem orS_8 (p q : Nat → Bool) (n : Nat) : eP p q ||| eD (dg n) = eP (orS p n 1 8) (orS q n 2 8) := by
  unfold eD
  rw [eP_or]
  refine eP_congr (fun f hf => ?_) (fun f hf => ?_) <;> (unfold orS; rw [decide_eq_true hf, Bool.true_and])
section CROWD
variable {RD : RDt} {S M : MS}
theorem r_ft50 {N : MS} {i n : Nat} (hi : i < 6) (hn : n < 6561) (hP : MPow N) (hs : N.1 1 (18 + 3 * i + 2) = nI n) (lp : Int32 → Int32 → Int32 → Int32 → Int32 → MS → Option (Int32 × MS)) (x1 x2 : Int32) (p q : Nat → Bool) : ∀ (j k fu : Nat), k + j = 8 → j < fu → f_X12_floorTogether_50 lp fu x1 x2 (eP (orS p n 1 k) (fun _ => false)) (eP (orS q n 2 k) (fun _ => false)) (nI i) (nI k) N = lp x1 x2 (eP (orS p n 1 8) (fun _ => false)) (eP (orS q n 2 8) (fun _ => false)) (nI (i + 1)) N := by
  have hits : f_X12_its (nI i) 2 N = some (nI n, N) := (r_its (M := N) (i := i) (w := 2) (x := 2) rfl (by omega)).trans (by rw [hs])
  intro j
  induction j with
  | zero =>
    intro k fu hk hf
    obtain rfl : k = 8 := by omega
    obtain ⟨fu, rfl⟩ : ∃ z, fu = z + 1 := ⟨fu - 1, by omega⟩
    simp only [f_X12_floorTogether_50]
    refine iteT (by decide) (bIE ?_)
    rw [nI_1]
  | succ j ih =>
    intro k fu hk hf
    obtain ⟨fu, rfl⟩ : ∃ z, fu = z + 1 := ⟨fu - 1, by omega⟩
    have hk8 : k < 8 := by omega
    have ih2 := ih (k + 1) fu (by omega) (by omega)
    refine iteF (h8k hk8) (cbE hits (cbE (m_saying hP (by omega) hk8) ?_))
    rcases lt3 (dg_lt n k) with h | h | h
    · rw [← orS_f (p := p) (v := 1) (by omega), ← orS_f (p := q) (v := 2) (by omega)] at ih2
      rw [h]
      refine iteF (by decide) (bIE (iteF (by decide) (bIE (bIE ?_))))
      rw [nI_1]; exact ih2
    · rw [← orS_t (p := p) hk8 h, ← orS_f (p := q) (v := 2) (by omega)] at ih2
      rw [h]
      refine iteT rfl (bIE (iteF (by decide) (bIE (bIE ?_))))
      rw [nI_1]; exact ih2
    · rw [← orS_f (p := p) (v := 1) (by omega), ← orS_t (p := q) hk8 h] at ih2
      rw [h]
      refine iteF (by decide) (bIE (iteT rfl (bIE (bIE ?_))))
      rw [nI_1]; exact ih2
theorem crowd_loop (R : Rel RD S M) {c : Nat} (hc : c < 64) : ∀ (j i fu : Nat) (N : MS) (p q : Nat → Bool) (x : Int32), i + j = rN (M.1 1) → j < fu → ME M N (M.1 1) → ∃ (v : Int32) (T N2 : MS), f_X4_crowdFloor_7 RD fu (nI c) x (eP p q) (nI i) S = some (v, T) ∧ f_X12_floorTogether_10 fu (nI c) x (eP p (fun _ => false)) (eP q (fun _ => false)) (nI i) N = some (v, N2) ∧ ME M N2 (M.1 1) ∧ Lf (M.1 1) RD T := by
  have L := R.lf
  have hW := L.wf
  have hE := hW.he
  have hn7 := R.n7
  intro j
  induction j with
  | zero =>
    intro i fu N p q x hi hf hN
    obtain rfl : i = rN (M.1 1) := by omega
    obtain ⟨fu, rfl⟩ : ∃ z, fu = z + 1 := ⟨fu - 1, by omega⟩
    have hle : nI (rN (M.1 1)) ≤ nI (rN (M.1 1)) := nI_le (Nat.le_refl _) (by omega)
    have h3 : N.1 1 3 = nI (rN (M.1 1)) := by rw [hN.1]; exact R.n3
    obtain ⟨N2, t1, t2, t3⟩ := r_lawOf (r := M.1 1) (M := N) (u := 1) (by decide) (hW.tx (by decide)) (fun j _ _ => by rw [hN.1]) x (nI (cK (Nat.testBit c) 8)) (nI (cK (fun f => p f && q f) 8))
    have hN2 : ME M N2 (M.1 1) := ⟨by rw [t1]; exact hN.1, fun c hc => by rw [t1]; exact hN.2.1 c hc, fun k hk => (t2 k (by omega)).trans (hN.2.2 k hk)⟩
    obtain ⟨k1, k2⟩ := L.l.cl (u := 1) (by decide)
    obtain ⟨T, u1, u2⟩ := c_gives (u := 1) (by decide) k1 k2 x (nI (cK (Nat.testBit c) 8)) (nI (cK (fun f => p f && q f) 8))
    have hr : ∀ z, (if (eP p (fun _ => false) ||| eP q (fun _ => false) = 0 : Prop) then some ((-1), N2) else cs (f_X12_held (rLw (M.1 1) 1 x (nI (cK (Nat.testBit c) 8)) (nI (cK (fun f => p f && q f) 8))) 0 9) fun r10 => some (r10, N2)) = z → f_X12_floorTogether_10 (fu + 1) (nI c) x (eP p (fun _ => false)) (eP q (fun _ => false)) (nI (rN (M.1 1))) N = z := fun z h => iteT (by rw [h3]; exact hle) (csE (m_bits (by omega)) (csE (r_disp p q) (cbE t3 h)))
    by_cases hz : eP p q = 0
    · refine ⟨-1, S, N2, iteT (by rw [R.n6]; exact hle) (iteT hz rfl), hr _ (iteT ((eP_z p q).mp hz) rfl), hN2, L⟩
    · refine ⟨_, lvJ 1 S T, N2, iteT (by rw [R.n6]; exact hle) (iteF hz (csE (c_disp p q) (csE (c_bits (by omega)) (cbE u2 (csE (c_held (by decide)) rfl))))), hr _ (iteF (fun z => hz ((eP_z p q).mpr z)) (csE (r_held _ _ _) rfl)), hN2, L.lv (by decide) u1⟩
  | succ j ih =>
    intro i fu N p q x hi hf hN
    obtain ⟨fu, rfl⟩ : ∃ z, fu = z + 1 := ⟨fu - 1, by omega⟩
    have hle : ¬ nI (rN (M.1 1)) ≤ nI i := nI_ge (by omega) (by omega)
    have h3 : N.1 1 3 = nI (rN (M.1 1)) := by rw [hN.1]; exact R.n3
    have hi6 : i < 6 := by omega
    have hs := hW.s hi6
    have hbit : jshr (nI c) (nI i) &&& 1 = bif Nat.testBit c i then 1 else 0 := bit_set (by omega) (by omega)
    cases hb : Nat.testBit c i
    · rw [hb] at hbit
      obtain ⟨v, T, N2, k1, k2, k3⟩ := ih (i + 1) fu N p q x (by omega) (by omega) hN
      refine ⟨v, T, N2, iteF (by rw [R.n6]; exact hle) (iteT hbit (bIE ?_)), iteF (by rw [h3]; exact hle) (iteF (by rw [hbit]; decide) (bIE ?_)), k3⟩
      · rw [nI_1]; exact k1
      · rw [nI_1]; exact k2
    · rw [hb] at hbit
      have gc := c_credit hW L.abc hi6 (dg_D3 (rS (M.1 1) i)) hE
      rw [← (L.rr i hi6).2.1, ← L.h.2] at gc
      obtain ⟨N1, g1, g2⟩ := r_creditOf hW (hN.pow R.pow) (hN.1.trans R.hr) hE hi6 hs.2
      rw [hN.1] at g1
      have hN1 := hN.trans g1
      obtain ⟨v, T, N2, k1, k2, k3⟩ := ih (i + 1) fu N1 (orS p (rS (M.1 1) i) 1 8) (orS q (rS (M.1 1) i) 2 8) (x + rCr (M.1 1) i (dg (rS (M.1 1) i)) (rE (M.1 1))) (by omega) (by omega) hN1
      refine ⟨v, T, N2, iteF (by rw [R.n6]; exact hle) (iteF (by rw [hbit]; decide) (gixE i rfl hi6 (by decide) (cbE gc (bIE (gixE i rfl hi6 (by decide) (bIE (bIE ?_))))))), iteF (by rw [h3]; exact hle) (iteT hbit (cbE ((r_its (M := N) (i := i) (w := 2) (x := 2) rfl (by omega)).trans (by rw [hN.1, hs.1])) (cbE g2 (bIE ?_)))), k3⟩
      · rw [(L.rr i hi6).2.1, orS_8, nI_1]; exact k1
      · have h50 := r_ft50 hi6 hs.2 (hN1.pow R.pow) (by rw [hN1.1]; exact hs.1) (f_X12_floorTogether_10 fu) (nI c) (x + rCr (M.1 1) i (dg (rS (M.1 1) i)) (rE (M.1 1))) p q 8 0 100 (by decide) (by decide)
        rw [orS_0, orS_0] at h50
        exact h50.trans k2
theorem crowd_both (R : Rel RD S M) {c : Nat} (hc : c < 64) : ∃ (v : Int32) (T N2 : MS), f_X4_crowdFloor RD (nI c) S = some (v, T) ∧ f_X12_floorTogether (nI c) M = some (v, N2) ∧ ME M N2 (M.1 1) ∧ Rel RD (sL S T) N2 := by
  have hn7 := R.n7
  obtain ⟨v, T, N2, k1, k2, k3, k4⟩ := crowd_loop R hc (rN (M.1 1)) 0 100 M (fun _ => false) (fun _ => false) 0 (by omega) (by omega) ME.rf
  rw [← eP_0] at k1 k2
  refine ⟨v, T, N2, k1, k2, k3, ?_, R.xr.go SK.setL (MK.of k3), k3.pow R.pow⟩
  rw [k3.1]
  exact k4.sLl
theorem shl_n : ∀ n, n < 7 → jshl 1 (nI n) = nI (2 ^ n) := by decide +kernel
theorem pow64 {n : Nat} (h : n < 7) : 2 ^ n ≤ 64 := Nat.pow_le_pow_right (n := 2) (i := n) (j := 6) (by decide) (by omega)
theorem two_together (R : Rel RD S M) (a : Int32) : Two RD M (f_X11_together RD a S) (f_X12_together a M) := by
  have hn7 := R.n7
  have hp := pow64 hn7
  have hp1 : 1 ≤ 2 ^ rN (M.1 1) := Nat.one_le_two_pow
  have e1 : jshl 1 (S.2 6) = nI (2 ^ rN (M.1 1)) := by rw [R.n6, shl_n _ hn7]
  have e2 : jshl 1 (M.1 1 3) - 1 = nI (2 ^ rN (M.1 1) - 1) := by
    rw [R.n3, shl_n _ hn7]
    have h := nI_pred (2 ^ rN (M.1 1) - 1)
    rw [Nat.sub_add_cancel hp1] at h
    exact h
  have o1 : (1 : Int32).toInt = 1 := by decide
  have t1 := nI_toInt (n := 2 ^ rN (M.1 1)) (by omega)
  have t2 := nI_toInt (n := 2 ^ rN (M.1 1) - 1) (by omega)
  by_cases h0 : a < 1
  · exact two_err R 1 1 (-1000000001) (by decide) rfl (by decide) (fun y T h => iteT h0 (cbE h rfl)) (fun y T h => csE (r := 0) (iteT h0 rfl) (iteT rfl (cbE h rfl)))
  · by_cases h1 : a < nI (2 ^ rN (M.1 1))
    · have n0 : ¬ a < 0 := fun z => h0 (by
        rw [Int32.lt_iff_toInt_lt] at z ⊢
        have e0 : (0 : Int32).toInt = 0 := by decide
        omega)
      obtain ⟨c, hc, rfl⟩ := nI_of n0
      have hc2 : c < 2 ^ rN (M.1 1) := (nI_ltI hc (by omega)).mp h1
      have h2 : ¬ nI (2 ^ rN (M.1 1) - 1) < nI c := nI_nlt (by omega) (by omega)
      obtain ⟨v, T, N2, k1, k2, k3, k4⟩ := crowd_both R (c := c) (by omega)
      exact ⟨v, sL S T, N2, iteF h0 (iteT (by rw [e1]; exact h1) (cbE k1 rfl)), csE (r := 1) (by rw [e2]; exact iteF h0 (iteF h2 rfl)) (iteF ne10 (cbE k2 rfl)), k4, (MK.of k3).1 2 (by omega), k3.2.2 0 (by omega)⟩
    · have h2 : nI (2 ^ rN (M.1 1) - 1) < a := by
        rw [Int32.lt_iff_toInt_lt, t2]
        rw [Int32.lt_iff_toInt_lt, t1] at h1
        omega
      exact two_err R 1 1 (-1000000001) (by decide) rfl (by decide) (fun y T h => iteF h0 (iteF (by rw [e1]; exact h1) (cbE h rfl))) (fun y T h => csE (r := 0) (by rw [e2]; exact iteF h0 (iteT h2 rfl)) (iteT rfl (cbE h rfl)))
theorem best_loop {n i : Nat} (hn : n < 7) (hi : i < 6) (a : Int32) : ∀ (j k fu : Nat) (S M : MS) (b : Nat) (y : Int32), k + j = 2 ^ n → j < fu → b < 64 → Rel RD S M → rN (M.1 1) = n → Two RD M (f_X11_bestWith_32 RD fu (nI i) a (nI b) y (nI k) S) (f_X12_bestWith_33 fu (nI i) a (nI b) y (nI k) M) := by
  have hp := pow64 hn
  intro j
  induction j with
  | zero =>
    intro k fu S M b y hk hf hb R hN
    obtain rfl : k = 2 ^ n := by omega
    obtain ⟨fu, rfl⟩ : ∃ z, fu = z + 1 := ⟨fu - 1, by omega⟩
    have e1 : jshl 1 (S.2 6) = nI (2 ^ n) := by rw [R.n6, hN, shl_n _ hn]
    have e2 : jshl 1 (M.1 1 3) = nI (2 ^ n) := by rw [R.n3, hN, shl_n _ hn]
    have hle : nI (2 ^ n) ≤ nI (2 ^ n) := nI_le (Nat.le_refl _) (by omega)
    by_cases h : a = 0
    · exact Two.same R (v := nI b) (iteT (by rw [e1]; exact hle) (iteT h rfl)) (iteT (by rw [e2]; exact hle) (iteT h rfl)) ME.rf
    · exact Two.same R (v := y) (iteT (by rw [e1]; exact hle) (iteF h rfl)) (iteT (by rw [e2]; exact hle) (iteF h rfl)) ME.rf
  | succ j ih =>
    intro k fu S M b y hk hf hb R hN
    obtain ⟨fu, rfl⟩ : ∃ z, fu = z + 1 := ⟨fu - 1, by omega⟩
    have e1 : jshl 1 (S.2 6) = nI (2 ^ n) := by rw [R.n6, hN, shl_n _ hn]
    have e2 : jshl 1 (M.1 1 3) = nI (2 ^ n) := by rw [R.n3, hN, shl_n _ hn]
    have hle : ¬ nI (2 ^ n) ≤ nI k := nI_ge (by omega) (by omega)
    have hk64 : k < 64 := by omega
    have hbit : jshr (nI k) (nI i) &&& 1 = bif Nat.testBit k i then 1 else 0 := bit_set (by omega) (by omega)
    cases hbt : Nat.testBit k i
    · rw [hbt] at hbit
      refine Two.eqs (ih (k + 1) fu S M b y (by omega) (by omega) hb R hN) (fun u h => iteF (by rw [e1]; exact hle) (iteT hbit (bIE ?_))) (fun u h => iteF (by rw [e2]; exact hle) (iteF (by rw [hbit]; decide) (bIE ?_)))
      · rw [nI_1]; exact h
      · rw [nI_1]; exact h
    · rw [hbt] at hbit
      obtain ⟨v, T, N2, k1, k2, k3, k4⟩ := crowd_both R hk64
      have hN2 : rN (N2.1 1) = n := by rw [k3.1]; exact hN
      have kk : N2.1 2 = M.1 2 := (MK.of k3).1 2 (by omega)
      have kk0 : N2.2 0 = M.2 0 := k3.2.2 0 (by omega)
      -- better, or not
      have yes := Two.tr (M := M) (ih (k + 1) fu (sL S T) N2 k v (by omega) (by omega) hk64 k4 hN2) kk kk0
      have no := Two.tr (M := M) (ih (k + 1) fu (sL S T) N2 b y (by omega) (by omega) hb k4 hN2) kk kk0
      have lb : cK (Nat.testBit b) 8 ≤ 8 := cK_le _ 8
      have lk : cK (Nat.testBit k) 8 ≤ 8 := cK_le _ 8
      have cgo : ∀ u, (if (nI (cK (Nat.testBit b) 8) ≤ nI (cK (Nat.testBit k) 8) : Prop) then f_X11_bestWith_86 RD (f_X11_bestWith_32 RD fu) (nI i) a (nI b) y (nI k) v 0 (sL S T) else f_X11_bestWith_86 RD (f_X11_bestWith_32 RD fu) (nI i) a (nI b) y (nI k) v 1 (sL S T)) = u → f_X11_bestWith_32 RD (fu + 1) (nI i) a (nI b) y (nI k) S = u := fun u h => iteF (by rw [e1]; exact hle) (iteF (by rw [hbit]; decide) (cbE k1 (csE (c_bits (by omega)) (csE (c_bits (by omega)) h))))
      have c107 : ∀ u, f_X11_bestWith_32 RD fu (nI i) a (nI k) v (nI (k + 1)) (sL S T) = u → f_X11_bestWith_107 RD (f_X11_bestWith_32 RD fu) (nI i) a (nI k) v (sL S T) = u := fun u h => by
        unfold f_X11_bestWith_107
        refine bIE ?_
        rw [nI_1]; exact h
      have c114 : ∀ u, f_X11_bestWith_32 RD fu (nI i) a (nI b) y (nI (k + 1)) (sL S T) = u → f_X11_bestWith_114 RD (f_X11_bestWith_32 RD fu) (nI i) a (nI b) y (nI k) (sL S T) = u := fun u h => by
        refine bIE ?_
        rw [nI_1]; exact h
      have rgo : ∀ u, (if (y < v : Prop) then f_X12_bestWith_90 (f_X12_bestWith_33 fu) (nI i) a (nI b) y (nI k) v N2 else if (v = y : Prop) then cs (f_X12_bits (nI k)) fun r22 => cs (f_X12_bits (nI b)) fun r24 => if (r24 ≤ r22 : Prop) then f_X12_bestWith_94 (f_X12_bestWith_33 fu) (nI i) a (nI b) y (nI k) v N2 else f_X12_bestWith_90 (f_X12_bestWith_33 fu) (nI i) a (nI b) y (nI k) v N2 else f_X12_bestWith_94 (f_X12_bestWith_33 fu) (nI i) a (nI b) y (nI k) v N2) = u → f_X12_bestWith_33 (fu + 1) (nI i) a (nI b) y (nI k) M = u := fun u h => iteF (by rw [e2]; exact hle) (iteT hbit (cbE k2 h))
      have r90 : ∀ u, f_X12_bestWith_33 fu (nI i) a (nI k) v (nI (k + 1)) N2 = u → f_X12_bestWith_90 (f_X12_bestWith_33 fu) (nI i) a (nI b) y (nI k) v N2 = u := fun u h => by
        unfold f_X12_bestWith_90 f_X12_bestWith_95
        refine iteF (by decide) ?_
        unfold f_X12_bestWith_108
        refine iteF (by decide) ?_
        unfold f_X12_bestWith_121
        refine bIE ?_
        rw [nI_1]; exact h
      have r94 : ∀ u, f_X12_bestWith_33 fu (nI i) a (nI b) y (nI (k + 1)) N2 = u → f_X12_bestWith_94 (f_X12_bestWith_33 fu) (nI i) a (nI b) y (nI k) v N2 = u := fun u h => by
        unfold f_X12_bestWith_94 f_X12_bestWith_95
        refine iteT rfl ?_
        unfold f_X12_bestWith_108
        refine iteT rfl ?_
        unfold f_X12_bestWith_121
        refine bIE ?_
        rw [nI_1]; exact h
      by_cases q1 : y < v
      · refine Two.eqs yes (fun u h => cgo _ ?_) (fun u h => rgo _ (iteT q1 (r90 _ h)))
        by_cases q2 : nI (cK (Nat.testBit b) 8) ≤ nI (cK (Nat.testBit k) 8)
        · exact iteT q2 (iteT q1 (c107 _ h))
        · exact iteF q2 (iteT q1 (c107 _ h))
      · by_cases q3 : v = y
        · by_cases q2 : nI (cK (Nat.testBit b) 8) ≤ nI (cK (Nat.testBit k) 8)
          · refine Two.eqs no (fun u h => cgo _ (iteT q2 ?_)) (fun u h => rgo _ (iteF q1 (iteT q3 (csE (m_bits (by omega)) (csE (m_bits (by omega)) (iteT q2 (r94 _ h)))))))
            unfold f_X11_bestWith_86
            exact iteF q1 (iteT q3 (iteT rfl (c114 _ h)))
          · refine Two.eqs yes (fun u h => cgo _ (iteF q2 ?_)) (fun u h => rgo _ (iteF q1 (iteT q3 (csE (m_bits (by omega)) (csE (m_bits (by omega)) (iteF q2 (r90 _ h)))))))
            unfold f_X11_bestWith_86
            exact iteF q1 (iteT q3 (iteF (by decide) (c107 _ h)))
        · refine Two.eqs no (fun u h => cgo _ ?_) (fun u h => rgo _ (iteF q1 (iteF q3 (r94 _ h))))
          by_cases q2 : nI (cK (Nat.testBit b) 8) ≤ nI (cK (Nat.testBit k) 8)
          · exact iteT q2 (iteF q1 (iteF q3 (c114 _ h)))
          · exact iteF q2 (iteF q1 (iteF q3 (c114 _ h)))
theorem two_bestWith (R : Rel RD S M) (a b : Int32) : Two RD M (f_X11_bestWith RD a b S) (f_X12_bestWith a b M) := by
  cases h1 : inR a (rN (M.1 1))
  · exact two_err R 1 1 (-1000000001) (by decide) rfl (by decide) (fun y T h => cbE (R.cR a) (iteT (b0 h1) (cbE h rfl))) (fun y T h => cbE (R.rR a) (iteT (b0 h1) (cbE h rfl)))
  · cases h2 : inR b 2
    · refine two_err R 1 1 (-1000000001) (by decide) rfl (by decide) (fun y T h => ?_) (fun y T h => cbE (R.rR a) (iteF (b1n h1) (csE (r_in (by decide)) (iteT (b0 h2) (cbE h rfl)))))
      rcases rng_out h2 1 (by decide) with h0 | ⟨h0, h6⟩
      · exact cbE (R.cR a) (iteF (b1n h1) (iteT h0 (cbE h rfl)))
      · exact cbE (R.cR a) (iteF (b1n h1) (iteF h0 (iteF h6 (cbE h rfl))))
    · have hn7 := R.n7
      have hp1 : 1 ≤ 2 ^ rN (M.1 1) := Nat.one_le_two_pow
      have hp := pow64 hn7
      obtain ⟨h0, h6⟩ := rng_in h2
      have h6 := h6 1 (by decide)
      obtain ⟨i, hi, rfl, _⟩ := inR_t h1
      exact Two.eqs (best_loop (RD := RD) hn7 (i := i) (by omega) b (2 ^ rN (M.1 1) - 1) 1 100 S M 0 (-2) (by omega) (by omega) (by decide) R rfl) (fun u h => cbE (R.cR _) (iteF (b1n h1) (iteF h0 (iteT h6 h)))) (fun u h => cbE (R.rR _) (iteF (b1n h1) (csE (r_in (by decide)) (iteF (b1n h2) h))))
end CROWD

/-! ===== the lift of LiftCredit, by the row ===== -/
abbrev RDt : Type := Nat → Nat × Int32 × Int32 × Int32
/-- riders, stories, trust, worth as the row has them -/
def AbC (r : Nat → Int32) (RD : RDt) (S : MS) : Prop := S.2 2 = r 9 ∧ S.2 6 = r 3 ∧ (∀ i, i < 6 → S.1 1 i = eD (dg (rS r i)) ∧ RD i = (kcl (nI (rK r i)), nI (rK r i), nI (rMm r i), nI i)) ∧ (∀ h c n, h + c + n ≤ 8 → S.1 4 ((h * 9 + c) * 9 + n) = rLw r 0 (nI h) (nI c) (nI n))
theorem cK_sum (p q s : Nat → Bool) (h : ∀ f, f < 8 → (p f = true → q f = false ∧ s f = false) ∧ (q f = true → s f = false)) : ∀ k, k ≤ 8 → cK p k + cK q k + cK s k ≤ k
  | 0, _ => Nat.le_refl 0
  | k + 1, hk => by
    have ih := cK_sum p q s h k (by omega)
    have hh := h k (by omega)
    rw [cK_s, cK_s, cK_s]
    cases hp : p k
    · cases hq : q k
      · cases hs : s k
        · show cK p k + 0 + (cK q k + 0) + (cK s k + 0) ≤ k + 1
          omega
        · show cK p k + 0 + (cK q k + 0) + (cK s k + 1) ≤ k + 1
          omega
      · have := hh.2 hq
        rw [this]
        show cK p k + 0 + (cK q k + 1) + (cK s k + 0) ≤ k + 1
        omega
    · have := hh.1 hp
      rw [this.1, this.2]
      show cK p k + 1 + (cK q k + 0) + (cK s k + 0) ≤ k + 1
      omega
theorem n_sum (d e : Nat → Nat) : nAs d e + nOt d e + nFr d e ≤ 8 := by
  refine cK_sum _ _ _ (fun f _ => ?_) 8 (Nat.le_refl 8)
  by_cases h1 : d f = 0
  · simp [h1]
  · by_cases h2 : d f = e f
    · rw [← h2]
      simp [h1]
    · by_cases h3 : e f = 0
      · simp [h1, h3]
      · simp [h1, h2, h3]
theorem kHalf_le (k c : Nat) : kHalf k c ≤ c := by
  unfold kHalf
  split
  · exact Nat.div_le_self _ _
  · exact Nat.le_refl _
theorem c_counted {R : Nat × Int32 × Int32 × Int32} {k c : Nat} (hk : k < 7) (hR : R.1 = kcl (nI k)) (hc : c ≤ 8) : fv_counted R (nI c) = some (nI (kHalf k c)) := by
  have hd : nI c / 2 = nI (c / 2) := nI_div (by omega) (by decide) (by decide)
  unfold fv_counted
  rw [hR]
  match k, hk with
  | 0, _ => rfl
  | 1, _ => rfl
  | 2, _ => exact congrArg some hd
  | 3, _ => rfl
  | 4, _ => rfl
  | 5, _ => exact congrArg some hd
  | 6, _ => rfl
theorem jmin5 (v : Int32) : jmin 5 v = if 5 ≤ v then 5 else v := by
  unfold jmin
  by_cases h : v < 5
  · rw [if_pos h, if_neg (Int32.not_le.mpr h)]
  · rw [if_neg h, if_pos (Int32.not_lt.mp h)]
theorem c_creditK {R : Nat × Int32 × Int32 × Int32} {k m h c n : Nat} {v : Int32} (hk : k < 7) (hR : R.1 = kcl (nI k)) (hm : R.2.2.1 = nI m) (hc : c ≤ 8) : fv_credit R v (nI h) (nI c) (nI n) = some (crW k m v h c n) := by
  have hc0 : ¬ c = 0 → ¬ nI c = 0 := fun h => nI_ne0 (by omega) (by omega)
  unfold fv_credit
  rw [hR, hm]
  match k, hk with
  | 0, _ => rfl
  | 1, _ => exact congrArg some (jmin5 v)
  | 2, _ => rfl
  | 3, _ =>
    show (if (nI c = 0 : Prop) then some (v + 3) else some v) = some (v + (if c = 0 then 3 else 0))
    by_cases h0 : c = 0
    · rw [if_pos h0]; exact iteT (by rw [h0]; rfl) rfl
    · rw [if_neg h0, Int32.add_zero]; exact iteF (hc0 h0) rfl
  | 4, _ => 
    show some (jmin 5 v + nI m) = some ((if 5 ≤ v then 5 else v) + nI m)
    rw [jmin5]
  | 5, _ => rfl
  | 6, _ =>
    show cs (if (nI c = 0 : Prop) then some (v + 3) else some v) (fun r1 => some (r1 - ((nI h + nI c) + nI n))) = some (((v + (if c = 0 then 3 else 0)) - nI h) - nI c - nI n)
    have e : ∀ z : Int32, z - ((nI h + nI c) + nI n) = z - nI h - nI c - nI n := fun z => by rw [Int32.sub_sub, Int32.sub_sub, Int32.add_assoc]
    by_cases h0 : c = 0
    · rw [if_pos h0]
      refine csE (r := v + 3) (iteT (by rw [h0]; rfl) rfl) ?_
      rw [e]
    · rw [if_neg h0, Int32.add_zero]
      refine csE (r := v) (iteF (hc0 h0) rfl) ?_
      rw [e]
theorem eD_z {d : Nat → Nat} (hd : D3 d) (h : nK d 8 = 0) : eD d = 0 := by
  have h2 : eD d = eD (fun _ => 0) := eD_congr (fun f hf => by
    have := dg_nK 8 hd f hf
    rw [h] at this
    rw [← this]
    unfold dg
    rw [Nat.zero_div])
  rw [h2]
  unfold eD
  exact eP_0.symm
theorem eD_num {d d2 : Nat → Nat} (hd : D3 d) (hd2 : D3 d2) : eD d = eD d2 ↔ nK d 8 = nK d2 8 := by
  have l1 := nK_lt 8 hd
  have l2 := nK_lt 8 hd2
  constructor
  · intro h
    have h1 := v_numberOf hd
    rw [h, v_numberOf hd2] at h1
    exact ((nI_eq (by omega) (by omega)).mp (Option.some.inj h1)).symm
  · intro h
    exact eD_congr (fun f hf => by
      have a := dg_nK 8 hd f hf
      rw [h, dg_nK 8 hd2 f hf] at a
      exact a.symm)
theorem eD_n0 {d : Nat → Nat} (hd : D3 d) (h : ¬ nK d 8 = 0) : ¬ eD d = 0 := fun c => h (by
  have h0 : D3 (fun _ => 0) := fun _ _ => Nat.zero_lt_succ 2
  have e0 : eD (fun _ => 0) = 0 := by unfold eD; exact eP_0.symm
  rw [← e0] at c
  have := (eD_num hd h0).mp c
  rw [this]
  rfl)
section LIFT
variable {r : Nat → Int32} {RD : RDt} {S : MS}
theorem c_credit (hW : Wf r) (hA : AbC r RD S) {i : Nat} (hi : i < 6) {d e : Nat → Nat} (hd : D3 d) (he : D3 e) : f_X4_credit RD (nI i) (eD d) (eD e) S = some (rCr r i d e, S) := by
  have hk := hW.k hi
  have hR := (hA.2.2.1 i hi).2
  have h8 := n_sum d e
  have hl := kHalf_le (rK r i) (nOt d e)
  have hp : ((nI (nAs d e) * 9 + nI (kHalf (rK r i) (nOt d e))) * 9) + nI (nFr d e) = nI ((nAs d e * 9 + kHalf (rK r i) (nOt d e)) * 9 + nFr d e) := by
    rw [show (9 : Int32) = nI 9 by decide +kernel, nI_mul, nI_add, nI_mul, nI_add]
  refine csE (v_asHeard hd he) (csE (v_otherWay hd he) (csE (v_unheard hd he) (gixE i rfl hi (by decide) ?_)))
  refine csE (c_counted hk.2 (by rw [hR]) (nOt_le d e)) (csE rfl (gixE _ hp (by omega) (by decide) ?_))
  rw [hA.2.2.2 _ _ _ (by omega)]
  exact csE (c_creditK hk.2 (by rw [hR]) (by rw [hR]) (nOt_le d e)) rfl
theorem c_floor (hW : Wf r) (hA : AbC r RD S) {i : Nat} (hi : i < 6) {d e : Nat → Nat} (hd : D3 d) (he : D3 e) : f_X4_floor RD (nI i) (eD d) (eD e) S = some (rFl r i d e, S) := by
  unfold rFl
  by_cases h0 : nK d 8 = 0
  · rw [if_pos h0]
    exact iteT (eD_z hd h0) rfl
  · rw [if_neg h0]
    exact iteF (eD_n0 hd h0) (cbE (c_credit hW hA hi hd he) (csE (c_held (by decide)) rfl))
theorem c_afterRide (hW : Wf r) (hA : AbC r RD S) {i : Nat} (hi : i < 6) {e : Nat → Nat} (he : D3 e) : f_X4_afterRide RD (nI i) (eD e) S = some (eD (rAf r i e), S) := by
  have hs := dg_D3 (rS r i)
  have h1 := (hA.2.2.1 i hi).1
  refine gixE i rfl hi (by decide) (bIE ?_)
  rw [h1]
  refine cbE (c_floor hW hA hi hs he) ?_
  have h9 : S.2 2 = r 9 := hA.1
  rw [h9]
  unfold rAf
  by_cases hlow : rFl r i (dg (rS r i)) e < r 9
  · rw [if_pos hlow]
    exact iteF (Int32.not_le.mpr hlow) rfl
  · rw [if_neg hlow]
    have e1 : f_X11_factsOf (eD e) = some (eP (fun f => e f == 1 || e f == 2) (fun _ => false)) := v_factsOf _ _
    refine iteT (Int32.not_lt.mp hlow) (csE e1 (csE (v_bothWays _) (bIE ?_)))
    rw [x_fr hs he]
    by_cases hb : rFl r i (dg (rS r i)) e < 2 * r 9
    · rw [decide_eq_false (fun z => z hb)]
      refine iteT hb ?_
      exact congrArg (fun z => some (z, S)) (x_ride0 hs he)
    · rw [decide_eq_true hb]
      have e2 : f_X11_turned (eD (dg (rS r i))) = some (eP (fun f => dg (rS r i) f == 2) (fun f => dg (rS r i) f == 1)) := v_turned _ _
      refine iteF hb (csE e2 ?_)
      exact congrArg (fun z => some (z, S)) (x_ride1 hs he)
theorem c_afterDay_4 (hW : Wf r) (hA : AbC r RD S) {e : Nat → Nat} (he : D3 e) : ∀ (j k fu : Nat), k + j = rN r → j < fu → f_X4_afterDay_4 RD fu (eD (rDk r e k)) (nI k) S = some (eD (rDy r e), S) := by
  have hn := hW.n
  have h6 : S.2 6 = nI (rN r) := hA.2.1.trans hn.1
  intro j
  induction j with
  | zero =>
    intro k fu hk hf
    obtain rfl : k = rN r := by omega
    obtain ⟨fu, rfl⟩ : ∃ z, fu = z + 1 := ⟨fu - 1, by omega⟩
    exact iteT (by rw [h6]; exact nI_le (Nat.le_refl _) (by omega)) rfl
  | succ j ih =>
    intro k fu hk hf
    obtain ⟨fu, rfl⟩ : ∃ z, fu = z + 1 := ⟨fu - 1, by omega⟩
    refine iteF (by rw [h6]; exact nI_ge (by omega) (by omega)) (cbE (c_afterRide hW hA (i := k) (by omega) (rDk_D3 he k)) (bIE ?_))
    rw [nI_1]
    exact ih (k + 1) fu (by omega) (by omega)
theorem c_afterDay (hW : Wf r) (hA : AbC r RD S) {e : Nat → Nat} (he : D3 e) : f_X4_afterDay RD (eD e) S = some (eD (rDy r e), S) := by
  have hn := hW.n
  exact c_afterDay_4 hW hA he (rN r) 0 100 (by omega) (by omega)
end LIFT

/-! ===== sayings by digits ===== -/
def eD (d : Nat → Nat) : Int32 := eP (fun f => d f == 1) (fun f => d f == 2)
theorem eD_congr {d e : Nat → Nat} (h : ∀ f, f < 8 → d f = e f) : eD d = eD e := eP_congr (fun f hf => by rw [h f hf]) (fun f hf => by rw [h f hf])
theorem nI_mul (a b : Nat) : nI a * nI b = nI (a * b) := (Int32.ofNat_mul a b).symm
theorem nI_div {a b : Nat} (ha : a < 2 ^ 31) (h0 : 0 < b) (hb : b < 2 ^ 31) : nI a / nI b = nI (a / b) := pk_div ha h0 hb
theorem jrem_nI {a b : Nat} (ha : a < 2 ^ 31) (h0 : 0 < b) (hb : b < 2 ^ 31) : jrem (nI a) (nI b) = nI (a % b) := pk_rem ha h0 hb
theorem one_shl : ∀ f, f < 8 → jshl 1 (nI f) = eP (fun g => g == f) (fun _ => false) := by decide +kernel
theorem one_shl8 : ∀ f, f < 8 → jshl 1 (8 + nI f) = eP (fun _ => false) (fun g => g == f) := by decide +kernel
theorem lt3 {x : Nat} (h : x < 3) : x = 0 ∨ x = 1 ∨ x = 2 := by omega
theorem v_sayingOf {d : Nat → Nat} {f : Nat} (hf : f < 8) (hd : d f < 3) : f_X11_sayingOf (eD d) (nI f) = some (nI (d f)) := by
  unfold f_X11_sayingOf
  have e8 : (8 : Int32) + nI f = nI (f + 8) := by rw [show (8 : Int32) = nI 8 by decide +kernel, nI_add, Nat.add_comm]
  rw [e8, bit_and1 _ (by omega), bit_and1 _ (by omega)]
  have h1 : (eD d).toBitVec.getLsbD f = (d f == 1) := by unfold eD; rw [eP_bv, eB_get, if_pos hf]
  have h2 : (eD d).toBitVec.getLsbD (f + 8) = (d f == 2) := by unfold eD; rw [eP_bv, eB_hi _ _ hf]
  rw [h1, h2]
  rcases lt3 hd with h | h | h <;> rw [h] <;> decide +kernel
theorem v_withSaying {d : Nat → Nat} {f v : Nat} (hf : f < 8) (hv : v < 3) : f_X11_withSaying (eD d) (nI f) (nI v) = some (eD (fun g => if g = f then v else d g)) := by
  unfold f_X11_withSaying
  rw [one_shl f hf, one_shl8 f hf, v_bothWays]
  show (if nI v = 0 then _ else _) = _
  unfold eD
  have e1 : eP (fun f => d f == 1) (fun f => d f == 2) &&& (eP (fun g => g == f) (fun g => g == f) ^^^ -1) = eP (fun g => d g == 1 && !(g == f)) (fun g => d g == 2 && !(g == f)) := eP_andn _ _ _ _
  rw [e1]
  rcases lt3 hv with rfl | rfl | rfl
  · rw [if_pos (by decide +kernel)]
    refine congrArg some (eP_congr (fun g _ => ?_) (fun g _ => ?_)) <;> by_cases h : g = f <;> first | (simp [h]; done) | (have hb : (g == f) = false := beq_eq_false_iff_ne.mpr h; simp [h, hb])
  · rw [if_neg (by decide +kernel), if_pos (by decide +kernel), eP_or]
    refine congrArg some (eP_congr (fun g _ => ?_) (fun g _ => ?_)) <;> by_cases h : g = f <;> first | (simp [h]; done) | (have hb : (g == f) = false := beq_eq_false_iff_ne.mpr h; simp [h, hb])
  · rw [if_neg (by decide +kernel), if_neg (by decide +kernel), eP_or]
    refine congrArg some (eP_congr (fun g _ => ?_) (fun g _ => ?_)) <;> by_cases h : g = f <;> first | (simp [h]; done) | (have hb : (g == f) = false := beq_eq_false_iff_ne.mpr h; simp [h, hb])
/-- the number of the first k digits -/
def nK (d : Nat → Nat) : Nat → Nat
  | 0 => 0
  | k + 1 => nK d k + d k * 3 ^ k
theorem nK_lt {d : Nat → Nat} : ∀ k, (∀ f, f < k → d f < 3) → nK d k < 3 ^ k
  | 0, _ => Nat.one_pos
  | k + 1, h => by
    have h1 := nK_lt k (fun f hf => h f (by omega))
    have h2 := h k (by omega)
    have h3 : d k * 3 ^ k ≤ 2 * 3 ^ k := Nat.mul_le_mul_right _ (by omega)
    show nK d k + d k * 3 ^ k < 3 ^ (k + 1)
    rw [Nat.pow_succ]
    omega
theorem v_numberOf_5 {d : Nat → Nat} (hd : ∀ f, f < 8 → d f < 3) : ∀ (k n m : Nat), k ≤ 8 → k < n → f_X11_numberOf_5 n (eD d) (nI m) (nI k - 1) = some (nI (m * 3 ^ k + nK d k)) := by
  intro k
  induction k with
  | zero =>
    intro n m _ hn
    obtain ⟨n, rfl⟩ : ∃ z, n = z + 1 := ⟨n - 1, by omega⟩
    have h0 : nI 0 - 1 < 0 := by decide +kernel
    simp only [f_X11_numberOf_5, if_pos h0]
    simp [nK]
  | succ k ih =>
    intro n m hk hn
    obtain ⟨n, rfl⟩ : ∃ z, n = z + 1 := ⟨n - 1, by omega⟩
    have e : nI (k + 1) - 1 = nI k := nI_pred k
    rw [e]
    show (if nI k < 0 then some (nI m) else _) = _
    rw [if_neg (nI_pos (by omega)), v_sayingOf (by omega) (hd k (by omega))]
    have e3 : nI m * 3 + nI (d k) = nI (m * 3 + d k) := by rw [show (3 : Int32) = nI 3 by decide +kernel, nI_mul, nI_add]
    have e4 : nI k + (-1) = nI k - 1 := by rw [Int32.sub_eq_add_neg]
    show f_X11_numberOf_5 n (eD d) (nI m * 3 + nI (d k)) (nI k + (-1)) = _
    rw [e3, e4, ih n (m * 3 + d k) (by omega) (by omega)]
    congr 2
    show (m * 3 + d k) * 3 ^ k + nK d k = m * 3 ^ (k + 1) + (nK d k + d k * 3 ^ k)
    rw [Nat.pow_succ, Nat.add_mul, Nat.mul_assoc, Nat.mul_comm 3]
    omega
theorem v_numberOf {d : Nat → Nat} (hd : ∀ f, f < 8 → d f < 3) : f_X11_numberOf (eD d) = some (nI (nK d 8)) := by
  have h := v_numberOf_5 hd 8 100 0 (by omega) (by omega)
  rw [Nat.zero_mul, Nat.zero_add] at h
  exact h
/-- the digits of a number -/
def dg (n f : Nat) : Nat := n / 3 ^ f % 3
theorem dg_lt (n f : Nat) : dg n f < 3 := Nat.mod_lt _ (by decide)
theorem v_sayingsOf_6 {n : Nat} (hn : n < 2 ^ 31) : ∀ (j k fu : Nat), k + j = 8 → j < fu → f_X11_sayingsOf_6 fu (eD (fun g => if g < k then dg n g else 0)) (nI (n / 3 ^ k)) (nI k) = some (eD (dg n)) := by
  intro j
  induction j with
  | zero =>
    intro k fu hk hf
    obtain rfl : k = 8 := by omega
    obtain ⟨fu, rfl⟩ : ∃ z, fu = z + 1 := ⟨fu - 1, by omega⟩
    have h0 : (8 : Int32) ≤ nI 8 := by decide +kernel
    simp only [f_X11_sayingsOf_6, if_pos h0]
    exact congrArg some (eD_congr (fun f hf => if_pos hf))
  | succ j ih =>
    intro k fu hk hf
    obtain ⟨fu, rfl⟩ : ∃ z, fu = z + 1 := ⟨fu - 1, by omega⟩
    have hq : n / 3 ^ k < 2 ^ 31 := Nat.lt_of_le_of_lt (Nat.div_le_self _ _) hn
    have h8 : ¬ (8 : Int32) ≤ nI k := fun h => nI_ge (a := k) (b := 8) (by omega) (by omega) h
    refine (if_neg h8).trans ?_
    have e3 : (3 : Int32) = nI 3 := by decide +kernel
    rw [e3, jrem_nI hq (by decide) (by decide), v_withSaying (by omega) (Nat.mod_lt _ (by decide)), nI_div hq (by decide) (by decide)]
    show f_X11_sayingsOf_6 fu _ (nI (n / 3 ^ k / 3)) (nI k + 1) = _
    rw [nI_1, Nat.div_div_eq_div_mul, ← Nat.pow_succ]
    rw [← ih (k + 1) fu (by omega) (by omega)]
    congr 1
    refine eD_congr (fun f _ => ?_)
    by_cases h : f = k
    · subst h
      rw [if_pos rfl, if_pos (by omega)]
      rfl
    · rw [if_neg h]
      by_cases h2 : f < k
      · rw [if_pos h2, if_pos (by omega)]
      · rw [if_neg h2, if_neg (by omega)]
theorem v_sayingsOf {n : Nat} (hn : n < 2 ^ 31) : f_X11_sayingsOf (nI n) = some (eD (dg n)) := by
  have h := v_sayingsOf_6 hn 8 0 100 (by omega) (by omega)
  rw [Nat.pow_zero, Nat.div_one] at h
  have e : eD (fun g => if g < 0 then dg n g else 0) = 0 := by
    unfold eD
    rw [eP_0]
    exact eP_congr (fun f _ => rfl) (fun f _ => rfl)
  rw [e] at h
  exact h

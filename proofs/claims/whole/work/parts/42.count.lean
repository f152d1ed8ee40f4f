/-! ===== how many bits ===== -/
def cK (p : Nat → Bool) : Nat → Nat
  | 0 => 0
  | k + 1 => cK p k + (bif p k then 1 else 0)
theorem cK_le (p : Nat → Bool) : ∀ k, cK p k ≤ k
  | 0 => Nat.le_refl 0
  | k + 1 => by
    have := cK_le p k
    show cK p k + (bif p k then 1 else 0) ≤ k + 1
    cases p k
    · show cK p k + 0 ≤ k + 1
      omega
    · show cK p k + 1 ≤ k + 1
      omega
theorem cK_congr {p q : Nat → Bool} : ∀ k, (∀ f, f < k → p f = q f) → cK p k = cK q k
  | 0, _ => rfl
  | k + 1, h => by
    show cK p k + _ = cK q k + _
    rw [cK_congr k (fun f hf => h f (by omega)), h k (by omega)]
theorem dg_nK {d : Nat → Nat} : ∀ k, (∀ f, f < k → d f < 3) → ∀ f, f < k → dg (nK d k) f = d f
  | 0, _, f, hf => absurd hf (Nat.not_lt_zero f)
  | k + 1, h, f, hf => by
    have hlt := nK_lt k (fun f hf => h f (by omega))
    show (nK d k + d k * 3 ^ k) / 3 ^ f % 3 = d f
    by_cases e : f = k
    · subst e
      rw [Nat.add_mul_div_right _ _ (Nat.pow_pos (by decide)), Nat.div_eq_of_lt hlt, Nat.zero_add, Nat.mod_eq_of_lt (h f (by omega))]
    · have ih := dg_nK k (fun f hf => h f (by omega)) f (by omega)
      obtain ⟨j, rfl⟩ : ∃ j, k = f + 1 + j := ⟨k - f - 1, by omega⟩
      have e1 : d (f + 1 + j) * 3 ^ (f + 1 + j) = (d (f + 1 + j) * 3 ^ j * 3) * 3 ^ f := by
        rw [Nat.pow_add, Nat.pow_succ]
        simp only [Nat.mul_assoc, Nat.mul_comm, Nat.mul_left_comm]
      rw [e1, Nat.add_mul_div_right _ _ (Nat.pow_pos (by decide)), Nat.add_mul_mod_self_right]
      exact ih
theorem nK_dg {n : Nat} : ∀ k, nK (dg n) k = n % 3 ^ k
  | 0 => by rw [Nat.pow_zero, Nat.mod_one]; rfl
  | k + 1 => by
    show nK (dg n) k + dg n k * 3 ^ k = _
    rw [nK_dg k, Nat.pow_succ, Nat.mod_mul]
    rw [Nat.mul_comm (3 ^ k)]
    rfl
theorem bc_all : ∀ a, a < 81 → ∀ b, b < 81 → f_J6_bitCount_0f7a4 (eD (dg (81 * a + b))) = some (nI (cK (fun f => dg (81 * a + b) f != 0) 8)) := by decide +kernel
theorem bc_set : ∀ a, a < 32 → ∀ b, b < 64 → f_J6_bitCount_0f7a4 (nI (64 * a + b)) = some (nI (cK (fun f => Nat.testBit (64 * a + b) f) 11)) := by decide +kernel
theorem v_bitCount {d : Nat → Nat} (hd : ∀ f, f < 8 → d f < 3) : f_J6_bitCount_0f7a4 (eD d) = some (nI (cK (fun f => d f != 0) 8)) := by
  have hn : nK d 8 < 6561 := nK_lt 8 hd
  have h := bc_all (nK d 8 / 81) (by omega) (nK d 8 % 81) (Nat.mod_lt _ (by decide))
  rw [Nat.div_add_mod] at h
  rw [eD_congr (dg_nK 8 hd)] at h
  rw [h]
  exact congrArg (fun z => some (nI z)) (cK_congr 8 (fun f hf => by rw [dg_nK 8 hd f hf]))
theorem v_bitSet {n : Nat} (hn : n < 2048) : f_J6_bitCount_0f7a4 (nI n) = some (nI (cK (fun f => Nat.testBit n f) 11)) := by
  have h := bc_set (n / 64) (by omega) (n % 64) (Nat.mod_lt _ (by decide))
  rw [Nat.div_add_mod] at h
  exact h

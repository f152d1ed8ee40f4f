theorem nx_all : ∀ a, a < 81 → ∀ b, b < 81 → f_X11_next (eD (dg (81 * a + b))) = some (eD (dg (81 * a + b + 1))) := by decide +kernel
theorem v_next {n : Nat} (hn : n < 6561) : f_X11_next (eD (dg n)) = some (eD (dg (n + 1))) := by
  have h := nx_all (n / 81) (by omega) (n % 81) (Nat.mod_lt _ (by decide))
  rw [Nat.div_add_mod] at h
  exact h
theorem set_eP : ∀ n, n < 256 → nI n = eP (fun f => Nat.testBit n f) (fun _ => false) := by decide +kernel

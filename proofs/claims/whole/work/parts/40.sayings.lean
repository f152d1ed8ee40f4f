theorem sh_amt : ∀ k, k < 32 → (nI k &&& 31).toBitVec.smod 32 = BitVec.ofNat 32 k := by decide +kernel
theorem shl_get (x : Int32) {k : Nat} (hk : k < 32) (i : Nat) : (jshl x (nI k)).toBitVec.getLsbD i = (decide (i < 32) && !decide (i < k) && x.toBitVec.getLsbD (i - k)) := by
  unfold jshl
  rw [Int32.toBitVec_shiftLeft, sh_amt k hk, BitVec.shiftLeft_eq', BitVec.toNat_ofNat, Nat.mod_eq_of_lt (by omega), BitVec.getLsbD_shiftLeft]
theorem shr_get (x : Int32) {k : Nat} (hk : k < 32) {i : Nat} (hi : i + k < 32) : (jshr x (nI k)).toBitVec.getLsbD i = x.toBitVec.getLsbD (k + i) := by
  unfold jshr
  rw [Int32.toBitVec_shiftRight, sh_amt k hk, BitVec.sshiftRight_eq', BitVec.toNat_ofNat, Nat.mod_eq_of_lt (by omega), BitVec.getLsbD_sshiftRight]
  have h1 : ¬ 32 ≤ i := by omega
  have h2 : k + i < 32 := by omega
  simp [h1, h2]
theorem shr_get2 (p q : Nat → Bool) {k : Nat} (hk : k < 32) {i : Nat} (hi : i < 32) : (jshr (eP p q) (nI k)).toBitVec.getLsbD i = (eB p q).getLsbD (k + i) := by
  by_cases h : i + k < 32
  · rw [shr_get _ hk h, eP_bv]
  · unfold jshr
    rw [Int32.toBitVec_shiftRight, sh_amt k hk, BitVec.sshiftRight_eq', BitVec.toNat_ofNat, Nat.mod_eq_of_lt (by omega), BitVec.getLsbD_sshiftRight, eP_bv]
    have h1 : ¬ 32 ≤ i := by omega
    have h2 : ¬ k + i < 32 := by omega
    have h3 : (eB p q).msb = false := by rw [BitVec.msb_eq_getLsbD_last, eB_get]; rfl
    have h4 : (eB p q).getLsbD (k + i) = false := by rw [eB_get, if_neg (by omega), if_neg (by omega)]
    simp [h1, h2, h3, h4]
theorem bit_and1 (x : Int32) {k : Nat} (hk : k < 32) : jshr x (nI k) &&& 1 = bif x.toBitVec.getLsbD k then 1 else 0 := by
  apply i32_ext
  intro i hi
  rw [Int32.toBitVec_and, BitVec.getLsbD_and]
  have h1 : ∀ i, i < 32 → (1 : Int32).toBitVec.getLsbD i = decide (i = 0) := by decide +kernel
  have h0 : ∀ i, i < 32 → (0 : Int32).toBitVec.getLsbD i = false := by decide +kernel
  rw [h1 i hi]
  by_cases e : i = 0
  · subst e
    rw [shr_get x hk (by omega), Nat.add_zero]
    cases x.toBitVec.getLsbD k <;> rfl
  · rw [decide_eq_false e, Bool.and_false]
    cases x.toBitVec.getLsbD k
    · exact (h0 i hi).symm
    · exact ((h1 i hi).trans (decide_eq_false e)).symm
theorem mask_255 : (255 : Int32) = eP (fun _ => true) (fun _ => false) := by decide +kernel
theorem eP_0 : (0 : Int32) = eP (fun _ => false) (fun _ => false) := by decide +kernel
theorem eP_congr {p q p2 q2 : Nat → Bool} (hp : ∀ f, f < 8 → p f = p2 f) (hq : ∀ f, f < 8 → q f = q2 f) : eP p q = eP p2 q2 := by
  apply i32_ext
  intro i hi
  rw [eP_bv, eP_bv, eB_get, eB_get]
  split
  · exact hp i (by omega)
  · split
    · exact hq _ (by omega)
    · rfl
theorem eB_hi (p q : Nat → Bool) {f : Nat} (hf : f < 8) : (eB p q).getLsbD (f + 8) = q f := by
  rw [eB_get, if_neg (by omega), if_pos (by omega), Nat.add_sub_cancel]
theorem eP_inj {p q p2 q2 : Nat → Bool} (h : eP p q = eP p2 q2) : (∀ f, f < 8 → p f = p2 f) ∧ (∀ f, f < 8 → q f = q2 f) := by
  have hg : ∀ i, (eB p q).getLsbD i = (eB p2 q2).getLsbD i := fun i => by rw [← eP_bv, h, eP_bv]
  refine ⟨fun f hf => ?_, fun f hf => ?_⟩
  · have := hg f
    rw [eB_get, eB_get, if_pos hf, if_pos hf] at this
    exact this
  · have := hg (f + 8)
    rw [eB_hi _ _ hf, eB_hi _ _ hf] at this
    exact this
theorem eP_shr8 (p q : Nat → Bool) : jshr (eP p q) 8 = eP q (fun _ => false) := by
  apply i32_ext
  intro i hi
  have e : (8 : Int32) = nI 8 := by decide +kernel
  rw [e, shr_get2 p q (by omega) hi, eP_bv, eB_get, eB_get]
  by_cases h : i < 8
  · rw [if_neg (by omega), if_pos (by omega), if_pos h]
    congr 1
    omega
  · rw [if_neg (by omega), if_neg (by omega), if_neg h]
    split <;> rfl
theorem eP_shl8 (p : Nat → Bool) : jshl (eP p (fun _ => false)) 8 = eP (fun _ => false) p := by
  apply i32_ext
  intro i hi
  have e : (8 : Int32) = nI 8 := by decide +kernel
  rw [e, shl_get _ (by omega), eP_bv, eP_bv, eB_get, eB_get, decide_eq_true hi]
  by_cases h : i < 8
  · rw [if_pos h, decide_eq_true h]
    rfl
  · rw [if_neg h, decide_eq_false h]
    by_cases h2 : i < 16
    · rw [if_pos (by omega), if_pos h2]
      rfl
    · rw [if_neg (by omega), if_neg h2]
      split <;> rfl
/-! ===== the class's small functions on sayings ===== -/
theorem v_bothWays (p : Nat → Bool) : f_X11_bothWays (eP p (fun _ => false)) = some (eP p p) := by
  unfold f_X11_bothWays
  rw [eP_shl8, eP_or]
  exact congrArg some (eP_congr (fun f _ => Bool.or_false _) (fun f _ => Bool.false_or _))
theorem v_factsOf (p q : Nat → Bool) : f_X11_factsOf (eP p q) = some (eP (fun f => p f || q f) (fun _ => false)) := by
  unfold f_X11_factsOf
  rw [eP_shr8, eP_or, mask_255, eP_and]
  exact congrArg some (eP_congr (fun f _ => Bool.and_true _) (fun f _ => Bool.and_false _))
theorem v_turned (p q : Nat → Bool) : f_X11_turned (eP p q) = some (eP q p) := by
  unfold f_X11_turned
  rw [eP_shr8, mask_255, eP_and, eP_and]
  have e : eP (fun f => p f && true) (fun f => q f && false) = eP p (fun _ => false) := eP_congr (fun f _ => Bool.and_true _) (fun f _ => Bool.and_false _)
  rw [e, eP_shl8, eP_or]
  exact congrArg some (eP_congr (fun f _ => by simp) (fun f _ => by simp))
theorem v_truth (p : Nat → Bool) : f_X11_truth (eP p (fun _ => false)) = some (eP p (fun f => !p f)) := by
  unfold f_X11_truth
  have e : eP (fun _ => true) (fun _ => false) &&& (eP p (fun _ => false) ^^^ (-1)) = eP (fun f => !p f) (fun _ => false) := (eP_andn _ _ _ _).trans (eP_congr (fun f _ => Bool.true_and _) (fun f _ => rfl))
  rw [mask_255, e, eP_shl8, eP_or]
  exact congrArg some (eP_congr (fun f _ => Bool.or_false _) (fun f _ => Bool.false_or _))
theorem v_within1 {p q p2 q2 : Nat → Bool} (h : (∀ f, f < 8 → p f = true → p2 f = true) ∧ (∀ f, f < 8 → q f = true → q2 f = true)) : f_X11_isWithin (eP p q) (eP p2 q2) = some 1 := by
  unfold f_X11_isWithin
  rw [eP_andn]
  have e : eP (fun f => p f && !p2 f) (fun f => q f && !q2 f) = 0 := by
    rw [eP_0]
    refine eP_congr (fun f hf => ?_) (fun f hf => ?_)
    · have := h.1 f hf
      cases hp : p f
      · rfl
      · simp [this hp]
    · have := h.2 f hf
      cases hp : q f
      · rfl
      · simp [this hp]
  rw [if_pos e]
theorem v_within0 {p q p2 q2 : Nat → Bool} (h : ¬ ((∀ f, f < 8 → p f = true → p2 f = true) ∧ (∀ f, f < 8 → q f = true → q2 f = true))) : f_X11_isWithin (eP p q) (eP p2 q2) = some 0 := by
  unfold f_X11_isWithin
  rw [eP_andn]
  have e : ¬ eP (fun f => p f && !p2 f) (fun f => q f && !q2 f) = 0 := by
    intro c
    rw [eP_0] at c
    have c2 := eP_inj c
    refine h ⟨fun f hf hp => ?_, fun f hf hp => ?_⟩
    · have := c2.1 f hf
      simp [hp] at this
      exact this
    · have := c2.2 f hf
      simp [hp] at this
      exact this
  rw [if_neg e]

/-! ===== more of the reference's loops ===== -/
theorem h8k {k : Nat} (h : k < 8) : ¬ (8 : Int32) ≤ nI k := fun c => nI_ge (a := k) (b := 8) h (by decide) c
theorem h88 : (8 : Int32) ≤ nI 8 := by decide +kernel
theorem n0 : (0 : Int32) = nI 0 := by decide +kernel
theorem n1 : (1 : Int32) = nI 1 := by decide +kernel
theorem m_hearsAll_2 {M : MS} (hM : MPow M) {e : Nat → Nat} {n : Nat} (hn : n < 2 ^ 31) : ∀ (j k fu : Nat), k + j = 8 → j < fu → f_X12_hearsAll_2 fu (nI n) (nI k) (hdS M (fun f => if f < k then dg n f else e f)) = some (0, hdS M (dg n)) := by
  intro j
  induction j with
  | zero =>
    intro k fu hk hf
    obtain rfl : k = 8 := by omega
    obtain ⟨fu, rfl⟩ : ∃ z, fu = z + 1 := ⟨fu - 1, by omega⟩
    simp only [f_X12_hearsAll_2, if_pos h88]
    rw [hdS_congr (fun f hf => if_pos hf)]
  | succ j ih =>
    intro k fu hk hf
    obtain ⟨fu, rfl⟩ : ∃ z, fu = z + 1 := ⟨fu - 1, by omega⟩
    have hk8 : k < 8 := by omega
    have h3 := p3_lt k hk8
    have hM2 : ∀ d, (hdS M d).1 5 k = nI (3 ^ k) := fun d => by rw [hdS_o (by decide)]; exact hM k hk8
    have e3 : (3 : Int32) = nI 3 := by decide +kernel
    simp only [f_X12_hearsAll_2, if_neg (h8k hk8), gix8 hk8 (by decide : 8 < 2 ^ 31), hM2, gnz_ok (nI_ne0 h3.2 h3.1), nI_div hn h3.2 h3.1, bI_eq, gix10 hk8, nI_1, e3, jrem_nI (Nat.lt_of_le_of_lt (Nat.div_le_self _ _) hn) (by decide : 0 < 3) (by decide : 3 < 2 ^ 31), hdS_put hk8]
    rw [← ih (k + 1) fu (by omega) (by omega)]
    congr 1
    refine hdS_congr (fun f hf => ?_)
    by_cases h : f = k
    · subst h
      rw [if_pos rfl, if_pos (by omega)]; rfl
    · rw [if_neg h]
      by_cases h2 : f < k
      · rw [if_pos h2, if_pos (by omega)]
      · rw [if_neg h2, if_neg (by omega)]
theorem m_hearsAll {M : MS} (hM : MPow M) {e : Nat → Nat} (hH : MHd M e) {n : Nat} (hn : n < 2 ^ 31) : f_X12_hearsAll (nI n) M = some (0, hdS M (dg n)) := by
  have h := m_hearsAll_2 (e := e) hM hn 8 0 100 (by omega) (by omega)
  have e0 : hdS M (fun f => if f < 0 then dg n f else e f) = M := (hdS_congr (fun f _ => if_neg (by omega))).trans (hdS_self hH)
  rw [e0] at h
  exact h
theorem m_longOf_4 {M : MS} (hM : MPow M) {n : Nat} (hn : n < 2 ^ 31) : ∀ (j k fu : Nat), k + j = 8 → j < fu → f_X12_longOf_4 fu (nI n) (nI (cK (fun f => dg n f != 0) k)) (nI k) M = some (nI (cK (fun f => dg n f != 0) 8), M) := by
  intro j
  induction j with
  | zero =>
    intro k fu hk hf
    obtain rfl : k = 8 := by omega
    obtain ⟨fu, rfl⟩ : ∃ z, fu = z + 1 := ⟨fu - 1, by omega⟩
    simp only [f_X12_longOf_4, if_pos h88]
  | succ j ih =>
    intro k fu hk hf
    obtain ⟨fu, rfl⟩ : ∃ z, fu = z + 1 := ⟨fu - 1, by omega⟩
    have hk8 : k < 8 := by omega
    have ih2 := ih (k + 1) fu (by omega) (by omega)
    rw [cK_s] at ih2
    simp only [f_X12_longOf_4, if_neg (h8k hk8), m_saying hM hn hk8, cb_some]
    rcases lt3 (dg_lt n k) with h1 | h1 | h1 <;> rw [h1] at ih2 <;> rw [h1] <;> simp only [f_X12_longOf_25, bI_eq, q00, q10, q20, if_true, if_false, Int32.add_zero, nI_1] <;> exact ih2
theorem m_longOf {M : MS} (hM : MPow M) {n : Nat} (hn : n < 2 ^ 31) : f_X12_longOf (nI n) M = some (nI (cK (fun f => dg n f != 0) 8), M) := m_longOf_4 hM hn 8 0 100 (by omega) (by omega)
/-- whether n says what w says, where it says something -/
def tK (n w : Nat) : Nat → Bool
  | 0 => true
  | k + 1 => tK n w k && (dg n k == 0 || dg n k == dg w k)
theorem tK_s (n w k : Nat) : tK n w (k + 1) = (tK n w k && (dg n k == 0 || dg n k == dg w k)) := rfl
theorem tK_iff (n w : Nat) : ∀ k, tK n w k = true ↔ ∀ f, f < k → dg n f = 0 ∨ dg n f = dg w f
  | 0 => ⟨fun _ f h => absurd h (Nat.not_lt_zero f), fun _ => rfl⟩
  | k + 1 => by
    rw [tK_s, Bool.and_eq_true, tK_iff n w k, Bool.or_eq_true, beq_iff_eq, beq_iff_eq]
    constructor
    · intro h f hf
      by_cases e : f = k
      · subst e; exact h.2
      · exact h.1 f (by omega)
    · intro h
      exact ⟨fun f hf => h f (by omega), h k (by omega)⟩
def tI (b : Bool) : Int32 := bif b then 1 else 0
theorem m_isTrue_5 {M : MS} (hM : MPow M) {n w : Nat} (hn : n < 2 ^ 31) (hw : w < 2 ^ 31) : ∀ (j k fu : Nat), k + j = 8 → j < fu → f_X12_isTrue_5 fu (nI n) (nI w) (tI (tK n w k)) (nI k) M = some (tI (tK n w 8), M) := by
  intro j
  induction j with
  | zero =>
    intro k fu hk hf
    obtain rfl : k = 8 := by omega
    obtain ⟨fu, rfl⟩ : ∃ z, fu = z + 1 := ⟨fu - 1, by omega⟩
    simp only [f_X12_isTrue_5, if_pos h88]
    exact gz_ok (by cases tK n w 8 <;> decide) _
  | succ j ih =>
    intro k fu hk hf
    obtain ⟨fu, rfl⟩ : ∃ z, fu = z + 1 := ⟨fu - 1, by omega⟩
    have hk8 : k < 8 := by omega
    have ih2 := ih (k + 1) fu (by omega) (by omega)
    rw [tK_s] at ih2
    have t0 : (tI true = (0 : Int32)) = False := by decide +kernel
    have f0 : (tI false = (0 : Int32)) = True := by decide +kernel
    have q01 : (nI 0 = nI 1) = False := by decide +kernel
    have q02 : (nI 0 = nI 2) = False := by decide +kernel
    simp only [f_X12_isTrue_5, if_neg (h8k hk8), m_saying hM hn hk8, cb_some, m_saying hM hw hk8]
    cases hb : tK n w k <;> rw [hb] at ih2
    · simp only [f0, if_true, f_X12_isTrue_46, f_X12_isTrue_47, bI_eq, nI_1]
      exact ih2
    · simp only [t0, if_false]
      rcases lt3 (dg_lt n k) with h1 | h1 | h1 <;> rcases lt3 (dg_lt w k) with h2 | h2 | h2 <;> rw [h1, h2] at ih2 <;> rw [h1, h2] <;> simp only [qz0, qz1, qz2, qe10, qe20, qe11, qe22, qe12, qe21, q01, q02, if_true, if_false, f_X12_isTrue_42, f_X12_isTrue_46, f_X12_isTrue_47, bI_eq, nI_1] <;> exact ih2
theorem m_isTrue {M : MS} (hM : MPow M) {n w : Nat} (hn : n < 2 ^ 31) (hw : w < 2 ^ 31) : f_X12_isTrue (nI n) (nI w) M = some (tI (tK n w 8), M) := m_isTrue_5 hM hn hw 8 0 100 (by omega) (by omega)
/-- the digits of a world -/
def wD (w : Nat) : Nat → Nat := fun f => bif Nat.testBit w f then 1 else 2
theorem wD_lt (w f : Nat) : wD w f < 3 := by
  unfold wD
  cases Nat.testBit w f <;> decide
theorem bit_set {w k : Nat} (hw : w < 256) (hk : k < 8) : jshr (nI w) (nI k) &&& 1 = bif Nat.testBit w k then 1 else 0 := by
  rw [bit_and1 _ (by omega), set_eP w hw, eP_bv, eB_get, if_pos hk]
theorem m_worldStory_4 {M : MS} (hM : MPow M) {w : Nat} (hw : w < 256) (hW : M.1 1 8 = nI w) : ∀ (j k fu : Nat), k + j = 8 → j < fu → f_X12_worldStory_4 fu (nI (nK (wD w) k)) (nI k) M = some (nI (nK (wD w) 8), M) := by
  intro j
  induction j with
  | zero =>
    intro k fu hk hf
    obtain rfl : k = 8 := by omega
    obtain ⟨fu, rfl⟩ : ∃ z, fu = z + 1 := ⟨fu - 1, by omega⟩
    simp only [f_X12_worldStory_4, if_pos h88]
  | succ j ih =>
    intro k fu hk hf
    obtain ⟨fu, rfl⟩ : ∃ z, fu = z + 1 := ⟨fu - 1, by omega⟩
    have hk8 : k < 8 := by omega
    have ih2 := ih (k + 1) fu (by omega) (by omega)
    have e2 : (2 : Int32) - (bif Nat.testBit w k then 1 else 0) = nI (wD w k) := by
      unfold wD
      cases Nat.testBit w k <;> decide +kernel
    simp only [f_X12_worldStory_4, if_neg (h8k hk8), gix8 hk8 (by decide : 8 < 2 ^ 31), hM k hk8, hW, bit_set hw hk8, e2, nI_mul, nI_add, bI_eq, nI_1]
    have e1 : nK (wD w) k + 3 ^ k * wD w k = nK (wD w) (k + 1) := by rw [Nat.mul_comm]; rfl
    rw [e1]
    exact ih2
theorem m_worldStory {M : MS} (hM : MPow M) {w : Nat} (hw : w < 256) (hW : M.1 1 8 = nI w) : f_X12_worldStory M = some (nI (nK (wD w) 8), M) := m_worldStory_4 hM hw hW 8 0 100 (by omega) (by omega)
theorem m_bits_4 {n : Nat} (hn : n < 256) : ∀ (j k fu : Nat), k + j = 8 → j < fu → f_X12_bits_4 fu (nI n) (nI (cK (Nat.testBit n) k)) (nI k) = some (nI (cK (Nat.testBit n) 8)) := by
  intro j
  induction j with
  | zero =>
    intro k fu hk hf
    obtain rfl : k = 8 := by omega
    obtain ⟨fu, rfl⟩ : ∃ z, fu = z + 1 := ⟨fu - 1, by omega⟩
    simp only [f_X12_bits_4, if_pos h88]
  | succ j ih =>
    intro k fu hk hf
    obtain ⟨fu, rfl⟩ : ∃ z, fu = z + 1 := ⟨fu - 1, by omega⟩
    have hk8 : k < 8 := by omega
    have ih2 := ih (k + 1) fu (by omega) (by omega)
    rw [cK_s] at ih2
    simp only [f_X12_bits_4, if_neg (h8k hk8), bit_set hn hk8, bI_eq, nI_1]
    cases hb : Nat.testBit n k <;> rw [hb] at ih2 <;> simp only [cond_true, cond_false, Int32.add_zero, nI_1] at ih2 ⊢ <;> exact ih2
theorem m_bits {n : Nat} (hn : n < 256) : f_X12_bits (nI n) = some (nI (cK (Nat.testBit n) 8)) := m_bits_4 hn 8 0 100 (by omega) (by omega)

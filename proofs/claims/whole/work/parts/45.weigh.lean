/-! ===== the reference weighs a story ===== -/
theorem bI_eq {α : Type} (x : Int32) (k : Int32 → Option α) : bI x k = k x := rfl
theorem gnz_ok {α : Type} {y : Int32} (h : ¬ y = 0) (k : Option α) : gnz y k = k := if_neg h
theorem gz_ok {α : Type} {v : Int32} (h : v = 0 ∨ v = 1) (k : Option α) : gz v k = k := if_pos h
theorem nI_a (a : Nat) {x : Int32} {b : Nat} (h : x = nI b) : nI a + x = nI (a + b) := by rw [h, nI_add]
theorem l10 (k : Nat) : (10 : Int32) + nI k = nI (10 + k) := by rw [show (10 : Int32) = nI 10 by decide +kernel, nI_add]
theorem gix10 {α : Type} {k : Nat} (hk : k < 8) (F : Nat → Option α) : gix (10 + nI k) 206 F = F (10 + k) := gix_ok (l10 k) (by omega) (by decide)
theorem gix8 {α : Type} {k n : Nat} (hk : k < n) (hn : n < 2 ^ 31) (F : Nat → Option α) : gix (nI k) n F = F k := gix_ok rfl hk hn
/-- the reference's constants -/
def MPow (M : MS) : Prop := ∀ f, f < 8 → M.1 5 f = nI (3 ^ f)
/-- what the reference has heard -/
def MHd (M : MS) (e : Nat → Nat) : Prop := ∀ f, f < 8 → M.1 1 (10 + f) = nI (e f) ∧ e f < 3
theorem p3_lt : ∀ f, f < 8 → 3 ^ f < 2 ^ 31 ∧ 0 < 3 ^ f := by decide
theorem m_saying {M : MS} (hM : MPow M) {n f : Nat} (hn : n < 2 ^ 31) (hf : f < 8) : f_X12_saying (nI n) (nI f) M = some (nI (dg n f), M) := by
  unfold f_X12_saying
  have h3 := p3_lt f hf
  rw [gix8 hf (by decide), hM f hf, gnz_ok (nI_ne0 h3.2 h3.1), nI_div hn h3.2 h3.1, show (3 : Int32) = nI 3 by decide +kernel, jrem_nI (Nat.lt_of_le_of_lt (Nat.div_le_self _ _) hn) (by decide) (by decide)]
  rfl
def wS (M : MS) (a b c : Int32) : MS := (M.1, fun k => if k = 2 then a else if k = 3 then b else if k = 4 then c else M.2 k)
theorem wS_2 (M : MS) (a b c x : Int32) : sF (wS M a b c) 2 x = wS M x b c := by
  refine Prod.ext rfl (funext fun k => ?_)
  show (if k = 2 then x else if k = 2 then a else _) = (if k = 2 then x else _)
  by_cases h : k = 2
  · rw [if_pos h, if_pos h]
  · rw [if_neg h, if_neg h, if_neg h]
theorem wS_3 (M : MS) (a b c x : Int32) : sF (wS M a b c) 3 x = wS M a x c := by
  refine Prod.ext rfl (funext fun k => ?_)
  show (if k = 3 then x else if k = 2 then a else if k = 3 then b else _) = (if k = 2 then a else if k = 3 then x else _)
  by_cases h : k = 3
  · subst h; rfl
  · rw [if_neg h, if_neg h, if_neg h]
theorem wS_4 (M : MS) (a b c x : Int32) : sF (wS M a b c) 4 x = wS M a b x := by
  refine Prod.ext rfl (funext fun k => ?_)
  show (if k = 4 then x else if k = 2 then a else if k = 3 then b else if k = 4 then c else _) = (if k = 2 then a else if k = 3 then b else if k = 4 then x else _)
  by_cases h : k = 4
  · subst h; rfl
  · rw [if_neg h, if_neg h, if_neg h]
theorem wS_s2 (M : MS) (a b c : Int32) : (wS M a b c).2 2 = a := rfl
theorem wS_s3 (M : MS) (a b c : Int32) : (wS M a b c).2 3 = b := rfl
theorem wS_s4 (M : MS) (a b c : Int32) : (wS M a b c).2 4 = c := rfl
theorem q00 : (nI 0 ≤ (0 : Int32)) = True := by decide +kernel
theorem q10 : (nI 1 ≤ (0 : Int32)) = False := by decide +kernel
theorem q20 : (nI 2 ≤ (0 : Int32)) = False := by decide +kernel
theorem qz0 : (nI 0 = (0 : Int32)) = True := by decide +kernel
theorem qz1 : (nI 1 = (0 : Int32)) = False := by decide +kernel
theorem qz2 : (nI 2 = (0 : Int32)) = False := by decide +kernel
theorem qe12 : (nI 1 = nI 2) = False := by decide +kernel
theorem qe21 : (nI 2 = nI 1) = False := by decide +kernel
theorem qe10 : (nI 1 = nI 0) = False := by decide +kernel
theorem qe20 : (nI 2 = nI 0) = False := by decide +kernel
theorem qe11 : (nI 1 = nI 1) = True := by decide +kernel
theorem qe22 : (nI 2 = nI 2) = True := by decide +kernel
theorem cK_s (p : Nat → Bool) (k : Nat) : cK p (k + 1) = cK p k + (bif p k then 1 else 0) := rfl
set_option maxHeartbeats 2000000 in
theorem m_weigh_17 {M : MS} (hM : MPow M) {e : Nat → Nat} (hH : MHd M e) {n : Nat} (hn : n < 2 ^ 31) : ∀ (j k fu : Nat), k + j = 8 → j < fu →
    f_X12_weigh_17 fu (nI n) (nI k) (wS M (nI (cK (fun f => dg n f != 0 && dg n f == e f) k)) (nI (cK (fun f => dg n f != 0 && e f != 0 && dg n f != e f) k)) (nI (cK (fun f => dg n f != 0 && e f == 0) k))) = some (0, wS M (nI (nAs (dg n) e)) (nI (nOt (dg n) e)) (nI (nFr (dg n) e))) := by
  intro j
  induction j with
  | zero =>
    intro k fu hk hf
    obtain rfl : k = 8 := by omega
    obtain ⟨fu, rfl⟩ : ∃ z, fu = z + 1 := ⟨fu - 1, by omega⟩
    have h0 : (8 : Int32) ≤ nI 8 := by decide +kernel
    simp only [f_X12_weigh_17, if_pos h0]
    rfl
  | succ j ih =>
    intro k fu hk hf
    obtain ⟨fu, rfl⟩ : ∃ z, fu = z + 1 := ⟨fu - 1, by omega⟩
    have h8 : ¬ (8 : Int32) ≤ nI k := fun h => nI_ge (a := k) (b := 8) (by omega) (by omega) h
    have hk8 : k < 8 := by omega
    have hM2 : ∀ a b c, MPow (wS M a b c) := fun _ _ _ => hM
    have ih2 := ih (k + 1) fu (by omega) (by omega)
    rw [cK_s, cK_s, cK_s] at ih2
    simp only [f_X12_weigh_17, if_neg h8, m_saying (hM2 _ _ _) hn hk8, cb_some, gix10 hk8, bI_eq]
    have hv : ∀ a b c, (wS M a b c).1 1 (10 + k) = nI (e k) := fun _ _ _ => (hH k hk8).1
    simp only [hv]
    rcases lt3 (dg_lt n k) with h1 | h1 | h1 <;> rcases lt3 (hH k hk8).2 with h2 | h2 | h2 <;> rw [h1, h2] at ih2 <;> rw [h1, h2] <;> simp only [f_X12_weigh_60, f_X12_weigh_61, f_X12_weigh_89, f_X12_weigh_90, f_X12_weigh_112, f_X12_weigh_113, bI_eq, q00, q10, q20, qz0, qz1, qz2, qe12, qe21, qe10, qe20, qe11, qe22, if_true, if_false, wS_2, wS_3, wS_4, wS_s2, wS_s3, wS_s4, Int32.add_zero, nI_1] <;> exact ih2
theorem m_weigh {M : MS} (hM : MPow M) {e : Nat → Nat} (hH : MHd M e) {n : Nat} (hn : n < 2 ^ 31) : f_X12_weigh (nI n) M = some (0, wS M (nI (nAs (dg n) e)) (nI (nOt (dg n) e)) (nI (nFr (dg n) e))) := by
  have h := m_weigh_17 hM hH hn 8 0 100 (by omega) (by omega)
  unfold f_X12_weigh
  have e0 : sF (sF (sF M 2 0) 3 0) 4 0 = wS M (nI 0) (nI 0) (nI 0) := by
    refine Prod.ext rfl (funext fun k => ?_)
    show (if k = 4 then 0 else if k = 3 then 0 else if k = 2 then 0 else M.2 k) = (if k = 2 then nI 0 else if k = 3 then nI 0 else if k = 4 then nI 0 else M.2 k)
    by_cases h4 : k = 4
    · subst h4; rfl
    · by_cases h3 : k = 3
      · subst h3; rfl
      · by_cases h2 : k = 2
        · subst h2; rfl
        · rw [if_neg h4, if_neg h3, if_neg h2, if_neg h2, if_neg h3, if_neg h4]
  rw [e0]
  exact h

/-! ===== the reference's heard digits ===== -/
theorem m_heardAll_4 {M : MS} (hM : MPow M) {e : Nat → Nat} (hH : MHd M e) : ∀ (j k fu : Nat), k + j = 8 → j < fu → f_X12_heardAll_4 fu (nI (nK e k)) (nI k) M = some (nI (nK e 8), M) := by
  intro j
  induction j with
  | zero =>
    intro k fu hk hf
    obtain rfl : k = 8 := by omega
    obtain ⟨fu, rfl⟩ : ∃ z, fu = z + 1 := ⟨fu - 1, by omega⟩
    have h0 : (8 : Int32) ≤ nI 8 := by decide +kernel
    simp only [f_X12_heardAll_4, if_pos h0]
  | succ j ih =>
    intro k fu hk hf
    obtain ⟨fu, rfl⟩ : ∃ z, fu = z + 1 := ⟨fu - 1, by omega⟩
    have h8 : ¬ (8 : Int32) ≤ nI k := fun h => nI_ge (a := k) (b := 8) (by omega) (by omega) h
    have hk8 : k < 8 := by omega
    simp only [f_X12_heardAll_4, if_neg h8, gix8 hk8 (by decide : 8 < 2 ^ 31), gix10 hk8, bI_eq, hM k hk8, (hH k hk8).1, nI_mul, nI_add, nI_1]
    have e1 : nK e k + 3 ^ k * e k = nK e (k + 1) := by rw [Nat.mul_comm]; rfl
    rw [e1]
    exact ih (k + 1) fu (by omega) (by omega)
theorem m_heardAll {M : MS} (hM : MPow M) {e : Nat → Nat} (hH : MHd M e) : f_X12_heardAll M = some (nI (nK e 8), M) := m_heardAll_4 hM hH 8 0 100 (by omega) (by omega)
/-- M where e is heard -/
def hdS (M : MS) (e : Nat → Nat) : MS := (fun c => if c = 1 then (fun j => if 10 ≤ j ∧ j < 18 then nI (e (j - 10)) else M.1 1 j) else M.1 c, M.2)
theorem hdS_congr {M : MS} {d e : Nat → Nat} (h : ∀ f, f < 8 → d f = e f) : hdS M d = hdS M e := by
  refine Prod.ext (funext fun c => ?_) rfl
  show (if c = 1 then _ else _) = (if c = 1 then _ else _)
  by_cases hc : c = 1
  · rw [if_pos hc, if_pos hc]
    funext j
    by_cases hj : 10 ≤ j ∧ j < 18
    · rw [if_pos hj, if_pos hj, h _ (by omega)]
    · rw [if_neg hj, if_neg hj]
  · rw [if_neg hc, if_neg hc]
theorem hdS_self {M : MS} {e : Nat → Nat} (hH : MHd M e) : hdS M e = M := by
  refine Prod.ext (funext fun c => ?_) rfl
  show (if c = 1 then _ else _) = M.1 c
  by_cases hc : c = 1
  · subst hc
    rw [if_pos rfl]
    funext j
    by_cases hj : 10 ≤ j ∧ j < 18
    · rw [if_pos hj]
      have h := (hH (j - 10) (by omega)).1
      rw [show 10 + (j - 10) = j by omega] at h
      exact h.symm
    · rw [if_neg hj]
  · rw [if_neg hc]
theorem hdS_hd {M : MS} {e : Nat → Nat} (he : ∀ f, f < 8 → e f < 3) : MHd (hdS M e) e := by
  intro f hf
  refine ⟨?_, he f hf⟩
  show (if 10 ≤ 10 + f ∧ 10 + f < 18 then nI (e (10 + f - 10)) else _) = _
  rw [if_pos (by omega), Nat.add_sub_cancel_left]
theorem hdS_hdS {M : MS} {d e : Nat → Nat} : hdS (hdS M d) e = hdS M e := by
  refine Prod.ext (funext fun c => ?_) rfl
  show (if c = 1 then _ else (hdS M d).1 c) = (if c = 1 then _ else M.1 c)
  by_cases hc : c = 1
  · rw [if_pos hc, if_pos hc]
    funext j
    by_cases hj : 10 ≤ j ∧ j < 18
    · rw [if_pos hj, if_pos hj]
    · rw [if_neg hj, if_neg hj]
      show (if 10 ≤ j ∧ j < 18 then _ else M.1 1 j) = _
      rw [if_neg hj]
  · rw [if_neg hc, if_neg hc]
    show (if c = 1 then _ else M.1 c) = _
    rw [if_neg hc]
theorem hdS_put {M : MS} {e : Nat → Nat} {k v : Nat} (hk : k < 8) : sA (hdS M e) 1 (10 + k) (nI v) = hdS M (fun f => if f = k then v else e f) := by
  refine Prod.ext (funext fun c => ?_) rfl
  show (if c = 1 then upd ((hdS M e).1 1) (10 + k) (nI v) else (hdS M e).1 c) = (if c = 1 then _ else M.1 c)
  by_cases hc : c = 1
  · rw [if_pos hc, if_pos hc]
    funext j
    unfold upd
    by_cases h : j = 10 + k
    · subst h
      rw [if_pos rfl, if_pos (by omega), Nat.add_sub_cancel_left]
      exact congrArg nI (if_pos rfl).symm
    · rw [if_neg h]
      show (if 10 ≤ j ∧ j < 18 then nI (e (j - 10)) else M.1 1 j) = _
      by_cases hj : 10 ≤ j ∧ j < 18
      · rw [if_pos hj, if_pos hj]
        exact congrArg nI (if_neg (by omega)).symm
      · rw [if_neg hj, if_neg hj]
  · rw [if_neg hc, if_neg hc]
    show (if c = 1 then _ else M.1 c) = _
    rw [if_neg hc]
theorem hdS_o {M : MS} {e : Nat → Nat} {c : Nat} (h : ¬ c = 1) : (hdS M e).1 c = M.1 c := if_neg h
theorem hdS_r {M : MS} {e : Nat → Nat} {j : Nat} (h : j < 10 ∨ 18 ≤ j) : (hdS M e).1 1 j = M.1 1 j := by
  show (if 10 ≤ j ∧ j < 18 then _ else M.1 1 j) = _
  rw [if_neg (by omega)]
/-- the end of rides: the ride is counted -/
def rcS (M : MS) : MS := sA M 1 1 (if 0 ≤ M.1 1 1 + 1 then (if M.1 1 1 + 1 ≤ 9999 then M.1 1 1 + 1 else 9999) else 0)
theorem m_rides_123 (M : MS) (v : Int32) : f_X12_rides_123 v M = some (v, rcS M) := by
  unfold f_X12_rides_123 f_X12_held rcS
  by_cases h : (0 : Int32) ≤ M.1 1 1 + 1
  · rw [if_pos h, if_pos h]
    by_cases h2 : M.1 1 1 + 1 ≤ 9999
    · rw [if_pos h2, if_pos h2]; rfl
    · rw [if_neg h2, if_neg h2]; rfl
  · rw [if_neg h, if_neg h]; rfl
theorem m_rides_low {M : MS} {n : Int32} {v : Int32} (hlow : v < M.1 1 9) (fu : Nat) (hf : 0 < fu) : f_X12_rides_17 fu n v 0 M = some (v, rcS M) := by
  obtain ⟨fu, rfl⟩ : ∃ z, fu = z + 1 := ⟨fu - 1, by omega⟩
  have h8 : ¬ (8 : Int32) ≤ 0 := by decide
  simp only [f_X12_rides_17, if_neg h8, if_pos hlow]
  exact m_rides_123 M v
set_option maxHeartbeats 2000000 in
theorem m_rides_17 {M : MS} (hM : MPow M) {e : Nat → Nat} (hH : MHd M e) {n : Nat} (hn : n < 2 ^ 31) {v : Int32} (hv : ¬ v < M.1 1 9) {b : Bool} (hb : (v < 2 * M.1 1 9) = (b = false)) : ∀ (j k fu : Nat), k + j = 8 → j < fu → f_X12_rides_17 fu (nI n) v (nI k) (hdS M (fun f => if f < k then rdD b (dg n) e f else e f)) = some (v, rcS (hdS M (rdD b (dg n) e))) := by
  intro j
  induction j with
  | zero =>
    intro k fu hk hf
    obtain rfl : k = 8 := by omega
    obtain ⟨fu, rfl⟩ : ∃ z, fu = z + 1 := ⟨fu - 1, by omega⟩
    have h0 : (8 : Int32) ≤ nI 8 := by decide +kernel
    simp only [f_X12_rides_17, if_pos h0]
    rw [m_rides_123, hdS_congr (fun f hf => if_pos hf)]
  | succ j ih =>
    intro k fu hk hf
    obtain ⟨fu, rfl⟩ : ∃ z, fu = z + 1 := ⟨fu - 1, by omega⟩
    have h8 : ¬ (8 : Int32) ≤ nI k := fun h => nI_ge (a := k) (b := 8) (by omega) (by omega) h
    have hk8 : k < 8 := by omega
    have hM2 : ∀ d, MPow (hdS M d) := fun d f hf => by rw [hdS_o (by decide)]; exact hM f hf
    have hE : ∀ g : Nat → Nat, (hdS M g).1 1 9 = M.1 1 9 := fun g => hdS_r (by omega)
    have hX : ∀ g : Nat → Nat, (hdS M g).1 1 (10 + k) = nI (g k) := fun g => by
      show (if 10 ≤ 10 + k ∧ 10 + k < 18 then nI (g (10 + k - 10)) else _) = _
      rw [if_pos (by omega), Nat.add_sub_cancel_left]
    have ih2 := ih (k + 1) fu (by omega) (by omega)
    have he0 : (fun f => if f < k then rdD b (dg n) e f else e f) k = e k := if_neg (by omega)
    have hgo : ∀ z : Nat, rdD b (dg n) e k = z → sA (hdS M (fun f => if f < k then rdD b (dg n) e f else e f)) 1 (10 + k) (nI z) = hdS M (fun f => if f < k + 1 then rdD b (dg n) e f else e f) := fun z hz => by
      rw [hdS_put hk8]
      refine hdS_congr (fun f hf => ?_)
      by_cases h : f = k
      · subst h
        rw [if_pos rfl, if_pos (by omega), hz]
      · rw [if_neg h]
        by_cases h2 : f < k
        · rw [if_pos h2, if_pos (by omega)]
        · rw [if_neg h2, if_neg (by omega)]
    have hst : rdD b (dg n) e k = e k → hdS M (fun f => if f < k then rdD b (dg n) e f else e f) = hdS M (fun f => if f < k + 1 then rdD b (dg n) e f else e f) := fun hz => by
      refine hdS_congr (fun f hf => ?_)
      by_cases h : f = k
      · subst h
        rw [if_neg (by omega), if_pos (by omega), hz]
      · by_cases h2 : f < k
        · rw [if_pos h2, if_pos (by omega)]
        · rw [if_neg h2, if_neg (by omega)]
    simp only [f_X12_rides_17, if_neg h8, hE, if_neg hv, m_saying (hM2 _) hn hk8, cb_some, gix10 hk8, bI_eq, hX, he0]
    rcases lt3 (dg_lt n k) with h1 | h1 | h1 <;> rcases lt3 (hH k hk8).2 with h2 | h2 | h2 <;> cases b <;> simp only [h1, h2, f_X12_rides_81, f_X12_rides_117, bI_eq, q00, q10, q20, qz0, qz1, qz2, qe12, qe21, qe11, qe22, if_true, if_false, hE, hb, gix10 hk8, nI_1, reduceCtorEq] <;> first | (rw [hst (by unfold rdD; rw [h1, h2]; rfl)]; exact ih2) | (rw [show (0 : Int32) = nI 0 by decide +kernel, hgo 0 (by unfold rdD; rw [h1, h2]; rfl)]; exact ih2) | (rw [hgo 1 (by unfold rdD; rw [h1, h2]; rfl)]; exact ih2) | (rw [hgo 2 (by unfold rdD; rw [h1, h2]; rfl)]; exact ih2)

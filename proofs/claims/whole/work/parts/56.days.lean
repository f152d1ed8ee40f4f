/-! ===== the reference's rides and days ===== -/
section REF2
variable {r : Nat → Int32} {e : Nat → Nat} {x y : Int32} {M : MS}
theorem sA_HR1 (hR : M.1 1 = HR r e x y) (v : Int32) : (sA M 1 1 v).1 1 = HR r e v y := by
  show upd (M.1 1) 1 v = HR r e v y
  rw [hR]
  funext j
  show (if j = 1 then v else if 10 ≤ j ∧ j < 18 then nI (e (j - 10)) else if j = 1 then x else if j = 0 then y else r j) = (if 10 ≤ j ∧ j < 18 then nI (e (j - 10)) else if j = 1 then v else if j = 0 then y else r j)
  by_cases h : j = 1
  · subst h; rfl
  · rw [if_neg h, if_neg h, if_neg h]
theorem sA_HR0 (hR : M.1 1 = HR r e x y) (v : Int32) : (sA M 1 0 v).1 1 = HR r e x v := by
  show upd (M.1 1) 0 v = HR r e x v
  rw [hR]
  funext j
  show (if j = 0 then v else if 10 ≤ j ∧ j < 18 then nI (e (j - 10)) else if j = 1 then x else if j = 0 then y else r j) = (if 10 ≤ j ∧ j < 18 then nI (e (j - 10)) else if j = 1 then x else if j = 0 then v else r j)
  by_cases h : j = 0
  · subst h; rfl
  · rw [if_neg h, if_neg h, if_neg h]
theorem sA_ME (j : Nat) (v : Int32) (r2 : Nat → Int32) (h : (sA M 1 j v).1 1 = r2) : ME M (sA M 1 j v) r2 := ⟨h, fun c hc => if_neg hc, fun _ _ => rfl⟩
theorem hdS_HR (hR : M.1 1 = HR r e x y) (d : Nat → Nat) : (hdS M d).1 1 = HR r d x y := by
  show (fun j => if 10 ≤ j ∧ j < 18 then nI (d (j - 10)) else M.1 1 j) = HR r d x y
  rw [hR]
  funext j
  show (if 10 ≤ j ∧ j < 18 then nI (d (j - 10)) else if 10 ≤ j ∧ j < 18 then nI (e (j - 10)) else if j = 1 then x else if j = 0 then y else r j) = (if 10 ≤ j ∧ j < 18 then nI (d (j - 10)) else if j = 1 then x else if j = 0 then y else r j)
  by_cases h : 10 ≤ j ∧ j < 18
  · rw [if_pos h, if_pos h]
  · rw [if_neg h, if_neg h, if_neg h]
theorem hdS_ME (hR : M.1 1 = HR r e x y) (d : Nat → Nat) : ME M (hdS M d) (HR r d x y) := ⟨hdS_HR hR d, fun c hc => hdS_o hc, fun _ _ => rfl⟩
theorem rcS_ME (hR : M.1 1 = HR r e x y) : ME M (rcS M) (HR r e (inc x) y) := by
  refine sA_ME 1 _ _ ?_
  rw [sA_HR1 hR]
  have e1 : M.1 1 1 = x := by rw [hR]; rfl
  rw [e1]
  rfl
theorem r_rides (hW : Wf r) (hP : MPow M) (hR : M.1 1 = HR r e x y) (he : D3 e) {i : Nat} (hi : i < 6) : ∃ M2 : MS, ME M M2 (HR r (rAf r i e) (inc x) y) ∧ f_X12_rides (nI i) M = some (rFl r i (dg (rS r i)) e, M2) := by
  have hs := hW.s hi
  obtain ⟨M1, g1, g2⟩ := r_floorBy hW hP hR he hi hs.2
  have hP1 : MPow M1 := g1.pow hP
  have hR1 : M1.1 1 = HR r e x y := g1.1.trans hR
  have h9 : M1.1 1 9 = r 9 := by rw [hR1, HR_o _ _ _ _ (by omega)]
  have go : ∀ v M2, f_X12_rides_17 100 (nI (rS r i)) (rFl r i (dg (rS r i)) e) 0 M1 = some (v, M2) → f_X12_rides (nI i) M = some (v, M2) := fun v M2 h => by
    refine cbE (r_its (w := 2) rfl (by omega)) ?_
    rw [hR, HR_o _ _ _ _ (by omega), hs.1]
    exact cbE g2 h
  unfold rAf
  by_cases hlow : rFl r i (dg (rS r i)) e < r 9
  · rw [if_pos hlow]
    refine ⟨rcS M1, g1.trans (rcS_ME hR1), go _ _ (m_rides_low (by rw [h9]; exact hlow) 100 (by decide))⟩
  · rw [if_neg hlow]
    have h17 := m_rides_17 hP1 (hr_hd hR1 he) (n := rS r i) (by omega) (v := rFl r i (dg (rS r i)) e) (by rw [h9]; exact hlow) (b := decide (¬ rFl r i (dg (rS r i)) e < 2 * r 9)) (by rw [h9]; by_cases z : rFl r i (dg (rS r i)) e < 2 * r 9 <;> simp [z]) 8 0 100 (by decide) (by decide)
    have e0 : hdS M1 (fun f => if f < 0 then rdD (decide (¬ rFl r i (dg (rS r i)) e < 2 * r 9)) (dg (rS r i)) e f else e f) = M1 := (hdS_congr (fun f _ => if_neg (by omega))).trans (hdS_self (hr_hd hR1 he))
    rw [e0] at h17
    exact ⟨_, (g1.trans (hdS_ME hR1 _)).trans (rcS_ME (hdS_HR hR1 _)), go _ _ h17⟩
theorem r_oneDay_2 (hW : Wf r) (he : D3 e) : ∀ (j k fu : Nat) (M : MS), k + j = rN r → j < fu → MPow M → M.1 1 = HR r (rDk r e k) (incK x k) y → ∃ M2 : MS, ME M M2 (HR r (rDy r e) (incK x (rN r)) (y + 1)) ∧ f_X12_oneDay_2 fu (nI k) M = some (0, M2) := by
  have hn := hW.n
  intro j
  induction j with
  | zero =>
    intro k fu M hk hf hP hR
    obtain rfl : k = rN r := by omega
    obtain ⟨fu, rfl⟩ : ∃ z, fu = z + 1 := ⟨fu - 1, by omega⟩
    have h3 : M.1 1 3 = nI (rN r) := by rw [hR, HR_o _ _ _ _ (by omega)]; exact hn.1
    have hle : M.1 1 3 ≤ nI (rN r) := by rw [h3]; exact nI_le (Nat.le_refl _) (by omega)
    have h0 : M.1 1 0 = y := by rw [hR]; rfl
    refine ⟨sA M 1 0 (y + 1), sA_ME 0 _ _ (sA_HR0 hR _), iteT hle (bIE ?_)⟩
    rw [h0]
  | succ j ih =>
    intro k fu M hk hf hP hR
    obtain ⟨fu, rfl⟩ : ∃ z, fu = z + 1 := ⟨fu - 1, by omega⟩
    have h3 : M.1 1 3 = nI (rN r) := by rw [hR, HR_o _ _ _ _ (by omega)]; exact hn.1
    have hle : ¬ M.1 1 3 ≤ nI k := by rw [h3]; exact nI_ge (by omega) (by omega)
    obtain ⟨M1, g1, g2⟩ := r_rides hW hP hR (rDk_D3 he k) (i := k) (by omega)
    obtain ⟨M2, k1, k2⟩ := ih (k + 1) fu M1 (by omega) (by omega) (g1.pow hP) g1.1
    refine ⟨M2, g1.trans k1, iteF hle (cbE g2 (bIE ?_))⟩
    rw [nI_1]
    exact k2
theorem r_oneDay (hW : Wf r) (hP : MPow M) (hR : M.1 1 = HR r e x y) (he : D3 e) : ∃ M2 : MS, ME M M2 (HR r (rDy r e) (incK x (rN r)) (y + 1)) ∧ f_X12_oneDay M = some (0, M2) := by
  have hn := hW.n
  exact r_oneDay_2 hW he (rN r) 0 100 M (by omega) (by omega) hP hR
theorem r_heardAll (hP : MPow M) (hR : M.1 1 = HR r e x y) (he : D3 e) : f_X12_heardAll M = some (nI (nK e 8), M) := m_heardAll hP (hr_hd hR he)
end REF2

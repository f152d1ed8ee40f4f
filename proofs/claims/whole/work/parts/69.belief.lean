/-! ===== the calls, both sides: what must have been heard ===== -/
theorem areE  {n : Nat} {x1 : Int32} {x2 : Int32} {x3 : Int32} {N : MS} {u : Option (Int32 × MS)} (h : (gix x1 4 fun k1 => if ((N.1 8 k1) ≤ x3 : Prop) then gz x2 <| some (x2, N) else if (x2 = 0 : Prop) then gz x2 <| some (x2, N) else cb (f_X12_floorOf x3 N) fun r8 S6 => gix ((40 * x1) + x3) 160 fun k9 => if (r8 = (S6.1 9 k9) : Prop) then f_X12_areSo_42 (f_X12_areSo_4 n) x1 x3 1 S6 else f_X12_areSo_42 (f_X12_areSo_4 n) x1 x3 0 S6) = u) : f_X12_areSo_4  (n + 1) x1 x2 x3 N = u := h
theorem cbelE {RD : Nat → Nat × Int32 × Int32 × Int32} {n : Nat} {x2 : Int32} {p3 : Nat} {x4 : Int32} {x5 : Int32} {x6 : Int32} {x7 : Int32} {N : MS} {u : Option (Int32 × MS)} (h : (if (6561 ≤ x7 : Prop) then if (x2 = 0 : Prop) then some (x4, N) else if (0 ≤ x5 : Prop) then some (x5, N) else cb (f_X11_error RD 2 N) fun r19 S17 => some (r19, S17) else gk p3 4 <| cb (f_X4_hasFloors RD (N.2 (46 + p3)) (N.1 (10 + p3)) x6 N) fun r21 S22 => if (r21 = 0 : Prop) then f_X11_believed_93 RD (f_X11_believed_55 RD n) x2 p3 x4 x5 x6 x7 (sL N S22) else bI (x4 + 1) fun v28 => if (0 ≤ x5 : Prop) then f_X11_believed_91 RD (f_X11_believed_55 RD n) x2 p3 v28 x6 x7 x5 (sL N S22) else f_X11_believed_91 RD (f_X11_believed_55 RD n) x2 p3 v28 x6 x7 x7 (sL N S22)) = u) : f_X11_believed_55 RD (n + 1) x2 p3 x4 x5 x6 x7 N = u := h
theorem rbelE  {n : Nat} {x1 : Int32} {x2 : Int32} {x3 : Int32} {x4 : Int32} {x5 : Int32} {N : MS} {u : Option (Int32 × MS)} (h : (if (6561 ≤ x5 : Prop) then if (x2 = 1 : Prop) then if (x3 = 0 : Prop) then cb (f_X12_errs (-1000000002) (sM N 3 1)) fun r23 S21 => some (r23, S21) else f_X12_believed_147 x2 x3 x4 (sM N 3 1) else f_X12_believed_147 x2 x3 x4 (sM N 3 1) else cb (f_X12_hearsAll x5 N) fun _ S24 => cb (f_X12_areSo x1 S24) fun r29 S27 => if (r29 = 0 : Prop) then f_X12_believed_113 (f_X12_believed_74 n) x1 x2 x3 x4 x5 S27 else if (0 ≤ x4 : Prop) then f_X12_believed_108 (f_X12_believed_74 n) x1 x2 x3 x5 x4 S27 else f_X12_believed_108 (f_X12_believed_74 n) x1 x2 x3 x5 x5 S27) = u) : f_X12_believed_74  (n + 1) x1 x2 x3 x4 x5 N = u := h
section BELIEF
variable {RD : RDt} {S M : MS}
theorem th_set {e : Nat → Nat} {N : MS} (T : Th M e N) {k : Nat} (hk : k < 6561) : ∃ N2 : MS, Th M (dg k) N2 ∧ f_X12_hearsAll (nI k) N = some (0, N2) := by
  obtain ⟨he, hP, x, y, hM⟩ := T
  have hm := hdS_ME hM.1 (dg k)
  exact ⟨hdS N (dg k), ⟨dg_D3 k, hm.pow hP, x, y, hM.trans hm⟩, m_hearsAll hP (hr_hd hM.1 he) (by omega)⟩
/-- a sheet that tells floors: n of them -/
theorem floors_both (R : Rel RD S M) {s n : Nat} (hs : s < 4) (hm : ¬ M.1 7 s = 0) (h8 : M.1 8 s = nI n) (hn : n ≤ rN (M.1 1)) {e : Nat → Nat} : ∀ (j i fu : Nat) (N : MS), i + j = n → j + 1 < fu → Th M e N → ∃ (b : Bool) (N2 : MS), Th M e N2 ∧ f_X4_hasFloors_2 RD (S.2 (46 + s)) (S.1 (10 + s)) fu (eD e) (nI i) S = some (tI b, S) ∧ f_X12_areSo_4 fu (nI s) 1 (nI i) N = some (tI b, N2) := by
  obtain ⟨g1, g2, g3, g4⟩ := R.gs hs
  have hl : S.2 (46 + s) = nI n := (g3 hm).trans h8
  have hn7 := R.n7
  have L := R.lf
  have hW := L.wf
  intro j
  induction j with
  | zero =>
    intro i fu N hi hf T
    obtain rfl : i = n := by omega
    obtain ⟨fu, rfl⟩ : ∃ z, fu = z + 1 := ⟨fu - 1, by omega⟩
    have hle : nI i ≤ nI i := nI_le (Nat.le_refl _) (by omega)
    have e8 : N.1 8 s = nI i := by
      obtain ⟨_, _, x, y, hM⟩ := T
      rw [hM.2.1 8 (by decide)]; exact h8
    exact ⟨true, N, T, iteT (by rw [hl]; exact hle) rfl, areE <| gixE s rfl hs (by decide) (iteT (by rw [e8]; exact hle) (gzE (Or.inr rfl) rfl))⟩
  | succ j ih =>
    intro i fu N hi hf T
    obtain ⟨fu, rfl⟩ : ∃ z, fu = z + 1 := ⟨fu - 1, by omega⟩
    have hle : ¬ nI n ≤ nI i := nI_ge (by omega) (by omega)
    have hle2 : ¬ nI (rN (M.1 1)) ≤ nI i := nI_ge (by omega) (by omega)
    have e8 : ∀ {N : MS}, Th M e N → N.1 8 s = nI n := fun T => by
      obtain ⟨_, _, x, y, hM⟩ := T
      rw [hM.2.1 8 (by decide)]; exact h8
    have e9 : ∀ {N : MS}, Th M e N → N.1 9 = M.1 9 := fun T => by
      obtain ⟨_, _, x, y, hM⟩ := T
      rw [hM.2.1 9 (by decide)]; rfl
    have hi6 : i < 6 := by omega
    obtain ⟨N1, T1, t1⟩ := th_floorOf R T hi6
    have gf := c_floor hW L.abc hi6 (dg_D3 (rS (M.1 1) i)) T.1
    rw [← (L.rr i hi6).2.1] at gf
    have hv := g4 i (by omega)
    by_cases q : rFl (M.1 1) i (dg (rS (M.1 1) i)) e = S.1 (10 + s) i
    · obtain ⟨b, N2, T2, k1, k2⟩ := ih (i + 1) fu N1 (by omega) (by omega) T1
      refine ⟨b, N2, T2, iteF (by rw [hl]; exact hle) (iteF (by rw [R.n6]; exact hle2) (gixE i rfl hi6 (by decide) (cbE gf (gixE i rfl (by omega) (by decide) (iteT q (bIE ?_)))))), areE <| gixE s rfl hs (by decide) (iteF (by rw [e8 T]; exact hle) (iteF (by decide) (cbE t1 (gixE _ (e40 s i) (by omega) (by decide) (iteT (by rw [e9 T1, ← hv]; exact q) (bIE ?_))))))⟩
      · rw [nI_1]; exact k1
      · rw [nI_1]; exact k2
    · obtain ⟨fu, rfl⟩ : ∃ z, fu = z + 1 := ⟨fu - 1, by omega⟩
      refine ⟨false, N1, T1, iteF (by rw [hl]; exact hle) (iteF (by rw [R.n6]; exact hle2) (gixE i rfl hi6 (by decide) (cbE gf (gixE i rfl (by omega) (by decide) (iteF q rfl))))), areE <| gixE s rfl hs (by decide) (iteF (by rw [e8 T]; exact hle) (iteF (by decide) (cbE t1 (gixE _ (e40 s i) (by omega) (by decide) (iteF (by rw [e9 T1, ← hv]; exact q) (bIE ?_))))))⟩
      rw [nI_1]
      refine areE <| gixE s rfl hs (by decide) ?_
      by_cases z : N1.1 8 s ≤ nI (i + 1)
      · exact iteT z (gzE (Or.inl rfl) rfl)
      · exact iteF z (iteT rfl (gzE (Or.inl rfl) rfl))
theorem hasF (R : Rel RD S M) {s n : Nat} (hs : s < 4) (hm : ¬ M.1 7 s = 0) (h8 : M.1 8 s = nI n) (hn : n ≤ rN (M.1 1)) {e : Nat → Nat} {N : MS} (T : Th M e N) : ∃ (b : Bool) (N2 : MS), Th M e N2 ∧ f_X4_hasFloors RD (S.2 (46 + s)) (S.1 (10 + s)) (eD e) S = some (tI b, S) ∧ f_X12_areSo (nI s) N = some (tI b, N2) := by
  have hn7 := R.n7
  exact floors_both R hs hm h8 hn n 0 100 N (by omega) (by omega) T
theorem c_tells (R : Rel RD S M) {s : Nat} (hs : s < 4) : f_X11_tellsFloors RD s S = some (tI (decide (¬ M.1 7 s = 0 ∧ M.1 8 s ≤ M.1 1 3)), S) := by
  obtain ⟨g1, g2, g3, g4⟩ := R.gs hs
  have e63 : S.2 6 = M.1 1 3 := R.n6.trans R.n3.symm
  unfold f_X11_tellsFloors
  by_cases hm : M.1 7 s = 0
  · rw [decide_eq_false (fun z => z.1 hm)]
    refine gkE hs (cbE (c_missT (g1.trans hm)) (iteF ne10 ?_))
    rw [hJ_V]; rfl
  · refine gkE hs (cbE (c_missF (fun z => hm (g1.symm.trans z))) (iteT rfl (gkE hs ?_)))
    rw [hJ_V, e63, g3 hm]
    by_cases h : M.1 8 s ≤ M.1 1 3
    · rw [decide_eq_true ⟨hm, h⟩]
      exact iteF (Int32.not_lt.mpr h) rfl
    · rw [decide_eq_false (fun z => h z.2)]
      exact iteT (Int32.not_le.mp h) rfl
theorem bel_loop (R : Rel RD S M) {s n : Nat} (hs : s < 4) (hm : ¬ M.1 7 s = 0) (h8 : M.1 8 s = nI n) (hn : n ≤ rN (M.1 1)) (a : Int32) (ha : a = 0 ∨ a = 1) : ∀ (j k fu fv : Nat) (e : Nat → Nat) (N : MS) (w : Nat) (y : Int32), k + j = 6561 → j < fu → j < fv → Th M e N → w ≤ k → ((w = 0 ∧ y = -1) ∨ (0 < w ∧ ∃ b, b < 6561 ∧ y = nI b)) → Two RD M (f_X11_believed_55 RD fu a s (nI w) y (eD (dg k)) (nI k) S) (f_X12_believed_74 fv (nI s) a (nI w) y (nI k) N) := by
  intro j
  induction j with
  | zero =>
    intro k fu fv e N w y hk hf hg T hw hy
    obtain rfl : k = 6561 := by omega
    obtain ⟨fu, rfl⟩ : ∃ z, fu = z + 1 := ⟨fu - 1, by omega⟩
    obtain ⟨fv, rfl⟩ : ∃ z, fv = z + 1 := ⟨fv - 1, by omega⟩
    have hle : (6561 : Int32) ≤ nI 6561 := by decide
    rcases ha with rfl | rfl
    · refine Two.back R (v := nI w) T ?_ ?_
      · exact cbelE (iteT hle (iteT rfl rfl))
      · refine rbelE (iteT hle (iteF (by decide) ?_))
        unfold f_X12_believed_147
        exact iteT rfl rfl
    · rcases hy with ⟨rfl, rfl⟩ | ⟨hw0, b, hb, rfl⟩
      · refine two_errB R T (fun y T h => ?_) (fun y T h => ?_)
        · exact cbelE (iteT hle (iteF (by decide) (iteF (by decide) (cbE h rfl))))
        · exact rbelE (iteT hle (iteT rfl (iteT rfl (cbE h rfl))))
      · refine Two.back R (v := nI b) T ?_ ?_
        · exact cbelE (iteT hle (iteF (by decide) (iteT (nI_pos' (by omega)) rfl)))
        · refine rbelE (iteT hle (iteT rfl (iteF (nI_ne0 hw0 (by omega)) ?_)))
          unfold f_X12_believed_147
          exact iteF (by decide) rfl
  | succ j ih =>
    intro k fu fv e N w y hk hf hg T hw hy
    obtain ⟨fu, rfl⟩ : ∃ z, fu = z + 1 := ⟨fu - 1, by omega⟩
    obtain ⟨fv, rfl⟩ : ∃ z, fv = z + 1 := ⟨fv - 1, by omega⟩
    have hk6 : k < 6561 := by omega
    have hle : ¬ (6561 : Int32) ≤ nI k := fun z => nI_ge (a := k) (b := 6561) hk6 (by decide) z
    have hnx := v_next hk6
    obtain ⟨N1, T1, t1⟩ := th_set T hk6
    obtain ⟨b, N2, T2, k1, k2⟩ := hasF R hs hm h8 hn T1
    have c93 : ∀ (w2 : Nat) (y2 : Int32) u, f_X11_believed_55 RD fu a s (nI w2) y2 (eD (dg (k + 1))) (nI (k + 1)) S = u → f_X11_believed_93 RD (f_X11_believed_55 RD fu) a s (nI w2) y2 (eD (dg k)) (nI k) S = u := fun w2 y2 u h => by
      refine csE hnx (bIE ?_)
      rw [nI_1]; exact h
    have r113 : ∀ (w2 : Nat) (y2 : Int32) u, f_X12_believed_74 fv (nI s) a (nI w2) y2 (nI (k + 1)) N2 = u → f_X12_believed_113 (f_X12_believed_74 fv) (nI s) a (nI w2) y2 (nI k) N2 = u := fun w2 y2 u h => by
      refine bIE ?_
      rw [nI_1]; exact h
    cases b
    · refine Two.eqs (ih (k + 1) fu fv _ N2 w y (by omega) (by omega) (by omega) T2 (by omega) hy) (fun u h => iteF hle (gkE hs (cbE k1 (iteT rfl ?_)))) (fun u h => iteF hle (cbE t1 (cbE k2 (iteT rfl (r113 w y u h)))))
      rw [sL_self]; exact c93 w y u h
    · have hy2 : ∃ y2 : Int32, (∃ b, b < 6561 ∧ y2 = nI b) ∧ (∀ {α : Type} (x z v : α), (y2 = y → x = v) → (y2 = nI k → z = v) → (if (0 ≤ y : Prop) then x else z) = v) := by
        rcases hy with ⟨rfl, rfl⟩ | ⟨hw0, b, hb, rfl⟩
        · exact ⟨nI k, ⟨k, hk6, rfl⟩, fun x z v h1 h2 => iteF (by decide) (h2 rfl)⟩
        · exact ⟨nI b, ⟨b, hb, rfl⟩, fun x z v h1 h2 => iteT (nI_pos' (by omega)) (h1 rfl)⟩
      obtain ⟨y2, hy3, hy4⟩ := hy2
      refine Two.eqs (ih (k + 1) fu fv _ N2 (w + 1) y2 (by omega) (by omega) (by omega) T2 (by omega) (Or.inr ⟨by omega, hy3⟩)) (fun u h => iteF hle (gkE hs (cbE k1 (iteF (by decide) (bIE ?_))))) (fun u h => iteF hle (cbE t1 (cbE k2 (iteF (by decide) ?_))))
      · rw [sL_self, nI_1]
        have hh := c93 (w + 1) y2 u h
        exact hy4 _ _ _ (fun q => by rw [q] at hh; exact hh) (fun q => by rw [q] at hh; exact hh)
      · have hh := r113 (w + 1) y2 u h
        refine hy4 _ _ _ (fun q => bIE ?_) (fun q => bIE ?_)
        · rw [q] at hh; rw [nI_1]; exact hh
        · rw [q] at hh; rw [nI_1]; exact hh
theorem tells_cases (R : Rel RD S M) {s : Nat} (hs : s < 4) : (¬ (¬ M.1 7 s = 0 ∧ M.1 8 s ≤ M.1 1 3)) ∨ (¬ M.1 7 s = 0 ∧ M.1 8 s ≤ M.1 1 3 ∧ ∃ n, n ≤ rN (M.1 1) ∧ M.1 8 s = nI n) := by
  obtain ⟨g1, g2, g3, g4⟩ := R.gs hs
  obtain ⟨n, hn, hn1, _⟩ := isNI_ex g2
  have hn7 := R.n7
  by_cases h : ¬ M.1 7 s = 0 ∧ M.1 8 s ≤ M.1 1 3
  · refine Or.inr ⟨h.1, h.2, n, ?_, hn1⟩
    have h2 := h.2
    rw [hn1, R.n3] at h2
    exact (nI_leI (by omega) (by omega)).mp h2
  · exact Or.inl h
theorem two_believed (R : Rel RD S M) (a b : Int32) : Two RD M (f_X11_believed RD a b S) (f_X12_believed a b M) := by
  cases h1 : inR a 4
  · exact two_err R 1 1 (-1000000001) (by decide) rfl (by decide) (fun y T h => csE (c_isSheet a) (iteT (b0 h1) (cbE h rfl))) (fun y T h => csE (r_isSheet a) (iteT (b0 h1) (cbE h rfl)))
  cases h2 : inR b 2
  · refine two_err R 1 1 (-1000000001) (by decide) rfl (by decide) (fun y T h => ?_) (fun y T h => csE (r_isSheet a) (iteF (b1n h1) (csE (r_in (by decide)) (iteT (b0 h2) (cbE h rfl)))))
    rcases rng_out h2 1 (by decide) with h0 | ⟨h0, h6⟩
    · exact csE (c_isSheet a) (iteF (b1n h1) (iteT h0 (cbE h rfl)))
    · exact csE (c_isSheet a) (iteF (b1n h1) (iteF h0 (iteF h6 (cbE h rfl))))
  · obtain ⟨s, hs, rfl, _⟩ := inR_t h1
    obtain ⟨h0, h6⟩ := rng_in h2
    have h6 := h6 1 (by decide)
    have hb : b = 0 ∨ b = 1 := by
      obtain ⟨q, hq, rfl, _⟩ := inR_t h2
      match q, hq with
      | 0, _ => exact Or.inl rfl
      | 1, _ => exact Or.inr rfl
    have ct := c_tells R hs
    have cgo : ∀ u, (if (tI (decide (¬ M.1 7 s = 0 ∧ M.1 8 s ≤ M.1 1 3)) = 0 : Prop) then cb (f_X11_error RD 2 S) fun r32 S30 => some (r32, S30) else f_X11_believed_55 RD 7000 b s 0 (-1) 0 0 S) = u → f_X11_believed RD (nI s) b S = u := fun u h => csE (c_isSheet _) (iteF (b1n h1) (iteF h0 (iteT h6 (gixE s rfl hs (by decide) (cbE ct h)))))
    have rgo : ∀ u, (if (M.1 7 s = 0 : Prop) then f_X12_believed_47 M else gix (nI s) 4 fun k15 => if ((M.1 8 k15) ≤ (M.1 1 3) : Prop) then f_X12_believed_74 7000 (nI s) b 0 (-1) 0 (sM M 1 3) else f_X12_believed_47 M) = u → f_X12_believed (nI s) b M = u := fun u h => csE (r_isSheet _) (iteF (b1n h1) (csE (r_in (by decide)) (iteF (b1n h2) (gixE s rfl hs (by decide) h))))
    rcases tells_cases R hs with hc | ⟨hm, hl, n, hn, h8⟩
    · rw [decide_eq_false hc] at cgo
      refine two_err R 2 2 (-1000000002) (by decide) rfl (by decide) (fun y T h => cgo _ (iteT rfl (cbE h rfl))) (fun y T h => rgo _ ?_)
      by_cases hm : M.1 7 s = 0
      · exact iteT hm (cbE h rfl)
      · exact iteF hm (gixE s rfl hs (by decide) (iteF (fun z => hc ⟨hm, z⟩) (cbE h rfl)))
    · rw [decide_eq_true (show ¬ M.1 7 s = 0 ∧ M.1 8 s ≤ M.1 1 3 from ⟨hm, hl⟩)] at cgo
      refine Two.eqs (bel_loop R hs hm h8 hn b hb 6561 0 7000 7000 _ _ 0 (-1) (by decide) (by decide) (by decide) (th_0 R) (Nat.le_refl 0) (Or.inl ⟨rfl, rfl⟩)) (fun u h => cgo _ (iteF (by decide) ?_)) (fun u h => rgo _ (iteF hm (gixE s rfl hs (by decide) (iteT hl h))))
      rw [dg0] at h
      exact h
end BELIEF

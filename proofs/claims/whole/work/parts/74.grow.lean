/-! ===== the calls that make or exchange: rider, become, image, restore; the beginning ===== -/
section GROW
variable {RD : RDt} {S M : MS}
theorem upQ_e {α : Type} {Q : Nat → α} {k : Nat} {q : α} : upQ Q k q k = q := if_pos rfl
theorem upQ_n {α : Type} {Q : Nat → α} {k j : Nat} {q : α} (h : ¬ j = k) : upQ Q k q j = Q j := if_neg h
theorem km_div {c : Nat} (hc : c < 70) : nI c / 10 = nI (c / 10) ∧ jrem (nI c) 10 = nI (c % 10) := ⟨nI_div (b := 10) (by omega) (by decide) (by decide), jrem_nI (b := 10) (by omega) (by decide) (by decide)⟩
theorem rider_bad (R : Rel RD S M) {a : Int32} (h : inR a 70 = false ∨ rN (M.1 1) = 6) : Two RD M (f_X11_rider RD a S) (f_X12_rider a M) := by
  cases h1 : inR a 70
  · exact two_err R 1 1 (-1000000001) (by decide) rfl (by decide) (fun y T h => csE (c_isKm a) (iteT (b0 h1) (cbE h rfl))) (fun y T h => csE (r_in (by decide)) (iteT (b0 h1) (cbE h rfl)))
  · have h6 : rN (M.1 1) = 6 := h.resolve_left (fun z => by rw [h1] at z; cases z)
    exact two_err R 4 4 (-1000000004) (by decide) rfl (by decide) (fun y T h => csE (c_isKm a) (iteF (b1n h1) (bIE (iteF (by rw [R.n6, h6]; decide) (cbE h rfl))))) (fun y T h => csE (r_in (by decide)) (iteF (b1n h1) (iteT (by rw [R.n3, h6]; rfl) (cbE h rfl))))
theorem Gr.make {r r2 : Nat → Int32} {a1 : Nat → Int32} (g : Gr r RD a1) {i c s : Nat} (hc : c < 70) (hs : s < 6561) (hne : ∀ j, 18 ≤ j → j < 36 → ¬ (18 + 3 * i ≤ j ∧ j < 18 + 3 * i + 3) → r2 j = r j) (e0 : r2 (18 + 3 * i) = nI (c / 10)) (e1 : r2 (18 + 3 * i + 1) = nI (c % 10)) (e2 : r2 (18 + 3 * i + 2) = nI s) {a2 : Nat → Int32} (ha : ∀ j, ¬ j = i → a2 j = a1 j) (hai : a2 i = eD (dg s)) : Gr r2 (upQ RD i (rdOf (nI c) (nI i))) a2 := by
  intro k hk
  have gk := g k hk
  by_cases h : k = i
  · subst h
    unfold rS rK rMm
    rw [e0, e1, e2, nI_clamp (by omega), nI_clamp (by omega), nI_clamp (by omega), upQ_e]
    obtain ⟨d1, d2⟩ := km_div hc
    refine ⟨⟨isNI_of (by omega) (by decide), isNI_of (by omega) (by decide), isNI_of hs (by decide)⟩, hai, ?_⟩
    unfold rdOf
    rw [d1, d2]
  · have f0 : r2 (18 + 3 * k) = r (18 + 3 * k) := hne _ (by omega) (by omega) (by omega)
    have f1 : r2 (18 + 3 * k + 1) = r (18 + 3 * k + 1) := hne _ (by omega) (by omega) (by omega)
    have f2 : r2 (18 + 3 * k + 2) = r (18 + 3 * k + 2) := hne _ (by omega) (by omega) (by omega)
    unfold rS rK rMm at *
    rw [f0, f1, f2, ha k h, upQ_n h]
    exact gk
theorem rider_ok (R : Rel RD S M) {c : Nat} (hc : c < 70) (hn : rN (M.1 1) < 6) : ∃ M2 : MS, f_X12_rider (nI c) M = some (nI (rN (M.1 1)), M2) ∧ Rel (upQ RD (rN (M.1 1)) (rdOf (nI c) (nI (rN (M.1 1))))) (sF (sA S 1 (rN (M.1 1)) 0) 6 (nI (rN (M.1 1)) + 1)) M2 ∧ M2.1 2 = M.1 2 ∧ M2.2 0 = M.2 0 := by
  have L := R.lf
  have h3 := R.n3
  generalize hN : rN (M.1 1) = n at hn h3
  obtain ⟨d1, d2⟩ := km_div hc
  have e18 : (18 : Int32) + 3 * nI n = nI (18 + 3 * n) := by rw [show (18 : Int32) = nI 18 by decide +kernel, show (3 : Int32) = nI 3 by decide +kernel, nI_mul, nI_add]
  have h1 : inR (nI c) 70 = true := by rw [inR_nI (by omega), decide_eq_true hc]
  have hx : (sA (sA (sA M 1 (18 + 3 * n) (nI (c / 10))) 1 (18 + 3 * n + 1) (nI (c % 10))) 1 (18 + 3 * n + 2) 0).1 1 3 = nI n := by
    show upd (upd (upd (M.1 1) (18 + 3 * n) (nI (c / 10))) (18 + 3 * n + 1) (nI (c % 10))) (18 + 3 * n + 2) 0 3 = nI n
    rw [upd_ne (by omega), upd_ne (by omega), upd_ne (by omega)]
    exact h3
  have hr2 : (sA (sA (sA (sA M 1 (18 + 3 * n) (nI (c / 10))) 1 (18 + 3 * n + 1) (nI (c % 10))) 1 (18 + 3 * n + 2) 0) 1 3 (nI (n + 1))).1 1 = upd (upd (upd (upd (M.1 1) (18 + 3 * n) (nI (c / 10))) (18 + 3 * n + 1) (nI (c % 10))) (18 + 3 * n + 2) 0) 3 (nI (n + 1)) := rfl
  have hne : ∀ j, ¬ (j = 3 ∨ (18 + 3 * n ≤ j ∧ j < 18 + 3 * n + 3)) → upd (upd (upd (upd (M.1 1) (18 + 3 * n) (nI (c / 10))) (18 + 3 * n + 1) (nI (c % 10))) (18 + 3 * n + 2) 0) 3 (nI (n + 1)) j = M.1 1 j := fun j hj => by
    rw [upd_ne (by omega), upd_ne (by omega), upd_ne (by omega), upd_ne (by omega)]
  refine ⟨sA (sA (sA (sA M 1 (18 + 3 * n) (nI (c / 10))) 1 (18 + 3 * n + 1) (nI (c % 10))) 1 (18 + 3 * n + 2) 0) 1 3 (nI (n + 1)), ?_, ⟨?_, R.xr.go ((SK.setA (by decide) _ _).trans (SK.setF (by decide) _)) ((((MK.set1 _ _).trans (MK.set1 _ _)).trans (MK.set1 _ _)).trans (MK.set1 _ _)), R.pow⟩, rfl, rfl⟩
  · refine csE (r_in (by decide)) (iteF (b1n h1) (iteF (by rw [h3]; exact fun z => by have := (nI_eq (a := n) (b := 6) (by omega) (by decide)).mp z; omega) ?_))
    rw [h3, e18]
    refine bIE (bIE (gixE (18 + 3 * n) rfl (by omega) (by decide) (bIE (gixE (18 + 3 * n + 1) (nI_1 _) (by omega) (by decide) (gixE (18 + 3 * n + 2) (nI_add (18 + 3 * n) 2) (by omega) (by decide) (bIE ?_))))))
    rw [d1, d2, hx, nI_1]
    have h4 : (sA (sA (sA (sA M 1 (18 + 3 * n) (nI (c / 10))) 1 (18 + 3 * n + 1) (nI (c % 10))) 1 (18 + 3 * n + 2) 0) 1 3 (nI (n + 1))).1 1 3 = nI (n + 1) := sA_at _ _ _ _
    rw [h4, nI_pred]
  · rw [hr2, nI_1]
    have gn := L.rr.make (i := n) (c := c) (s := 0) (r2 := upd (upd (upd (upd (M.1 1) (18 + 3 * n) (nI (c / 10))) (18 + 3 * n + 1) (nI (c % 10))) (18 + 3 * n + 2) 0) 3 (nI (n + 1))) hc (by decide) (fun j _ _ h => hne j (by omega)) (by rw [upd_ne (by omega), upd_ne (by omega), upd_ne (by omega), upd_eq]) (by rw [upd_ne (by omega), upd_ne (by omega), upd_eq]) (by rw [upd_ne (by omega), upd_eq]; rfl) (a2 := upd (S.1 1) n 0) (fun j hj => upd_ne hj) (by rw [upd_eq, dg0])
    refine ⟨L.h.cg (fun j _ _ => hne j (by omega)), gn, ⟨by rw [upd_eq]; exact isNI_of (by omega) (by decide), ?_⟩, L.t.cg (hne 9 (by omega)), L.w.cg (hne 8 (by omega)), L.d.cg (hne 0 (by omega)), L.x.cg (hne 1 (by omega)), L.z.cg (hne 2 (by omega)), L.p.cg (hne 4 (by omega)) (fun j _ _ => hne j (by omega)), L.q.cg (hne 5 (by omega)) (fun j _ _ => hne j (by omega)), L.l.cg (fun j _ _ _ => hne j (by omega))⟩
    rw [upd_eq]
    exact sF_at _ _ _
theorem become_bad (R : Rel RD S M) {a b : Int32} (h : inR a (rN (M.1 1)) = false ∨ inR b 70 = false) : Two RD M (f_X11_become RD a b S) (f_X12_become a b M) := by
  cases h1 : inR a (rN (M.1 1))
  · exact two_err R 1 1 (-1000000001) (by decide) rfl (by decide) (fun y T h => cbE (R.cR a) (iteT (b0 h1) (cbE h rfl))) (fun y T h => cbE (R.rR a) (iteT (b0 h1) (cbE h rfl)))
  · have h2 : inR b 70 = false := h.resolve_left (fun z => by rw [h1] at z; cases z)
    exact two_err R 1 1 (-1000000001) (by decide) rfl (by decide) (fun y T h => cbE (R.cR a) (iteF (b1n h1) (csE (c_isKm b) (iteT (b0 h2) (cbE h rfl))))) (fun y T h => cbE (R.rR a) (iteF (b1n h1) (csE (r_in (by decide)) (iteT (b0 h2) (cbE h rfl)))))
theorem become_ok (R : Rel RD S M) {i c : Nat} (hi : i < rN (M.1 1)) (hc : c < 70) : ∃ M2 : MS, f_X12_become (nI i) (nI c) M = some ((RD i).2.1, M2) ∧ Rel (upQ RD i (rdOf (nI c) (nI i))) S M2 ∧ M2.1 2 = M.1 2 ∧ M2.2 0 = M.2 0 := by
  have L := R.lf
  have hn7 := R.n7
  have hi6 : i < 6 := by omega
  obtain ⟨d1, d2⟩ := km_div hc
  have e18 : (18 : Int32) + 3 * nI i = nI (18 + 3 * i) := by rw [show (18 : Int32) = nI 18 by decide +kernel, show (3 : Int32) = nI 3 by decide +kernel, nI_mul, nI_add]
  have h1 : inR (nI i) (rN (M.1 1)) = true := by rw [inR_nI (by omega), decide_eq_true hi]
  have h2 : inR (nI c) 70 = true := by rw [inR_nI (by omega), decide_eq_true hc]
  have hk := L.wf.k hi6
  have hs := L.wf.s hi6
  have hne : ∀ j, ¬ (j = 18 + 3 * i ∨ j = 18 + 3 * i + 1) → upd (upd (M.1 1) (18 + 3 * i) (nI (c / 10))) (18 + 3 * i + 1) (nI (c % 10)) j = M.1 1 j := fun j hj => by
    rw [upd_ne (by omega), upd_ne (by omega)]
  refine ⟨sA (sA M 1 (18 + 3 * i) (nI (c / 10))) 1 (18 + 3 * i + 1) (nI (c % 10)), ?_, ⟨?_, R.xr.go SK.rf ((MK.set1 _ _).trans (MK.set1 _ _)), R.pow⟩, rfl, rfl⟩
  · refine cbE (R.rR _) (iteF (b1n h1) (csE (r_in (by decide)) (iteF (b1n h2) (cbE ((r_its (M := M) (i := i) (w := 0) (x := 0) rfl (by omega)).trans (by rw [show 18 + 3 * i + 0 = 18 + 3 * i from rfl, hk.1])) (bIE ?_)))))
    rw [e18]
    refine gixE (18 + 3 * i) rfl (by omega) (by decide) (bIE (gixE (18 + 3 * i + 1) (nI_1 _) (by omega) (by decide) ?_))
    rw [d1, d2, (L.rr i hi6).2.2]
  · have gn := L.rr.make (i := i) (c := c) (s := rS (M.1 1) i) (r2 := upd (upd (M.1 1) (18 + 3 * i) (nI (c / 10))) (18 + 3 * i + 1) (nI (c % 10))) hc hs.2 (fun j _ _ h => hne j (by omega)) (by rw [upd_ne (by omega), upd_eq]) (by rw [upd_eq]) (by rw [upd_ne (by omega), upd_ne (by omega)]; exact hs.1) (a2 := S.1 1) (fun j hj => rfl) (L.rr i hi6).2.1
    exact ⟨L.h.cg (fun j _ _ => hne j (by omega)), gn, L.n.cg (hne 3 (by omega)), L.t.cg (hne 9 (by omega)), L.w.cg (hne 8 (by omega)), L.d.cg (hne 0 (by omega)), L.x.cg (hne 1 (by omega)), L.z.cg (hne 2 (by omega)), L.p.cg (hne 4 (by omega)) (fun j _ _ => hne j (by omega)), L.q.cg (hne 5 (by omega)) (fun j _ _ => hne j (by omega)), L.l.cg (fun j _ _ _ => hne j (by omega))⟩
theorem Lf.cp {r : Nat → Int32} {U : MS} (L : Lf r RD S) : Lf r RD (cpS U S) := L
theorem image_ok (R : Rel RD S M) : ∃ M2 : MS, f_X12_image M = some (S.2 40 + 1, M2) ∧ Rel RD (sF S 40 (S.2 40 + 1)) M2 ∧ M2.2 0 = 1 ∧ ∀ U : MS, Lf (M2.1 2) RD (cpS U S) := by
  obtain ⟨x1, x2, x3, x4, x5, x6⟩ := R.xr
  refine ⟨sF (sF (sM M 1 2) 0 1) 1 (M.2 1 + 1), bIE ?_, ⟨?_, ⟨x1, ?_, x3, x4, x5, fun s hs => ?_⟩, R.pow⟩, rfl, fun U => R.lf⟩
  · rw [x2]
  · exact R.lf
  · rw [sF_at, x2]; rfl
  · rw [sF_ne S (show ¬ 42 + s = 40 by omega), sF_ne S (show ¬ 46 + s = 40 by omega)]
    exact x6 s hs
theorem restore_ok (R : Rel RD S M) {RDk : RDt} {U : MS} (hk : M.2 0 = 1) (L : Lf (M.1 2) RDk U) : ∃ M2 : MS, f_X12_restore M = some (U.2 3, M2) ∧ Rel RDk (cpS S U) M2 ∧ M2.1 2 = M.1 2 ∧ M2.2 0 = M.2 0 := by
  have hS : SK S (cpS S U) := ⟨fun c hc => if_neg (by omega), fun k hk => by
    show (if k < 9 then U.2 k else if k = 20 ∨ k = 30 then U.2 k else S.2 k) = S.2 k
    rw [if_neg (by omega), if_neg (by omega)]⟩
  have hM : MK M (sM M 2 1) := ⟨fun c hc => if_neg (by omega), fun _ _ => rfl⟩
  refine ⟨sM M 2 1, iteF (by rw [hk]; decide) ?_, ⟨L, R.xr.go hS hM, R.pow⟩, rfl, rfl⟩
  have e : (sM M 2 1).1 1 0 = U.2 3 := L.d.2.symm
  rw [e]
theorem restore_bad (R : Rel RD S M) (hk : M.2 0 = 0) : ∃ (S2 M2 : MS), f_X11_error RD 2 S = some (-1000000002, S2) ∧ f_X12_restore M = some (-1000000002, M2) ∧ Rel RD S2 M2 ∧ M2.1 2 = M.1 2 ∧ M2.2 0 = M.2 0 := by
  obtain ⟨S2, M2, g1, g2, g3, g4, g5⟩ := err_step R (k := 2) (x := 2) (e := -1000000002) (by decide) rfl (by decide)
  exact ⟨S2, M2, g1, iteT hk (cbE g2 rfl), g3, g4, g5⟩
end GROW
/-! the beginning -/
theorem m00_0 (j : Nat) (h : ¬ j = 2) (h6 : ¬ j = 6) (h7 : ¬ j = 7) (h9 : ¬ j = 9) : M00.1 1 j = 0 := by
  show upd (upd (upd (upd (fun _ => 0) 2 1) 6 (-1)) 7 (-1)) 9 3 j = 0
  rw [upd_ne h9, upd_ne h7, upd_ne h6, upd_ne h]
theorem begin_ok : ∃ T : MS, f_X4_workOutWorth RD0 L00 = some (0, T) ∧ Rel RD0 (X00 T) M00 ∧ M00.2 0 = 0 := by
  have t0 : TxOk (M00.1 1) 0 := Or.inl rfl
  have t1 : TxOk (M00.1 1) 1 := Or.inl rfl
  have d0 : ∀ k, k < 9 → ji2b (txF 1 k) = ji2b (nI (dfB 0 k)) := by decide +kernel
  have d1 : ∀ k, k < 7 → ji2b (txF 3 k) = ji2b (nI (dfB 1 k)) := by decide +kernel
  have c0 : ClT (M00.1 1) 0 (L00.1 5) (L00.2 20) := Or.inl ⟨rfl, rfl, d0⟩
  have c1 : ClT (M00.1 1) 1 (L00.1 6) (L00.2 30) := Or.inl ⟨rfl, rfl, d1⟩
  obtain ⟨T, q1, q2, q3⟩ := c_worth (RD := RD0) t0 c0
  have a1 : T.1 1 = L00.1 1 := q1.1 1 (by decide)
  have a2 : T.1 2 = L00.1 2 := q1.1 2 (by decide)
  have a3 : T.1 3 = L00.1 3 := q1.1 3 (by decide)
  have a5 : T.1 5 = L00.1 5 := q1.1 5 (by decide)
  have a6 : T.1 6 = L00.1 6 := q1.1 6 (by decide)
  have s : ∀ k, k < 9 → T.2 k = L00.2 k := fun k hk => q1.2.1 k (by omega)
  have s30 : T.2 30 = L00.2 30 := q1.2.1 30 (by omega)
  have i0 : ∀ n, 0 < n → n ≤ 2 ^ 31 → isNI 0 n := fun n h1 h2 => isNI_of (k := 0) h1 h2
  have z : ∀ j, ¬ j = 2 → ¬ j = 6 → ¬ j = 7 → ¬ j = 9 → M00.1 1 j = 0 := m00_0
  have e0 : eD (rE (M00.1 1)) = 0 := by
    have h : eD (rE (M00.1 1)) = eD (fun _ => 0) := eD_congr (fun f hf => by
      unfold rE
      rw [z _ (by omega) (by omega) (by omega) (by omega)]; rfl)
    rw [h]
    unfold eD
    exact eP_0.symm
  refine ⟨T, q3, ⟨?_, ⟨fun k _ => rfl, rfl, i0 41 (by decide) (by decide), rfl, fun k _ => rfl, fun t ht => ⟨?_, i0 41 (by decide) (by decide), fun h => absurd rfl h, fun k _ => ?_⟩⟩, fun f hf => ?_⟩, rfl⟩
  · have hL : Lf (M00.1 1) RD0 T := by
      unfold Lf
      rw [a1, a2, a3, a5, a6, s 0 (by decide), s 1 (by decide), s 2 (by decide), s 3 (by decide), s 4 (by decide), s 5 (by decide), s 6 (by decide), s 7 (by decide), s 8 (by decide), q1.2.2, s30]
      refine ⟨⟨fun f hf => ?_, e0.symm⟩, fun i hi => ?_, ⟨?_, rfl⟩, ⟨isNI_of (k := 3) (by decide) (by decide), rfl⟩, ⟨?_, rfl⟩, ⟨?_, rfl⟩, ⟨?_, rfl⟩, rfl, ⟨?_, rfl, fun k hk => ?_⟩, ⟨?_, rfl, fun k hk => ?_⟩, ⟨t0, t1, q2, c0, c1⟩⟩
      · rw [z _ (by omega) (by omega) (by omega) (by omega)]; exact i0 3 (by decide) (by decide)
      · unfold rS rK rMm
        rw [z (18 + 3 * i) (by omega) (by omega) (by omega) (by omega), z (18 + 3 * i + 1) (by omega) (by omega) (by omega) (by omega), z (18 + 3 * i + 2) (by omega) (by omega) (by omega) (by omega)]
        exact ⟨⟨i0 7 (by decide) (by decide), i0 10 (by decide) (by decide), i0 6561 (by decide) (by decide)⟩, dg0.symm, rfl⟩
      · exact i0 7 (by decide) (by decide)
      · exact i0 256 (by decide) (by decide)
      · exact i0 10000 (by decide) (by decide)
      · exact i0 10000 (by decide) (by decide)
      · exact i0 51 (by decide) (by decide)
      · rw [z _ (by omega) (by omega) (by omega) (by omega)]
        exact ⟨i0 256 (by decide) (by decide), rfl⟩
      · exact i0 21 (by decide) (by decide)
      · rw [z _ (by omega) (by omega) (by omega) (by omega)]
        rfl
    exact hL.sg (fun c hc => if_pos hc) (fun k hk => if_pos hk)
  · show (if 42 + t < 40 then _ else (0 : Int32)) = 0
    rw [if_neg (by omega)]
  · show (if 10 + t < 7 then T.1 (10 + t) else fun _ => (0 : Int32)) k = 0
    rw [if_neg (by omega)]
  · have h : ∀ f, f < 8 → M00.1 5 f = nI (3 ^ f) := by decide +kernel
    exact h f hf

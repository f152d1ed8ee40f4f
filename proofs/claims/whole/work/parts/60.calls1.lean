/-! ===== the calls, both sides: facts, riders ===== -/
theorem upd_ne {f : Nat → Int32} {k j : Nat} {v : Int32} (h : ¬ j = k) : upd f k v j = f j := if_neg h
theorem upd_eq {f : Nat → Int32} {k : Nat} {v : Int32} : upd f k v k = v := if_pos rfl
theorem b0 {b : Bool} (h : b = false) : (bif b then (1 : Int32) else 0) = 0 := by rw [h]; rfl
theorem b1n {b : Bool} (h : b = true) : ¬ (bif b then (1 : Int32) else 0) = 0 := by rw [h]; decide
section CALLS1
variable {RD : RDt} {S M : MS}
theorem Rel.n6 (R : Rel RD S M) : S.2 6 = nI (rN (M.1 1)) := R.lf.n.2.trans R.lf.n.1.1
theorem Rel.n3 (R : Rel RD S M) : M.1 1 3 = nI (rN (M.1 1)) := R.lf.n.1.1
theorem Rel.n7 (R : Rel RD S M) : rN (M.1 1) < 7 := R.lf.n.1.2
theorem Rel.cR (R : Rel RD S M) (a : Int32) : f_X11_isRider RD a S = some (bif inR a (rN (M.1 1)) then 1 else 0, S) := c_isRider a R.n6 R.n7
theorem Rel.rR (R : Rel RD S M) (a : Int32) : f_X12_isRider a M = some (bif inR a (rN (M.1 1)) then 1 else 0, M) := r_isRider a R.n3 R.n7
theorem two_heard (R : Rel RD S M) : Two RD M (f_X11_heard RD S) (f_X12_heard M) := by
  have hE := R.lf.wf.he
  refine Two.same R (v := nI (nK (rE (M.1 1)) 8)) (M2 := M) ?_ ?_ ME.rf
  · refine csE (r := nI (nK (rE (M.1 1)) 8)) ?_ rfl
    rw [R.lf.h.2]
    exact v_numberOf hE
  · exact cbE (r_heardAll R.pow R.hr hE) rfl
theorem two_hear (R : Rel RD S M) (a b : Int32) : Two RD M (f_X11_hear RD a b S) (f_X12_hear a b M) := by
  have L := R.lf
  cases h1 : inR a 8
  · exact two_err R 1 1 (-1000000001) (by decide) rfl (by decide) (fun y T h => csE (c_isFact a) (iteT (b0 h1) (cbE h rfl))) (fun y T h => csE (r_isFact a) (iteT (b0 h1) (cbE h rfl)))
  · cases h2 : inR b 3
    · exact two_err R 1 1 (-1000000001) (by decide) rfl (by decide) (fun y T h => csE (c_isFact a) (iteF (b1n h1) (csE (c_isSaying b) (iteT (b0 h2) (cbE h rfl))))) (fun y T h => csE (r_isFact a) (iteF (b1n h1) (csE (r_in (by decide)) (iteT (b0 h2) (cbE h rfl)))))
    · obtain ⟨f, hf, rfl, _⟩ := inR_t h1
      obtain ⟨v, hv, rfl, _⟩ := inR_t h2
      have hE := L.wf.he
      have hne : ∀ j, ¬ j = 10 + f → upd (M.1 1) (10 + f) (nI v) j = M.1 1 j := fun j hj => upd_ne hj
      refine Two.go R (v := nI (rE (M.1 1) f)) (S2 := sF S 0 (eD (fun g => if g = f then v else rE (M.1 1) g))) (M2 := sA M 1 (10 + f) (nI v)) ?_ ?_ (SK.setF (by decide) _) (MK.set1 _ _) ?_
      · refine csE (c_isFact _) (iteF (b1n h1) (csE (c_isSaying _) (iteF (b1n h2) (csE (r := nI (rE (M.1 1) f)) ?_ (csE (r := eD (fun g => if g = f then v else rE (M.1 1) g)) ?_ rfl)))))
        · rw [L.h.2]; exact v_sayingOf hf (hE f hf)
        · rw [L.h.2]; exact v_withSaying hf hv
      · refine csE (r_isFact _) (iteF (b1n h1) (csE (r_in (by decide)) (iteF (b1n h2) (gixE (10 + f) (l10 f) (by omega) (by decide) (bIE (gixE (10 + f) (l10 f) (by omega) (by decide) ?_))))))
        rw [(L.h.1 f hf).1]
        rfl
      · refine ⟨⟨fun g hg => ?_, eD_congr (fun g hg => ?_)⟩, L.rr.cg (fun j _ _ => hne j (by omega)), L.n.cg (hne 3 (by omega)), L.t.cg (hne 9 (by omega)), L.w.cg (hne 8 (by omega)), L.d.cg (hne 0 (by omega)), L.x.cg (hne 1 (by omega)), L.z.cg (hne 2 (by omega)), L.p.cg (hne 4 (by omega)) (fun j _ _ => hne j (by omega)), L.q.cg (hne 5 (by omega)) (fun j _ _ => hne j (by omega)), L.l.cg (fun j _ _ _ => hne j (by omega))⟩
        · show isNI (upd (M.1 1) (10 + f) (nI v) (10 + g)) 3
          by_cases e : g = f
          · subst e; rw [upd_eq]; exact isNI_of hv (by decide)
          · rw [upd_ne (by omega)]; exact L.h.1 g hg
        · show _ = (upd (M.1 1) (10 + f) (nI v) (10 + g)).toNatClampNeg
          by_cases e : g = f
          · subst e; rw [upd_eq, if_pos rfl, nI_clamp (by omega)]
          · rw [upd_ne (by omega), if_neg e]; rfl
theorem two_world (R : Rel RD S M) (a : Int32) : Two RD M (f_X11_world RD a S) (f_X12_world a M) := by
  have L := R.lf
  cases h1 : inR a 256
  · refine two_err R 1 1 (-1000000001) (by decide) rfl (by decide) (fun y T h => ?_) (fun y T h => csE (r_in (by decide)) (iteT (b0 h1) (cbE h rfl)))
    rcases rng_out h1 255 (by decide) with h0 | ⟨h0, h2⟩
    · exact iteT h0 (cbE h rfl)
    · exact iteF h0 (iteF h2 (cbE h rfl))
  · obtain ⟨h0, h2⟩ := rng_in h1
    obtain ⟨v, hv, rfl, _⟩ := inR_t h1
    have hne : ∀ j, ¬ j = 8 → upd (M.1 1) 8 (nI v) j = M.1 1 j := fun j hj => upd_ne hj
    refine Two.go R (v := M.1 1 8) (S2 := sF S 1 (nI v)) (M2 := sA M 1 8 (nI v)) (iteF h0 (iteT (h2 255 (by decide)) (bIE ?_))) (csE (r_in (by decide)) (iteF (b1n h1) (bIE rfl))) (SK.setF (by decide) _) (MK.set1 _ _) ?_
    · rw [L.w.2]
    · exact ⟨L.h.cg (fun j _ _ => hne j (by omega)), L.rr.cg (fun j _ _ => hne j (by omega)), L.n.cg (hne 3 (by omega)), L.t.cg (hne 9 (by omega)), ⟨isNI_of hv (by decide), rfl⟩, L.d.cg (hne 0 (by omega)), L.x.cg (hne 1 (by omega)), L.z.cg (hne 2 (by omega)), L.p.cg (hne 4 (by omega)) (fun j _ _ => hne j (by omega)), L.q.cg (hne 5 (by omega)) (fun j _ _ => hne j (by omega)), L.l.cg (fun j _ _ _ => hne j (by omega))⟩
theorem two_trust (R : Rel RD S M) (a : Int32) : Two RD M (f_X11_trust RD a S) (f_X12_trust a M) := by
  have L := R.lf
  cases h1 : inR a 10
  · refine two_err R 1 1 (-1000000001) (by decide) rfl (by decide) (fun y T h => ?_) (fun y T h => csE (r_in (by decide)) (iteT (b0 h1) (cbE h rfl)))
    rcases rng_out h1 9 (by decide) with h0 | ⟨h0, h2⟩
    · exact iteT h0 (cbE h rfl)
    · exact iteF h0 (iteF h2 (cbE h rfl))
  · obtain ⟨h0, h2⟩ := rng_in h1
    obtain ⟨v, hv, rfl, _⟩ := inR_t h1
    have hne : ∀ j, ¬ j = 9 → upd (M.1 1) 9 (nI v) j = M.1 1 j := fun j hj => upd_ne hj
    refine Two.go R (v := M.1 1 9) (S2 := sF S 2 (nI v)) (M2 := sA M 1 9 (nI v)) (iteF h0 (iteT (h2 9 (by decide)) (bIE ?_))) (csE (r_in (by decide)) (iteF (b1n h1) (bIE rfl))) (SK.setF (by decide) _) (MK.set1 _ _) ?_
    · rw [L.t.2]
    · exact ⟨L.h.cg (fun j _ _ => hne j (by omega)), L.rr.cg (fun j _ _ => hne j (by omega)), L.n.cg (hne 3 (by omega)), ⟨isNI_of hv (by decide), rfl⟩, L.w.cg (hne 8 (by omega)), L.d.cg (hne 0 (by omega)), L.x.cg (hne 1 (by omega)), L.z.cg (hne 2 (by omega)), L.p.cg (hne 4 (by omega)) (fun j _ _ => hne j (by omega)), L.q.cg (hne 5 (by omega)) (fun j _ _ => hne j (by omega)), L.l.cg (fun j _ _ _ => hne j (by omega))⟩
theorem two_seed (R : Rel RD S M) (a : Int32) : Two RD M (f_X11_seed RD a S) (f_X12_seed a M) := by
  have L := R.lf
  have hne : ∀ j, ¬ j = 2 → upd (M.1 1) 2 a j = M.1 1 j := fun j hj => upd_ne hj
  refine Two.go R (v := M.1 1 2) (S2 := sF S 5 a) (M2 := sA M 1 2 a) (bIE ?_) (bIE rfl) (SK.setF (by decide) _) (MK.set1 _ _) ?_
  · rw [L.z]
  · exact ⟨L.h.cg (fun j _ _ => hne j (by omega)), L.rr.cg (fun j _ _ => hne j (by omega)), L.n.cg (hne 3 (by omega)), L.t.cg (hne 9 (by omega)), L.w.cg (hne 8 (by omega)), L.d.cg (hne 0 (by omega)), L.x.cg (hne 1 (by omega)), rfl, L.p.cg (hne 4 (by omega)) (fun j _ _ => hne j (by omega)), L.q.cg (hne 5 (by omega)) (fun j _ _ => hne j (by omega)), L.l.cg (fun j _ _ _ => hne j (by omega))⟩
theorem two_tell (R : Rel RD S M) (a : Int32) : Two RD M (f_X11_tell RD a S) (f_X12_tell a M) := by
  have L := R.lf
  obtain ⟨q1, q2, q3⟩ := L.q
  obtain ⟨n, hn, h5, _⟩ := isNI_ex q1
  have h8 : S.2 8 = nI n := q2.trans h5
  by_cases hf : n = 20
  · exact two_err R 4 4 (-1000000004) (by decide) rfl (by decide) (fun y T h => iteF (by rw [h8, hf]; decide) (cbE h rfl)) (fun y T h => iteT (by rw [h5, hf]; rfl) (cbE h rfl))
  · have e86 : (86 : Int32) + M.1 1 5 = nI (86 + n) := by rw [h5, show (86 : Int32) = nI 86 by decide +kernel, nI_add]
    have hx : upd (M.1 1) (86 + n) a 5 = nI n := (upd_ne (by omega)).trans h5
    have hne : ∀ j, ¬ (j = 86 + n ∨ j = 5) → upd (upd (M.1 1) (86 + n) a) 5 (nI (n + 1)) j = M.1 1 j := fun j hj => (upd_ne (by omega)).trans (upd_ne (by omega))
    refine Two.go R (v := nI (n + 1)) (S2 := sF (sA S 3 n a) 8 (nI (n + 1))) (M2 := sA (sA M 1 (86 + n) a) 1 5 (nI (n + 1))) ?_ ?_ ((SK.setA (by decide) _ _).trans (SK.setF (by decide) _)) ((MK.set1 _ _).trans (MK.set1 _ _)) ?_
    · refine iteT (by rw [h8]; exact nI_lt (a := n) (b := 20) (by omega) (by decide)) (gixE n h8 (by omega) (by decide) (bIE ?_))
      rw [h8, nI_1]
    · refine iteF (by rw [h5]; exact fun z => hf ((nI_eq (a := n) (b := 20) (by omega) (by decide)).mp z)) (gixE (86 + n) e86 (by omega) (by decide) (bIE ?_))
      have hx2 : (sA M 1 (86 + n) a).1 1 5 = nI n := hx
      rw [hx2, nI_1]
      rfl
    · refine ⟨L.h.cg (fun j _ _ => hne j (by omega)), L.rr.cg (fun j _ _ => hne j (by omega)), L.n.cg (hne 3 (by omega)), L.t.cg (hne 9 (by omega)), L.w.cg (hne 8 (by omega)), L.d.cg (hne 0 (by omega)), L.x.cg (hne 1 (by omega)), L.z.cg (hne 2 (by omega)), L.p.cg (hne 4 (by omega)) (fun j _ _ => hne j (by omega)), ⟨isNI_of (by omega) (by decide), rfl, fun k hk => ?_⟩, L.l.cg (fun j _ _ _ => hne j (by omega))⟩
      show upd (S.1 3) n a k = upd (upd (M.1 1) (86 + n) a) 5 (nI (n + 1)) (86 + k)
      rw [upd_ne (f := upd (M.1 1) (86 + n) a) (by omega)]
      by_cases e : k = n
      · subst e; rw [upd_eq, upd_eq]
      · rw [upd_ne e, upd_ne (by omega)]; exact q3 k hk
theorem two_told (R : Rel RD S M) (a : Int32) : Two RD M (f_X11_told RD a S) (f_X12_told a M) := by
  by_cases h0 : a < 1
  · exact two_err R 1 1 (-1000000001) (by decide) rfl (by decide) (fun y T h => iteT h0 (cbE h rfl)) (fun y T h => csE (r := 0) (iteT h0 rfl) (iteT rfl (cbE h rfl)))
  · by_cases h1 : a ≤ 5
    · obtain ⟨k, hk, rfl⟩ : ∃ k, k ≤ 5 ∧ a = nI k := by
        have n0 : ¬ a < 0 := fun z => h0 (by rw [Int32.lt_iff_toInt_lt] at z ⊢; have : (0 : Int32).toInt = 0 := by decide
                                             have : (1 : Int32).toInt = 1 := by decide
                                             omega)
        exact nI_of2 (n := 5) (by decide) n0 h1
      have hx := R.xr.1 k (by omega)
      refine Two.same R (v := M.1 6 k) (M2 := M) (iteF h0 (iteT h1 (gixE k rfl (by omega) (by decide) ?_))) (csE (r := 1) (iteF h0 (iteF (Int32.not_lt.mpr h1) rfl)) (iteF ne10 (gixE k rfl (by omega) (by decide) rfl))) ME.rf
      rw [hx]
    · exact two_err R 1 1 (-1000000001) (by decide) rfl (by decide) (fun y T h => iteF h0 (iteF h1 (cbE h rfl))) (fun y T h => csE (r := 0) (iteF h0 (iteT (Int32.not_le.mp h1) rfl)) (iteT rfl (cbE h rfl)))
end CALLS1

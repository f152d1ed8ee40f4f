/-! ===== the calls, both sides: ofRider, ride, law ===== -/
theorem sL_self (S : MS) : sL S S = S := by
  refine Prod.ext (funext fun c => ?_) (funext fun k => ?_)
  · show (if c < 7 then S.1 c else S.1 c) = S.1 c
    split <;> rfl
  · show (if k < 40 then S.2 k else S.2 k) = S.2 k
    split <;> rfl
section CALLS3
variable {RD : RDt} {S M : MS}
theorem w_eP {w : Nat} (hw : w < 256) : nI w = eP (Nat.testBit w) (fun _ => false) := set_eP w hw
theorem two_ofRider (R : Rel RD S M) (a b : Int32) : Two RD M (f_X11_ofRider RD a b S) (f_X12_ofRider a b M) := by
  have L := R.lf
  cases h1 : inR a (rN (M.1 1))
  · exact two_err R 1 1 (-1000000001) (by decide) rfl (by decide) (fun y T h => cbE (R.cR a) (iteT (b0 h1) (cbE h rfl))) (fun y T h => cbE (R.rR a) (iteT (b0 h1) (cbE h rfl)))
  · cases h2 : inR b 10
    · refine two_err R 1 1 (-1000000001) (by decide) rfl (by decide) (fun y T h => ?_) (fun y T h => cbE (R.rR a) (iteF (b1n h1) (csE (r_in (by decide)) (iteT (b0 h2) (cbE h rfl)))))
      rcases rng_out h2 9 (by decide) with h0 | ⟨h0, h6⟩
      · exact cbE (R.cR a) (iteF (b1n h1) (iteT h0 (cbE h rfl)))
      · exact cbE (R.cR a) (iteF (b1n h1) (iteF h0 (iteF h6 (cbE h rfl))))
    · have hn7 := R.n7
      obtain ⟨h0, h9⟩ := rng_in h2
      have h9 := h9 9 (by decide)
      obtain ⟨i, hi, rfl, _⟩ := inR_t h1
      obtain ⟨q, hq, rfl, _⟩ := inR_t h2
      have hi6 : i < 6 := by omega
      have hW := L.wf
      have hE := hW.he
      have hk := hW.k hi6
      have hm := hW.m hi6
      have hs := hW.s hi6
      have hd := dg_D3 (rS (M.1 1) i)
      have hS1 := (L.rr i hi6).2.1
      have hRD := (L.rr i hi6).2.2
      have hw := m_weigh R.pow (hr_hd R.hr hE) (n := rS (M.1 1) i) (by omega)
      generalize hM1 : wS M (nI (nAs (dg (rS (M.1 1) i)) (rE (M.1 1)))) (nI (nOt (dg (rS (M.1 1) i)) (rE (M.1 1)))) (nI (nFr (dg (rS (M.1 1) i)) (rE (M.1 1)))) = M1 at hw
      have w2 : M1.2 2 = nI (nAs (dg (rS (M.1 1) i)) (rE (M.1 1))) := by rw [← hM1]; rfl
      have w3 : M1.2 3 = nI (nOt (dg (rS (M.1 1) i)) (rE (M.1 1))) := by rw [← hM1]; rfl
      have w4 : M1.2 4 = nI (nFr (dg (rS (M.1 1) i)) (rE (M.1 1))) := by rw [← hM1]; rfl
      have w1 : ME M M1 (M.1 1) := by
        rw [← hM1]
        refine ⟨rfl, fun _ _ => rfl, fun k hk => ?_⟩
        show (if k = 2 then _ else if k = 3 then _ else if k = 4 then _ else M.2 k) = _
        rw [if_neg (by omega), if_neg (by omega), if_neg (by omega)]
      have hR1 : M1.1 1 = HR (M.1 1) (rE (M.1 1)) (M.1 1 1) (M.1 1 0) := w1.1.trans R.hr
      have hP1 := w1.pow R.pow
      have hIts : f_X12_its (nI i) 2 M = some (nI (rS (M.1 1) i), M) := (r_its (M := M) (i := i) (w := 2) (x := 2) rfl (by omega)).trans (by rw [hs.1])
      match q, hq, h2, h0, h9 with
      | 0, _, h2, h0, h9 =>
        refine Two.same R (v := nI (rK (M.1 1) i)) (M2 := M1) (cbE (R.cR _) (iteF (b1n h1) (iteF h0 (iteT h9 (gixE i rfl hi6 (by decide) (bIE (iteT rfl (gixE i rfl hi6 (by decide) ((if_pos hi6).trans ?_))))))))) (cbE (R.rR _) (iteF (b1n h1) (csE (r_in (by decide)) (iteF (b1n h2) (cbE hIts (cbE hw (iteF (by decide) (iteF (by decide) (iteF (by decide) (iteF (by decide) (iteF (by decide) (iteF (by decide) (iteF (by decide) (cbE (r_its (w := 0) rfl (by omega)) ?_)))))))))))))) w1
        · rw [hRD]
        · rw [w1.1, show 18 + 3 * i + 0 = 18 + 3 * i from rfl, hk.1]
      | 1, _, h2, h0, h9 =>
        refine Two.same R (v := nI (rMm (M.1 1) i)) (M2 := M1) (cbE (R.cR _) (iteF (b1n h1) (iteF h0 (iteT h9 (gixE i rfl hi6 (by decide) (bIE (iteF (by decide) (iteT rfl (gixE i rfl hi6 (by decide) ((if_pos hi6).trans ?_)))))))))) (cbE (R.rR _) (iteF (b1n h1) (csE (r_in (by decide)) (iteF (b1n h2) (cbE hIts (cbE hw (iteF (by decide) (iteF (by decide) (iteF (by decide) (iteF (by decide) (iteF (by decide) (iteF (by decide) (iteF (by decide) (cbE (r_its (w := 1) rfl (by omega)) ?_)))))))))))))) w1
        · rw [hRD]
        · rw [w1.1, hm.1]
      | 2, _, h2, h0, h9 =>
        refine Two.same R (v := nI (rS (M.1 1) i)) (M2 := M1) (cbE (R.cR _) (iteF (b1n h1) (iteF h0 (iteT h9 (gixE i rfl hi6 (by decide) (bIE (iteF (by decide) (iteF (by decide) (iteT rfl (csE (r := nI (rS (M.1 1) i)) ?_ rfl)))))))))) (cbE (R.rR _) (iteF (b1n h1) (csE (r_in (by decide)) (iteF (b1n h2) (cbE hIts (cbE hw (iteF (by decide) (iteF (by decide) (iteF (by decide) (iteF (by decide) (iteF (by decide) (iteF (by decide) (iteF (by decide) (cbE (r_its (w := 2) rfl (by omega)) ?_)))))))))))))) w1
        · rw [hS1, v_numberOf hd, nK_small hs.2]
        · rw [w1.1, hs.1]
      | 3, _, h2, h0, h9 =>
        refine Two.same R (v := nI (cK (fun f => dg (rS (M.1 1) i) f != 0) 8)) (M2 := M1) (cbE (R.cR _) (iteF (b1n h1) (iteF h0 (iteT h9 (gixE i rfl hi6 (by decide) (bIE (iteF (by decide) (iteF (by decide) (iteF (by decide) (iteT rfl (csE (r := nI (cK (fun f => dg (rS (M.1 1) i) f != 0) 8)) ?_ rfl))))))))))) (cbE (R.rR _) (iteF (b1n h1) (csE (r_in (by decide)) (iteF (b1n h2) (cbE hIts (cbE hw (iteT rfl (?_)))))))) w1
        · rw [hS1]; exact v_bitCount hd
        · rw [w2, w3, w4, nI_add, nI_add, ← cK_sum3 (dg (rS (M.1 1) i)) (rE (M.1 1)) 8]; rfl
      | 4, _, h2, h0, h9 =>
        refine Two.same R (v := nI (nAs (dg (rS (M.1 1) i)) (rE (M.1 1)))) (M2 := M1) (cbE (R.cR _) (iteF (b1n h1) (iteF h0 (iteT h9 (gixE i rfl hi6 (by decide) (bIE (iteF (by decide) (iteF (by decide) (iteF (by decide) (iteF (by decide) (iteT rfl (csE (r := nI (nAs (dg (rS (M.1 1) i)) (rE (M.1 1)))) ?_ rfl)))))))))))) (cbE (R.rR _) (iteF (b1n h1) (csE (r_in (by decide)) (iteF (b1n h2) (cbE hIts (cbE hw (iteF (by decide) (iteT rfl (?_))))))))) w1
        · rw [hS1, L.h.2]; exact v_asHeard hd hE
        · rw [w2]
      | 5, _, h2, h0, h9 =>
        refine Two.same R (v := nI (nOt (dg (rS (M.1 1) i)) (rE (M.1 1)))) (M2 := M1) (cbE (R.cR _) (iteF (b1n h1) (iteF h0 (iteT h9 (gixE i rfl hi6 (by decide) (bIE (iteF (by decide) (iteF (by decide) (iteF (by decide) (iteF (by decide) (iteF (by decide) (iteT rfl (csE (r := nI (nOt (dg (rS (M.1 1) i)) (rE (M.1 1)))) ?_ rfl))))))))))))) (cbE (R.rR _) (iteF (b1n h1) (csE (r_in (by decide)) (iteF (b1n h2) (cbE hIts (cbE hw (iteF (by decide) (iteF (by decide) (iteT rfl (?_)))))))))) w1
        · rw [hS1, L.h.2]; exact v_otherWay hd hE
        · rw [w3]
      | 6, _, h2, h0, h9 =>
        refine Two.same R (v := nI (nFr (dg (rS (M.1 1) i)) (rE (M.1 1)))) (M2 := M1) (cbE (R.cR _) (iteF (b1n h1) (iteF h0 (iteT h9 (gixE i rfl hi6 (by decide) (bIE (iteF (by decide) (iteF (by decide) (iteF (by decide) (iteF (by decide) (iteF (by decide) (iteF (by decide) (iteT rfl (csE (r := nI (nFr (dg (rS (M.1 1) i)) (rE (M.1 1)))) ?_ rfl)))))))))))))) (cbE (R.rR _) (iteF (b1n h1) (csE (r_in (by decide)) (iteF (b1n h2) (cbE hIts (cbE hw (iteF (by decide) (iteF (by decide) (iteF (by decide) (iteT rfl (?_))))))))))) w1
        · rw [hS1, L.h.2]; exact v_unheard hd hE
        · rw [w4]
      | 7, _, h2, h0, h9 =>
        obtain ⟨M2, g1, g2⟩ := r_creditOf hW hP1 hR1 hE hi6 hs.2
        have gc := c_credit hW L.abc hi6 hd hE
        rw [← hS1, ← L.h.2] at gc
        refine Two.same R (v := rCr (M.1 1) i (dg (rS (M.1 1) i)) (rE (M.1 1))) (M2 := M2) (cbE (R.cR _) (iteF (b1n h1) (iteF h0 (iteT h9 (gixE i rfl hi6 (by decide) (bIE (iteF (by decide) (iteF (by decide) (iteF (by decide) (iteF (by decide) (iteF (by decide) (iteF (by decide) (iteF (by decide) (iteT rfl (cbE gc ?_))))))))))))))) (cbE (R.rR _) (iteF (b1n h1) (csE (r_in (by decide)) (iteF (b1n h2) (cbE hIts (cbE hw (iteF (by decide) (iteF (by decide) (iteF (by decide) (iteF (by decide) (iteT rfl (cbE g2 rfl)))))))))))) ?_
        · rw [sL_self]
        · have g3 := w1.trans g1
          rw [w1.1] at g3
          exact g3
      | 8, _, h2, h0, h9 =>
        obtain ⟨M2, g1, g2⟩ := r_floorOf hW hP1 hR1 hE hi6
        have gc := c_floor hW L.abc hi6 hd hE
        rw [← hS1, ← L.h.2] at gc
        refine Two.same R (v := rFl (M.1 1) i (dg (rS (M.1 1) i)) (rE (M.1 1))) (M2 := M2) (cbE (R.cR _) (iteF (b1n h1) (iteF h0 (iteT h9 (gixE i rfl hi6 (by decide) (bIE (iteF (by decide) (iteF (by decide) (iteF (by decide) (iteF (by decide) (iteF (by decide) (iteF (by decide) (iteF (by decide) (iteF (by decide) (iteT rfl (cbE gc ?_)))))))))))))))) (cbE (R.rR _) (iteF (b1n h1) (csE (r_in (by decide)) (iteF (b1n h2) (cbE hIts (cbE hw (iteF (by decide) (iteF (by decide) (iteF (by decide) (iteF (by decide) (iteF (by decide) (iteT rfl (cbE g2 rfl))))))))))))) ?_
        · rw [sL_self]
        · have g3 := w1.trans g1
          rw [w1.1] at g3
          exact g3
      | 9, _, h2, h0, h9 =>
        have hww := hW.w
        have gw := m_worldStory (M := M1) hP1 hww.2 (by rw [w1.1]; exact hww.1)
        have gt := m_isTrue (M := M1) hP1 (n := rS (M.1 1) i) (w := nK (wD (rW (M.1 1))) 8) (by omega) (Nat.lt_trans (nK_lt 8 (fun f _ => wD_lt _ f)) (by decide))
        have gc := true_eq (n := rS (M.1 1) i) hww.2
        have e1 : f_X11_truth (S.2 1) = some (eP (Nat.testBit (rW (M.1 1))) (fun f => !Nat.testBit (rW (M.1 1)) f)) := by
          rw [L.w.2, hww.1, w_eP hww.2]
          exact v_truth _
        rw [← hS1] at gc
        cases ht : tK (rS (M.1 1) i) (nK (wD (rW (M.1 1))) 8) 8
        · rw [ht] at gt gc
          exact Two.same R (v := 0) (M2 := M1) (cbE (R.cR _) (iteF (b1n h1) (iteF h0 (iteT h9 (gixE i rfl hi6 (by decide) (bIE (iteF (by decide) (iteF (by decide) (iteF (by decide) (iteF (by decide) (iteF (by decide) (iteF (by decide) (iteF (by decide) (iteF (by decide) (iteF (by decide) (csE e1 (csE gc (iteT rfl rfl)))))))))))))))))) (cbE (R.rR _) (iteF (b1n h1) (csE (r_in (by decide)) (iteF (b1n h2) (cbE hIts (cbE hw (iteF (by decide) (iteF (by decide) (iteF (by decide) (iteF (by decide) (iteF (by decide) (iteF (by decide) (iteT rfl (cbE gw (cbE gt (iteT rfl rfl)))))))))))))))) w1
        · rw [ht] at gt gc
          exact Two.same R (v := 1) (M2 := M1) (cbE (R.cR _) (iteF (b1n h1) (iteF h0 (iteT h9 (gixE i rfl hi6 (by decide) (bIE (iteF (by decide) (iteF (by decide) (iteF (by decide) (iteF (by decide) (iteF (by decide) (iteF (by decide) (iteF (by decide) (iteF (by decide) (iteF (by decide) (csE e1 (csE gc (iteF (by decide) rfl)))))))))))))))))) (cbE (R.rR _) (iteF (b1n h1) (csE (r_in (by decide)) (iteF (b1n h2) (cbE hIts (cbE hw (iteF (by decide) (iteF (by decide) (iteF (by decide) (iteF (by decide) (iteF (by decide) (iteF (by decide) (iteT rfl (cbE gw (cbE gt (iteF (by decide) rfl)))))))))))))))) w1
end CALLS3

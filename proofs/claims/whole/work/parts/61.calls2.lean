/-! ===== the calls, both sides: stories, kinds, what a rider is ===== -/
theorem Gr.story {r : Nat → Int32} {RD : RDt} {a1 : Nat → Int32} (g : Gr r RD a1) {i v : Nat} (hi : i < 6) (hv : v < 6561) (dd : Int32) (hd : dd = eD (dg v)) : Gr (upd r (18 + 3 * i + 2) (nI v)) RD (upd a1 i dd) := by
  intro k hk
  have gk := g k hk
  have e1 : upd r (18 + 3 * i + 2) (nI v) (18 + 3 * k) = r (18 + 3 * k) := upd_ne (by omega)
  have e2 : upd r (18 + 3 * i + 2) (nI v) (18 + 3 * k + 1) = r (18 + 3 * k + 1) := upd_ne (by omega)
  unfold rS rK rMm at *
  rw [e1, e2]
  by_cases h : k = i
  · subst h
    rw [upd_eq, upd_eq, nI_clamp (by omega)]
    exact ⟨⟨gk.1.1, gk.1.2.1, isNI_of hv (by decide)⟩, hd, gk.2.2⟩
  · have e3 : upd r (18 + 3 * i + 2) (nI v) (18 + 3 * k + 2) = r (18 + 3 * k + 2) := upd_ne (by omega)
    rw [e3, upd_ne h]
    exact gk
theorem nK_put_lo {d : Nat → Nat} {f v : Nat} : ∀ k, k ≤ f → nK (fun g => if g = f then v else d g) k = nK d k
  | 0, _ => rfl
  | k + 1, h => by
    show nK _ k + (if k = f then v else d k) * 3 ^ k = nK d k + d k * 3 ^ k
    rw [nK_put_lo k (by omega), if_neg (by omega)]
theorem nK_put {d : Nat → Nat} {f v : Nat} : ∀ k, f < k → nK (fun g => if g = f then v else d g) k + d f * 3 ^ f = nK d k + v * 3 ^ f
  | 0, h => absurd h (Nat.not_lt_zero f)
  | k + 1, h => by
    show nK _ k + (if k = f then v else d k) * 3 ^ k + d f * 3 ^ f = nK d k + d k * 3 ^ k + v * 3 ^ f
    by_cases e : k = f
    · subst e
      rw [nK_put_lo k (Nat.le_refl k), if_pos rfl]
      omega
    · have ih := nK_put (d := d) (v := v) k (show f < k by omega)
      rw [if_neg e]
      omega
theorem say_num {n f v : Nat} (hn : n < 6561) (hf : f < 8) (hv : v < 3) : nK (fun g => if g = f then v else dg n g) 8 < 6561 ∧ nI n + nI (3 ^ f) * (nI v - nI (dg n f)) = nI (nK (fun g => if g = f then v else dg n g) 8) ∧ eD (fun g => if g = f then v else dg n g) = eD (dg (nK (fun g => if g = f then v else dg n g) 8)) := by
  have hD : D3 (fun g => if g = f then v else dg n g) := fun g _ => by
    show (if g = f then v else dg n g) < 3
    by_cases e : g = f
    · rw [if_pos e]; exact hv
    · rw [if_neg e]; exact dg_lt n g
  have h1 := nK_put (d := dg n) (v := v) 8 hf
  rw [nK_small hn] at h1
  refine ⟨nK_lt 8 hD, ?_, eD_congr (fun g hg => (dg_nK 8 hD g hg).symm)⟩
  have e1 : nI (nK (fun g => if g = f then v else dg n g) 8) + nI (dg n f * 3 ^ f) = nI n + nI (v * 3 ^ f) := by rw [nI_add, nI_add, h1]
  have e2 : nI (3 ^ f) * (nI v - nI (dg n f)) = nI (v * 3 ^ f) - nI (dg n f * 3 ^ f) := by
    rw [Int32.mul_sub, nI_mul, nI_mul, Nat.mul_comm v, Nat.mul_comm (dg n f)]
  rw [e2, Int32.sub_eq_add_neg, ← Int32.add_assoc, ← e1, ← Int32.sub_eq_add_neg, Int32.add_sub_cancel]
theorem cK_sum3 (d e : Nat → Nat) : ∀ k, cK (fun f => d f != 0 && d f == e f) k + cK (fun f => d f != 0 && e f != 0 && d f != e f) k + cK (fun f => d f != 0 && e f == 0) k = cK (fun f => d f != 0) k
  | 0 => rfl
  | k + 1 => by
    have ih := cK_sum3 d e k
    rw [cK_s, cK_s, cK_s, cK_s]
    by_cases h1 : d k = 0
    · have e1 : (d k != 0) = false := by rw [h1]; rfl
      rw [e1]
      show _ + 0 + (_ + 0) + (_ + 0) = _ + 0
      omega
    · have e1 : (d k != 0) = true := bne_iff_ne.mpr h1
      rw [e1]
      by_cases h2 : e k = 0
      · have e2 : (e k != 0) = false := by rw [h2]; rfl
        have e3 : (e k == 0) = true := by rw [h2]; rfl
        have e4 : (d k == e k) = false := beq_eq_false_iff_ne.mpr (by rw [h2]; exact h1)
        rw [e2, e3, e4]
        show _ + 0 + (_ + 0) + (_ + 1) = _ + 1
        omega
      · have e2 : (e k != 0) = true := bne_iff_ne.mpr h2
        have e3 : (e k == 0) = false := beq_eq_false_iff_ne.mpr h2
        rw [e2, e3]
        by_cases h3 : d k = e k
        · have e4 : (d k == e k) = true := beq_iff_eq.mpr h3
          have e5 : (d k != e k) = false := by unfold bne; rw [e4]; rfl
          rw [e4, e5]
          show _ + 1 + (_ + 0) + (_ + 0) = _ + 1
          omega
        · have e4 : (d k == e k) = false := beq_eq_false_iff_ne.mpr h3
          have e5 : (d k != e k) = true := bne_iff_ne.mpr h3
          rw [e4, e5]
          show _ + 0 + (_ + 1) + (_ + 0) = _ + 1
          omega
/-- all of a story is so in the world: the class's test and the reference's -/
theorem true_eq {n w : Nat} (hw : w < 256) : f_X11_isWithin (eD (dg n)) (eP (Nat.testBit w) (fun f => !Nat.testBit w f)) = some (tI (tK n (nK (wD w) 8) 8)) := by
  have hwD : D3 (wD w) := fun f _ => wD_lt w f
  have hiff : tK n (nK (wD w) 8) 8 = true ↔ (∀ f, f < 8 → (dg n f == 1) = true → Nat.testBit w f = true) ∧ (∀ f, f < 8 → (dg n f == 2) = true → (!Nat.testBit w f) = true) := by
    rw [tK_iff]
    constructor
    · intro h
      refine ⟨fun f hf h1 => ?_, fun f hf h1 => ?_⟩
      · have := h f hf
        rw [dg_nK 8 hwD f hf, beq_iff_eq.mp h1] at this
        unfold wD at this
        cases hb : Nat.testBit w f
        · rw [hb] at this
          exact absurd this (by decide)
        · rfl
      · have := h f hf
        rw [dg_nK 8 hwD f hf, beq_iff_eq.mp h1] at this
        unfold wD at this
        cases hb : Nat.testBit w f
        · rfl
        · rw [hb] at this
          exact absurd this (by decide)
    · intro h f hf
      rw [dg_nK 8 hwD f hf]
      unfold wD
      rcases lt3 (dg_lt n f) with q | q | q
      · exact Or.inl q
      · have := h.1 f hf (by rw [q]; rfl)
        rw [q, this]
        exact Or.inr rfl
      · have := h.2 f hf (by rw [q]; rfl)
        cases hb : Nat.testBit w f
        · rw [q]; exact Or.inr rfl
        · rw [hb] at this
          cases this
  unfold eD
  cases ht : tK n (nK (wD w) 8) 8
  · exact v_within0 (fun z => by rw [hiff.mpr z] at ht; cases ht)
  · exact v_within1 (hiff.mp ht)
section CALLS2
variable {RD : RDt} {S M : MS}
theorem two_story (R : Rel RD S M) (a b : Int32) : Two RD M (f_X11_story RD a b S) (f_X12_story a b M) := by
  have L := R.lf
  cases h1 : inR a (rN (M.1 1))
  · exact two_err R 1 1 (-1000000001) (by decide) rfl (by decide) (fun y T h => cbE (R.cR a) (iteT (b0 h1) (cbE h rfl))) (fun y T h => cbE (R.rR a) (iteT (b0 h1) (cbE h rfl)))
  · cases h2 : inR b 6561
    · exact two_err R 1 1 (-1000000001) (by decide) rfl (by decide) (fun y T h => cbE (R.cR a) (iteF (b1n h1) (csE (c_isStory b) (iteT (b0 h2) (cbE h rfl))))) (fun y T h => cbE (R.rR a) (iteF (b1n h1) (csE (r_in (by decide)) (iteT (b0 h2) (cbE h rfl)))))
    · have hn7 := R.n7
      obtain ⟨i, hi, rfl, _⟩ := inR_t h1
      obtain ⟨v, hv, rfl, hv31⟩ := inR_t h2
      have hi6 : i < 6 := by omega
      have hs := L.wf.s hi6
      have hne : ∀ j, ¬ j = 18 + 3 * i + 2 → upd (M.1 1) (18 + 3 * i + 2) (nI v) j = M.1 1 j := fun j hj => upd_ne hj
      have e18 : (18 + (3 * nI i)) + 2 = nI (18 + 3 * i + 2) := by rw [show (18 : Int32) = nI 18 by decide +kernel, show (3 : Int32) = nI 3 by decide +kernel, show (2 : Int32) = nI 2 by decide +kernel, nI_mul, nI_add, nI_add]
      refine Two.go R (v := nI (rS (M.1 1) i)) (S2 := sA S 1 i (eD (dg v))) (M2 := sA M 1 (18 + 3 * i + 2) (nI v)) ?_ ?_ (SK.setA (by decide) _ _) (MK.set1 _ _) ?_
      · refine cbE (R.cR _) (iteF (b1n h1) (csE (c_isStory _) (iteF (b1n h2) (gixE i rfl hi6 (by decide) (csE (r := nI (rS (M.1 1) i)) ?_ (csE (v_sayingsOf hv31) (gixE i rfl hi6 (by decide) rfl)))))))
        rw [(L.rr i hi6).2.1, v_numberOf (dg_D3 _), nK_small hs.2]
      · refine cbE (R.rR _) (iteF (b1n h1) (csE (r_in (by decide)) (iteF (b1n h2) (cbE (r_its (w := 2) rfl (by omega)) (gixE (18 + 3 * i + 2) e18 (by omega) (by decide) ?_)))))
        rw [hs.1]
      · exact ⟨L.h.cg (fun j _ _ => hne j (by omega)), L.rr.story hi6 hv _ rfl, L.n.cg (hne 3 (by omega)), L.t.cg (hne 9 (by omega)), L.w.cg (hne 8 (by omega)), L.d.cg (hne 0 (by omega)), L.x.cg (hne 1 (by omega)), L.z.cg (hne 2 (by omega)), L.p.cg (hne 4 (by omega)) (fun j _ _ => hne j (by omega)), L.q.cg (hne 5 (by omega)) (fun j _ _ => hne j (by omega)), L.l.cg (fun j _ _ _ => hne j (by omega))⟩
theorem two_say (R : Rel RD S M) (a b c : Int32) : Two RD M (f_X11_say RD a b c S) (f_X12_say a b c M) := by
  have L := R.lf
  cases h1 : inR a (rN (M.1 1))
  · exact two_err R 1 1 (-1000000001) (by decide) rfl (by decide) (fun y T h => cbE (R.cR a) (iteT (b0 h1) (cbE h rfl))) (fun y T h => cbE (R.rR a) (iteT (b0 h1) (cbE h rfl)))
  · cases h2 : inR b 8
    · exact two_err R 1 1 (-1000000001) (by decide) rfl (by decide) (fun y T h => cbE (R.cR a) (iteF (b1n h1) (csE (c_isFact b) (iteT (b0 h2) (cbE h rfl))))) (fun y T h => cbE (R.rR a) (iteF (b1n h1) (csE (r_isFact b) (iteT (b0 h2) (cbE h rfl)))))
    · cases h3 : inR c 3
      · exact two_err R 1 1 (-1000000001) (by decide) rfl (by decide) (fun y T h => cbE (R.cR a) (iteF (b1n h1) (csE (c_isFact b) (iteF (b1n h2) (csE (c_isSaying c) (iteT (b0 h3) (cbE h rfl))))))) (fun y T h => cbE (R.rR a) (iteF (b1n h1) (csE (r_isFact b) (iteF (b1n h2) (csE (r_in (by decide)) (iteT (b0 h3) (cbE h rfl)))))))
      · have hn7 := R.n7
        obtain ⟨i, hi, rfl, _⟩ := inR_t h1
        obtain ⟨f, hf, rfl, _⟩ := inR_t h2
        obtain ⟨v, hv, rfl, _⟩ := inR_t h3
        have hi6 : i < 6 := by omega
        have hs := L.wf.s hi6
        obtain ⟨n1, n2, n3⟩ := say_num hs.2 hf hv
        generalize hN : nK (fun g => if g = f then v else dg (rS (M.1 1) i) g) 8 = N at n1 n2 n3
        have hne : ∀ j, ¬ j = 18 + 3 * i + 2 → upd (M.1 1) (18 + 3 * i + 2) (nI N) j = M.1 1 j := fun j hj => upd_ne hj
        have e18 : (18 + (3 * nI i)) + 2 = nI (18 + 3 * i + 2) := by rw [show (18 : Int32) = nI 18 by decide +kernel, show (3 : Int32) = nI 3 by decide +kernel, show (2 : Int32) = nI 2 by decide +kernel, nI_mul, nI_add, nI_add]
        refine Two.go R (v := nI (dg (rS (M.1 1) i) f)) (S2 := sA S 1 i (eD (fun g => if g = f then v else dg (rS (M.1 1) i) g))) (M2 := sA M 1 (18 + 3 * i + 2) (nI N)) ?_ ?_ (SK.setA (by decide) _ _) (MK.set1 _ _) ?_
        · refine cbE (R.cR _) (iteF (b1n h1) (csE (c_isFact _) (iteF (b1n h2) (csE (c_isSaying _) (iteF (b1n h3) (gixE i rfl hi6 (by decide) (csE (r := nI (dg (rS (M.1 1) i) f)) ?_ (gixE i rfl hi6 (by decide) (csE (r := eD (fun g => if g = f then v else dg (rS (M.1 1) i) g)) ?_ (gixE i rfl hi6 (by decide) rfl))))))))))
          · rw [(L.rr i hi6).2.1]; exact v_sayingOf hf (dg_lt _ f)
          · rw [(L.rr i hi6).2.1]; exact v_withSaying hf hv
        · refine cbE (R.rR _) (iteF (b1n h1) (csE (r_isFact _) (iteF (b1n h2) (csE (r_in (by decide)) (iteF (b1n h3) (cbE (r_its (w := 2) rfl (by omega)) ?_))))))
          rw [hs.1]
          refine cbE (m_saying R.pow (by omega) hf) (bIE (gixE (18 + 3 * i + 2) e18 (by omega) (by decide) (gixE f rfl hf (by decide) (bIE (gixE (18 + 3 * i + 2) e18 (by omega) (by decide) ?_)))))
          rw [hs.1, R.pow f hf, n2]
        · exact ⟨L.h.cg (fun j _ _ => hne j (by omega)), L.rr.story hi6 n1 _ n3, L.n.cg (hne 3 (by omega)), L.t.cg (hne 9 (by omega)), L.w.cg (hne 8 (by omega)), L.d.cg (hne 0 (by omega)), L.x.cg (hne 1 (by omega)), L.z.cg (hne 2 (by omega)), L.p.cg (hne 4 (by omega)) (fun j _ _ => hne j (by omega)), L.q.cg (hne 5 (by omega)) (fun j _ _ => hne j (by omega)), L.l.cg (fun j _ _ _ => hne j (by omega))⟩
theorem as_loop {i k q : Nat} (hi : i < 6) (hk : k < 7) (hq : q < 7) : ∃ x : Int32, f_X12_as_32 100 (nI i) (nI q) (nI k) M = f_X12_as_49 (nI i) x M ∧ (0 ≤ x ↔ ¬ f_isK (kcl (nI k)) (nI q) = 0) := by
  have up : ∀ (n : Nat) (x y : Int32), ¬ x < 0 → ¬ x = nI q → f_X12_above x = some y → f_X12_as_32 (n + 1) (nI i) (nI q) x M = f_X12_as_32 n (nI i) (nI q) y M := fun n x y h1 h2 h3 => iteF h1 (iteF h2 (csE h3 rfl))
  have st : ∀ (n : Nat) (x : Int32), (x < 0 ∨ x = nI q) → f_X12_as_32 (n + 1) (nI i) (nI q) x M = f_X12_as_49 (nI i) x M := fun n x h => by
    by_cases h1 : x < 0
    · exact iteT h1 rfl
    · exact iteF h1 (iteT (h.resolve_left h1) rfl)
  match k, hk, q, hq with
  | 0, _, 0, _ => exact ⟨(nI 0), (st 99 (nI 0) (by decide)), by decide⟩
  | 0, _, 1, _ => exact ⟨(-1), ((up 99 (nI 0) (-1) (by decide) (by decide) rfl).trans (st 98 (-1) (by decide))), by decide⟩
  | 0, _, 2, _ => exact ⟨(-1), ((up 99 (nI 0) (-1) (by decide) (by decide) rfl).trans (st 98 (-1) (by decide))), by decide⟩
  | 0, _, 3, _ => exact ⟨(-1), ((up 99 (nI 0) (-1) (by decide) (by decide) rfl).trans (st 98 (-1) (by decide))), by decide⟩
  | 0, _, 4, _ => exact ⟨(-1), ((up 99 (nI 0) (-1) (by decide) (by decide) rfl).trans (st 98 (-1) (by decide))), by decide⟩
  | 0, _, 5, _ => exact ⟨(-1), ((up 99 (nI 0) (-1) (by decide) (by decide) rfl).trans (st 98 (-1) (by decide))), by decide⟩
  | 0, _, 6, _ => exact ⟨(-1), ((up 99 (nI 0) (-1) (by decide) (by decide) rfl).trans (st 98 (-1) (by decide))), by decide⟩
  | 1, _, 0, _ => exact ⟨(nI 0), ((up 99 (nI 1) (nI 0) (by decide) (by decide) rfl).trans (st 98 (nI 0) (by decide))), by decide⟩
  | 1, _, 1, _ => exact ⟨(nI 1), (st 99 (nI 1) (by decide)), by decide⟩
  | 1, _, 2, _ => exact ⟨(-1), ((up 99 (nI 1) (nI 0) (by decide) (by decide) rfl).trans ((up 98 (nI 0) (-1) (by decide) (by decide) rfl).trans (st 97 (-1) (by decide)))), by decide⟩
  | 1, _, 3, _ => exact ⟨(-1), ((up 99 (nI 1) (nI 0) (by decide) (by decide) rfl).trans ((up 98 (nI 0) (-1) (by decide) (by decide) rfl).trans (st 97 (-1) (by decide)))), by decide⟩
  | 1, _, 4, _ => exact ⟨(-1), ((up 99 (nI 1) (nI 0) (by decide) (by decide) rfl).trans ((up 98 (nI 0) (-1) (by decide) (by decide) rfl).trans (st 97 (-1) (by decide)))), by decide⟩
  | 1, _, 5, _ => exact ⟨(-1), ((up 99 (nI 1) (nI 0) (by decide) (by decide) rfl).trans ((up 98 (nI 0) (-1) (by decide) (by decide) rfl).trans (st 97 (-1) (by decide)))), by decide⟩
  | 1, _, 6, _ => exact ⟨(-1), ((up 99 (nI 1) (nI 0) (by decide) (by decide) rfl).trans ((up 98 (nI 0) (-1) (by decide) (by decide) rfl).trans (st 97 (-1) (by decide)))), by decide⟩
  | 2, _, 0, _ => exact ⟨(nI 0), ((up 99 (nI 2) (nI 0) (by decide) (by decide) rfl).trans (st 98 (nI 0) (by decide))), by decide⟩
  | 2, _, 1, _ => exact ⟨(-1), ((up 99 (nI 2) (nI 0) (by decide) (by decide) rfl).trans ((up 98 (nI 0) (-1) (by decide) (by decide) rfl).trans (st 97 (-1) (by decide)))), by decide⟩
  | 2, _, 2, _ => exact ⟨(nI 2), (st 99 (nI 2) (by decide)), by decide⟩
  | 2, _, 3, _ => exact ⟨(-1), ((up 99 (nI 2) (nI 0) (by decide) (by decide) rfl).trans ((up 98 (nI 0) (-1) (by decide) (by decide) rfl).trans (st 97 (-1) (by decide)))), by decide⟩
  | 2, _, 4, _ => exact ⟨(-1), ((up 99 (nI 2) (nI 0) (by decide) (by decide) rfl).trans ((up 98 (nI 0) (-1) (by decide) (by decide) rfl).trans (st 97 (-1) (by decide)))), by decide⟩
  | 2, _, 5, _ => exact ⟨(-1), ((up 99 (nI 2) (nI 0) (by decide) (by decide) rfl).trans ((up 98 (nI 0) (-1) (by decide) (by decide) rfl).trans (st 97 (-1) (by decide)))), by decide⟩
  | 2, _, 6, _ => exact ⟨(-1), ((up 99 (nI 2) (nI 0) (by decide) (by decide) rfl).trans ((up 98 (nI 0) (-1) (by decide) (by decide) rfl).trans (st 97 (-1) (by decide)))), by decide⟩
  | 3, _, 0, _ => exact ⟨(nI 0), ((up 99 (nI 3) (nI 0) (by decide) (by decide) rfl).trans (st 98 (nI 0) (by decide))), by decide⟩
  | 3, _, 1, _ => exact ⟨(-1), ((up 99 (nI 3) (nI 0) (by decide) (by decide) rfl).trans ((up 98 (nI 0) (-1) (by decide) (by decide) rfl).trans (st 97 (-1) (by decide)))), by decide⟩
  | 3, _, 2, _ => exact ⟨(-1), ((up 99 (nI 3) (nI 0) (by decide) (by decide) rfl).trans ((up 98 (nI 0) (-1) (by decide) (by decide) rfl).trans (st 97 (-1) (by decide)))), by decide⟩
  | 3, _, 3, _ => exact ⟨(nI 3), (st 99 (nI 3) (by decide)), by decide⟩
  | 3, _, 4, _ => exact ⟨(-1), ((up 99 (nI 3) (nI 0) (by decide) (by decide) rfl).trans ((up 98 (nI 0) (-1) (by decide) (by decide) rfl).trans (st 97 (-1) (by decide)))), by decide⟩
  | 3, _, 5, _ => exact ⟨(-1), ((up 99 (nI 3) (nI 0) (by decide) (by decide) rfl).trans ((up 98 (nI 0) (-1) (by decide) (by decide) rfl).trans (st 97 (-1) (by decide)))), by decide⟩
  | 3, _, 6, _ => exact ⟨(-1), ((up 99 (nI 3) (nI 0) (by decide) (by decide) rfl).trans ((up 98 (nI 0) (-1) (by decide) (by decide) rfl).trans (st 97 (-1) (by decide)))), by decide⟩
  | 4, _, 0, _ => exact ⟨(nI 0), ((up 99 (nI 4) (nI 1) (by decide) (by decide) rfl).trans ((up 98 (nI 1) (nI 0) (by decide) (by decide) rfl).trans (st 97 (nI 0) (by decide)))), by decide⟩
  | 4, _, 1, _ => exact ⟨(nI 1), ((up 99 (nI 4) (nI 1) (by decide) (by decide) rfl).trans (st 98 (nI 1) (by decide))), by decide⟩
  | 4, _, 2, _ => exact ⟨(-1), ((up 99 (nI 4) (nI 1) (by decide) (by decide) rfl).trans ((up 98 (nI 1) (nI 0) (by decide) (by decide) rfl).trans ((up 97 (nI 0) (-1) (by decide) (by decide) rfl).trans (st 96 (-1) (by decide))))), by decide⟩
  | 4, _, 3, _ => exact ⟨(-1), ((up 99 (nI 4) (nI 1) (by decide) (by decide) rfl).trans ((up 98 (nI 1) (nI 0) (by decide) (by decide) rfl).trans ((up 97 (nI 0) (-1) (by decide) (by decide) rfl).trans (st 96 (-1) (by decide))))), by decide⟩
  | 4, _, 4, _ => exact ⟨(nI 4), (st 99 (nI 4) (by decide)), by decide⟩
  | 4, _, 5, _ => exact ⟨(-1), ((up 99 (nI 4) (nI 1) (by decide) (by decide) rfl).trans ((up 98 (nI 1) (nI 0) (by decide) (by decide) rfl).trans ((up 97 (nI 0) (-1) (by decide) (by decide) rfl).trans (st 96 (-1) (by decide))))), by decide⟩
  | 4, _, 6, _ => exact ⟨(-1), ((up 99 (nI 4) (nI 1) (by decide) (by decide) rfl).trans ((up 98 (nI 1) (nI 0) (by decide) (by decide) rfl).trans ((up 97 (nI 0) (-1) (by decide) (by decide) rfl).trans (st 96 (-1) (by decide))))), by decide⟩
  | 5, _, 0, _ => exact ⟨(nI 0), ((up 99 (nI 5) (nI 2) (by decide) (by decide) rfl).trans ((up 98 (nI 2) (nI 0) (by decide) (by decide) rfl).trans (st 97 (nI 0) (by decide)))), by decide⟩
  | 5, _, 1, _ => exact ⟨(-1), ((up 99 (nI 5) (nI 2) (by decide) (by decide) rfl).trans ((up 98 (nI 2) (nI 0) (by decide) (by decide) rfl).trans ((up 97 (nI 0) (-1) (by decide) (by decide) rfl).trans (st 96 (-1) (by decide))))), by decide⟩
  | 5, _, 2, _ => exact ⟨(nI 2), ((up 99 (nI 5) (nI 2) (by decide) (by decide) rfl).trans (st 98 (nI 2) (by decide))), by decide⟩
  | 5, _, 3, _ => exact ⟨(-1), ((up 99 (nI 5) (nI 2) (by decide) (by decide) rfl).trans ((up 98 (nI 2) (nI 0) (by decide) (by decide) rfl).trans ((up 97 (nI 0) (-1) (by decide) (by decide) rfl).trans (st 96 (-1) (by decide))))), by decide⟩
  | 5, _, 4, _ => exact ⟨(-1), ((up 99 (nI 5) (nI 2) (by decide) (by decide) rfl).trans ((up 98 (nI 2) (nI 0) (by decide) (by decide) rfl).trans ((up 97 (nI 0) (-1) (by decide) (by decide) rfl).trans (st 96 (-1) (by decide))))), by decide⟩
  | 5, _, 5, _ => exact ⟨(nI 5), (st 99 (nI 5) (by decide)), by decide⟩
  | 5, _, 6, _ => exact ⟨(-1), ((up 99 (nI 5) (nI 2) (by decide) (by decide) rfl).trans ((up 98 (nI 2) (nI 0) (by decide) (by decide) rfl).trans ((up 97 (nI 0) (-1) (by decide) (by decide) rfl).trans (st 96 (-1) (by decide))))), by decide⟩
  | 6, _, 0, _ => exact ⟨(nI 0), ((up 99 (nI 6) (nI 3) (by decide) (by decide) rfl).trans ((up 98 (nI 3) (nI 0) (by decide) (by decide) rfl).trans (st 97 (nI 0) (by decide)))), by decide⟩
  | 6, _, 1, _ => exact ⟨(-1), ((up 99 (nI 6) (nI 3) (by decide) (by decide) rfl).trans ((up 98 (nI 3) (nI 0) (by decide) (by decide) rfl).trans ((up 97 (nI 0) (-1) (by decide) (by decide) rfl).trans (st 96 (-1) (by decide))))), by decide⟩
  | 6, _, 2, _ => exact ⟨(-1), ((up 99 (nI 6) (nI 3) (by decide) (by decide) rfl).trans ((up 98 (nI 3) (nI 0) (by decide) (by decide) rfl).trans ((up 97 (nI 0) (-1) (by decide) (by decide) rfl).trans (st 96 (-1) (by decide))))), by decide⟩
  | 6, _, 3, _ => exact ⟨(nI 3), ((up 99 (nI 6) (nI 3) (by decide) (by decide) rfl).trans (st 98 (nI 3) (by decide))), by decide⟩
  | 6, _, 4, _ => exact ⟨(-1), ((up 99 (nI 6) (nI 3) (by decide) (by decide) rfl).trans ((up 98 (nI 3) (nI 0) (by decide) (by decide) rfl).trans ((up 97 (nI 0) (-1) (by decide) (by decide) rfl).trans (st 96 (-1) (by decide))))), by decide⟩
  | 6, _, 5, _ => exact ⟨(-1), ((up 99 (nI 6) (nI 3) (by decide) (by decide) rfl).trans ((up 98 (nI 3) (nI 0) (by decide) (by decide) rfl).trans ((up 97 (nI 0) (-1) (by decide) (by decide) rfl).trans (st 96 (-1) (by decide))))), by decide⟩
  | 6, _, 6, _ => exact ⟨(nI 6), (st 99 (nI 6) (by decide)), by decide⟩
theorem two_as (R : Rel RD S M) (a b : Int32) : Two RD M (f_X11_as RD a b S) (f_X12_as a b M) := by
  have L := R.lf
  cases h1 : inR a (rN (M.1 1))
  · exact two_err R 1 1 (-1000000001) (by decide) rfl (by decide) (fun y T h => cbE (R.cR a) (iteT (b0 h1) (cbE h rfl))) (fun y T h => cbE (R.rR a) (iteT (b0 h1) (cbE h rfl)))
  · cases h2 : inR b 7
    · refine two_err R 1 1 (-1000000001) (by decide) rfl (by decide) (fun y T h => ?_) (fun y T h => cbE (R.rR a) (iteF (b1n h1) (csE (r_in (by decide)) (iteT (b0 h2) (cbE h rfl)))))
      rcases rng_out h2 6 (by decide) with h0 | ⟨h0, h6⟩
      · exact cbE (R.cR a) (iteF (b1n h1) (iteT h0 (cbE h rfl)))
      · exact cbE (R.cR a) (iteF (b1n h1) (iteF h0 (iteF h6 (cbE h rfl))))
    · have hn7 := R.n7
      obtain ⟨h0, h6⟩ := rng_in h2
      have h6 := h6 6 (by decide)
      obtain ⟨i, hi, rfl, _⟩ := inR_t h1
      obtain ⟨q, hq, rfl, _⟩ := inR_t h2
      have hi6 : i < 6 := by omega
      have hk := L.wf.k hi6
      have hm := L.wf.m hi6
      have hRD := (L.rr i hi6).2.2
      obtain ⟨x, x1, x2⟩ := as_loop (M := M) hi6 hk.2 hq
      have hc : ∀ u, (if (f_isK (kcl (nI (rK (M.1 1) i))) (nI q) = 0 : Prop) then cb (f_X11_error RD 5 S) fun r15 S13 => some (r15, S13) else gk i 6 <| some (((RD i).2.2.1), S)) = u → f_X11_as RD (nI i) (nI q) S = u := fun u h => by
        refine cbE (R.cR _) (iteF (b1n h1) (iteF h0 (iteT h6 (gixE i rfl hi6 (by decide) ((if_pos hi6).trans ?_)))))
        rw [hRD] at h ⊢
        exact h
      have hr : ∀ u, f_X12_as_49 (nI i) x M = u → f_X12_as (nI i) (nI q) M = u := fun u h => by
        refine cbE (R.rR _) (iteF (b1n h1) (csE (r_in (by decide)) (iteF (b1n h2) (cbE (r_its (w := 0) rfl (by omega)) ?_))))
        rw [show 18 + 3 * i + 0 = 18 + 3 * i from rfl, hk.1]
        exact x1.trans h
      by_cases hz : f_isK (kcl (nI (rK (M.1 1) i))) (nI q) = 0
      · have hx : ¬ 0 ≤ x := fun z => (x2.mp z) hz
        exact two_err R 5 5 (-1000000005) (by decide) rfl (by decide) (fun y T h => hc _ (iteT hz (cbE h rfl))) (fun y T h => hr _ (iteF hx (cbE h rfl)))
      · refine Two.same R (v := nI (rMm (M.1 1) i)) (M2 := M) (hc _ (iteF hz ((if_pos hi6).trans ?_))) (hr _ (iteT (x2.mpr hz) (cbE (r_its (w := 1) rfl (by omega)) ?_))) ME.rf
        · rw [hRD]
        · rw [hm.1]
end CALLS2

/-! ===== the calls, both sides: count, trace, law, feed ===== -/
theorem as_world {e : Nat → Nat} (he : D3 e) (w : Nat) : eD e &&& eP (Nat.testBit w) (fun f => !Nat.testBit w f) = eD (fun f => if e f = wD w f then e f else 0) := by
  have h1 : ∀ x : Nat, x < 3 → ∀ b : Bool, (x == 1 && b) = ((if x = (bif b then 1 else 2) then x else 0) == 1) := by decide
  have h2 : ∀ x : Nat, x < 3 → ∀ b : Bool, (x == 2 && !b) = ((if x = (bif b then 1 else 2) then x else 0) == 2) := by decide
  unfold eD
  rw [eP_and]
  exact eP_congr (fun f hf => h1 (e f) (he f hf) (Nat.testBit w f)) (fun f hf => h2 (e f) (he f hf) (Nat.testBit w f))
section CALLS8
variable {RD : RDt} {S M : MS}
theorem r_many (hP : MPow M) {e : Nat → Nat} (hH : MHd M e) {wn : Nat} (hw : wn < 6561) (a : Int32) (q : Nat → Bool) (hq : ∀ f, f < 8 → q f = if a = 0 then e f != 0 else (e f != 0 && e f == dg wn f)) : ∀ (j k fu : Nat), k + j = 8 → j < fu → f_X12_heardMany_10 fu a (nI (cK q k)) (nI wn) (nI k) M = some (nI (cK q 8), M) := by
  intro j
  induction j with
  | zero =>
    intro k fu hk hf
    obtain rfl : k = 8 := by omega
    obtain ⟨fu, rfl⟩ : ∃ z, fu = z + 1 := ⟨fu - 1, by omega⟩
    have e : ∀ k : Nat, (8 : Int32) ≤ nI k → f_X12_heardMany_10 (fu + 1) a (nI (cK q 8)) (nI wn) (nI k) M = some (nI (cK q 8), M) := fun k hk => iteT hk rfl
    exact e 8 h88
  | succ j ih =>
    intro k fu hk hf
    obtain ⟨fu, rfl⟩ : ∃ z, fu = z + 1 := ⟨fu - 1, by omega⟩
    have hk8 : k < 8 := by omega
    have ih2 := ih (k + 1) fu (by omega) (by omega)
    rw [cK_s] at ih2
    have hh := hH k hk8
    have hqk := hq k hk8
    have go1 : q k = true → f_X12_heardMany_51 (f_X12_heardMany_10 fu) a (nI wn) (nI k) (nI (cK q k)) M = some (nI (cK q 8), M) := fun h => by
      rw [h] at ih2
      unfold f_X12_heardMany_51
      refine bIE (bIE ?_)
      rw [nI_1, nI_1]
      exact ih2
    have go0 : q k = false → f_X12_heardMany_55 (f_X12_heardMany_10 fu) a (nI wn) (nI k) (nI (cK q k)) M = some (nI (cK q 8), M) := fun h => by
      rw [h] at ih2
      unfold f_X12_heardMany_55
      refine bIE (bIE ?_)
      rw [nI_1, Int32.add_zero]
      exact ih2
    refine iteF (h8k hk8) (gixE (10 + k) (l10 k) (by omega) (by decide) (bIE ?_))
    rw [hh.1]
    by_cases h0 : e k = 0
    · have hq0 : q k = false := by
        rw [hqk, h0]
        split <;> rfl
      exact iteT (by rw [h0]; decide) (go0 hq0)
    · have hb : (e k != 0) = true := bne_iff_ne.mpr h0
      refine iteF (nI_nle (by omega) (by omega)) ?_
      by_cases ha : a = 0
      · rw [if_pos ha] at hqk
        exact iteT ha (go1 (hqk.trans hb))
      · rw [if_neg ha, hb, Bool.true_and] at hqk
        refine iteF ha (cbE (m_saying hP (by omega) hk8) ?_)
        have hd := dg_lt wn k
        by_cases h2 : e k = dg wn k
        · exact iteT (by rw [h2]) (go1 (hqk.trans (beq_iff_eq.mpr h2)))
        · exact iteF (fun z => h2 ((nI_eq (by omega) (by omega)).mp z)) (go0 (hqk.trans (beq_eq_false_iff_ne.mpr h2)))
theorem r_heardMany (R : Rel RD S M) (a : Int32) (q : Nat → Bool) (hq : ∀ f, f < 8 → q f = if a = 0 then rE (M.1 1) f != 0 else (rE (M.1 1) f != 0 && rE (M.1 1) f == wD (rW (M.1 1)) f)) : f_X12_heardMany a M = some (nI (cK q 8), M) := by
  have hww := R.lf.wf.w
  have hD : D3 (wD (rW (M.1 1))) := fun f _ => wD_lt _ f
  have h := r_many R.pow (hr_hd R.hr R.lf.wf.he) (wn := nK (wD (rW (M.1 1))) 8) (nK_lt 8 hD) a q (fun f hf => by rw [hq f hf, dg_nK 8 hD f hf]) 8 0 100 (by decide) (by decide)
  exact cbE (m_worldStory R.pow hww.2 hww.1) h
theorem two_count (R : Rel RD S M) (a : Int32) : Two RD M (f_X11_count RD a S) (f_X12_count a M) := by
  have L := R.lf
  cases h1 : inR a 11
  · have hne : ∀ q, q < 11 → ¬ a = nI q := fun q hq z => by
      rw [z, inR_nI (by omega), decide_eq_true hq] at h1
      cases h1
    exact two_err R 1 1 (-1000000001) (by decide) rfl (by decide) (fun y T h => iteF (hne 0 (by decide)) (iteF (hne 1 (by decide)) (iteF (hne 2 (by decide)) (iteF (hne 3 (by decide)) (iteF (hne 4 (by decide)) (iteF (hne 5 (by decide)) (iteF (hne 6 (by decide)) (iteF (hne 7 (by decide)) (iteF (hne 8 (by decide)) (iteF (hne 9 (by decide)) (iteF (hne 10 (by decide)) ((cbE h rfl))))))))))))) (fun y T h => iteF (hne 0 (by decide)) (iteF (hne 1 (by decide)) (iteF (hne 2 (by decide)) (iteF (hne 3 (by decide)) (iteF (hne 4 (by decide)) (iteF (hne 5 (by decide)) (iteF (hne 6 (by decide)) (iteF (hne 7 (by decide)) (iteF (hne 8 (by decide)) (iteF (hne 9 (by decide)) (iteF (hne 10 (by decide)) ((cbE h rfl)))))))))))))
  · obtain ⟨q, hq, rfl, _⟩ := inR_t h1
    match q, hq with
    | 0, _ =>
      refine Two.same R (v := M.1 1 3) (M2 := M) (iteT rfl (?_)) (iteT rfl (rfl)) ME.rf
      rw [L.n.2]
    | 1, _ =>
      refine Two.same R (v := M.1 1 0) (M2 := M) (iteF (by decide) (iteT rfl (?_))) (iteF (by decide) (iteT rfl (rfl))) ME.rf
      rw [L.d.2]
    | 2, _ =>
      refine Two.same R (v := M.1 1 1) (M2 := M) (iteF (by decide) (iteF (by decide) (iteT rfl (?_)))) (iteF (by decide) (iteF (by decide) (iteT rfl (rfl)))) ME.rf
      rw [L.x.2]
    | 3, _ =>
      have hm := r_heardMany R 0 (fun f => rE (M.1 1) f != 0) (fun f _ => (if_pos rfl).symm)
      refine Two.same R (v := nI (cK (fun f => rE (M.1 1) f != 0) 8)) (M2 := M) (iteF (by decide) (iteF (by decide) (iteF (by decide) (iteT rfl (csE (r := nI (cK (fun f => rE (M.1 1) f != 0) 8)) ?_ rfl))))) (iteF (by decide) (iteF (by decide) (iteF (by decide) (iteT rfl (cbE hm rfl))))) ME.rf
      rw [L.h.2]
      exact v_bitCount L.wf.he
    | 4, _ =>
      have hm := r_heardMany R 1 (fun f => rE (M.1 1) f != 0 && rE (M.1 1) f == wD (rW (M.1 1)) f) (fun f _ => (if_neg (by decide)).symm)
      have hww := L.wf.w
      have e1 : f_X11_truth (S.2 1) = some (eP (Nat.testBit (rW (M.1 1))) (fun f => !Nat.testBit (rW (M.1 1)) f)) := by
        rw [L.w.2, hww.1, w_eP hww.2]
        exact v_truth _
      refine Two.same R (v := nI (cK (fun f => rE (M.1 1) f != 0 && rE (M.1 1) f == wD (rW (M.1 1)) f) 8)) (M2 := M) (iteF (by decide) (iteF (by decide) (iteF (by decide) (iteF (by decide) (iteT rfl (csE e1 (csE (r := nI (cK (fun f => rE (M.1 1) f != 0 && rE (M.1 1) f == wD (rW (M.1 1)) f) 8)) ?_ rfl))))))) (iteF (by decide) (iteF (by decide) (iteF (by decide) (iteF (by decide) (iteT rfl (cbE hm rfl)))))) ME.rf
      rw [L.h.2]
      have hE := L.wf.he
      have e2 : eD (rE (M.1 1)) &&& eP (Nat.testBit (rW (M.1 1))) (fun f => !Nat.testBit (rW (M.1 1)) f) = eD (fun f => if rE (M.1 1) f = wD (rW (M.1 1)) f then rE (M.1 1) f else 0) := by
        exact as_world hE _
      rw [e2, v_bitCount (fun f hf => by have := hE f hf; show (if _ then _ else 0) < 3; split <;> omega)]
      refine congrArg (fun z => some (nI z)) (cK_congr 8 (fun f hf => ?_))
      show ((if rE (M.1 1) f = wD (rW (M.1 1)) f then rE (M.1 1) f else 0) != 0) = _
      by_cases h : rE (M.1 1) f = wD (rW (M.1 1)) f
      · rw [if_pos h, beq_iff_eq.mpr h, Bool.and_true]
      · rw [if_neg h, beq_eq_false_iff_ne.mpr h, Bool.and_false]; rfl
    | 5, _ =>
      refine Two.same R (v := M.1 1 9) (M2 := M) (iteF (by decide) (iteF (by decide) (iteF (by decide) (iteF (by decide) (iteF (by decide) (iteT rfl (?_))))))) (iteF (by decide) (iteF (by decide) (iteF (by decide) (iteF (by decide) (iteF (by decide) (iteT rfl (rfl))))))) ME.rf
      rw [L.t.2]
    | 6, _ =>
      refine Two.same R (v := M.1 1 8) (M2 := M) (iteF (by decide) (iteF (by decide) (iteF (by decide) (iteF (by decide) (iteF (by decide) (iteF (by decide) (iteT rfl (?_)))))))) (iteF (by decide) (iteF (by decide) (iteF (by decide) (iteF (by decide) (iteF (by decide) (iteF (by decide) (iteT rfl (rfl)))))))) ME.rf
      rw [L.w.2]
    | 7, _ =>
      refine Two.same R (v := M.1 1 4) (M2 := M) (iteF (by decide) (iteF (by decide) (iteF (by decide) (iteF (by decide) (iteF (by decide) (iteF (by decide) (iteF (by decide) (iteT rfl (?_))))))))) (iteF (by decide) (iteF (by decide) (iteF (by decide) (iteF (by decide) (iteF (by decide) (iteF (by decide) (iteF (by decide) (iteT rfl (rfl))))))))) ME.rf
      rw [L.p.2.1]
    | 8, _ =>
      refine Two.same R (v := M.1 1 5) (M2 := M) (iteF (by decide) (iteF (by decide) (iteF (by decide) (iteF (by decide) (iteF (by decide) (iteF (by decide) (iteF (by decide) (iteF (by decide) (iteT rfl (?_)))))))))) (iteF (by decide) (iteF (by decide) (iteF (by decide) (iteF (by decide) (iteF (by decide) (iteF (by decide) (iteF (by decide) (iteF (by decide) (iteT rfl (rfl)))))))))) ME.rf
      rw [L.q.2.1]
    | 9, _ =>
      refine Two.same R (v := M.2 13) (M2 := M) (iteF (by decide) (iteF (by decide) (iteF (by decide) (iteF (by decide) (iteF (by decide) (iteF (by decide) (iteF (by decide) (iteF (by decide) (iteF (by decide) (iteT rfl (?_))))))))))) (iteF (by decide) (iteF (by decide) (iteF (by decide) (iteF (by decide) (iteF (by decide) (iteF (by decide) (iteF (by decide) (iteF (by decide) (iteF (by decide) (iteT rfl (rfl))))))))))) ME.rf
      rw [R.xr.2.2.2.1]
    | 10, _ =>
      refine Two.same R (v := M.1 1 2) (M2 := M) (iteF (by decide) (iteF (by decide) (iteF (by decide) (iteF (by decide) (iteF (by decide) (iteF (by decide) (iteF (by decide) (iteF (by decide) (iteF (by decide) (iteF (by decide) (iteT rfl (?_)))))))))))) (iteF (by decide) (iteF (by decide) (iteF (by decide) (iteF (by decide) (iteF (by decide) (iteF (by decide) (iteF (by decide) (iteF (by decide) (iteF (by decide) (iteF (by decide) (iteT rfl (rfl)))))))))))) ME.rf
      rw [L.z]
theorem two_trace (R : Rel RD S M) (a : Int32) : Two RD M (f_X11_trace RD a S) (f_X12_trace a M) := by
  obtain ⟨x1, x2, x3, x4, x5, x6⟩ := R.xr
  obtain ⟨n, hn, h13, _⟩ := isNI_ex x3
  have h41 : S.2 41 = nI n := x4.trans h13
  have hin : f_X12_in a 0 (M.2 13 - 1) = some (bif inR a n then 1 else 0) := by rw [h13]; exact r_in (nI_pt (by omega))
  rcases rng_cmp (a := a) (n := n) (by omega) with ⟨q1, q2, q3⟩ | ⟨q1, q2⟩
  · obtain ⟨i, hi, rfl, _⟩ := inR_t q1
    refine Two.same R (v := M.1 12 i) (M2 := M) (iteF q2 (iteT (by rw [h41]; exact q3) (gixE i rfl (by omega) (by decide) ?_))) (csE hin (iteF (b1n q1) (gixE i rfl (by omega) (by decide) rfl))) ME.rf
    rw [x5 i (by omega)]
  · refine two_err R 2 2 (-1000000002) (by decide) rfl (by decide) (fun y T h => ?_) (fun y T h => csE hin (iteT (b0 q1) (cbE h rfl)))
    rcases q2 with q2 | ⟨q2, q3⟩
    · exact iteT q2 (cbE h rfl)
    · exact iteF q2 (iteF (by rw [h41]; exact q3) (cbE h rfl))
theorem two_law (R : Rel RD S M) (a b c d : Int32) : Two RD M (f_X11_law RD a b c d S) (f_X12_law a b c d M) := by
  have L := R.lf
  cases h1 : inR a 2
  · exact two_err R 1 1 (-1000000001) (by decide) rfl (by decide) (fun y T h => csE (c_isUse a) (iteT (b0 h1) (cbE h rfl))) (fun y T h => csE (r_in (by decide)) (iteT (b0 h1) (cbE h rfl)))
  · obtain ⟨u, hu, rfl, _⟩ := inR_t h1
    obtain ⟨N, t1, t2, t3⟩ := r_lawOf (r := M.1 1) (M := M) hu (L.wf.tx hu) (fun j _ _ => rfl) b c d
    obtain ⟨k1, k2⟩ := L.l.cl hu
    obtain ⟨T, u1, u2⟩ := c_gives hu k1 k2 b c d
    have hN : ME M N (M.1 1) := ⟨by rw [t1], fun c _ => by rw [t1], fun k hk => t2 k (by omega)⟩
    have hS : SK S (lvJ u S T) := ⟨fun _ _ => rfl, fun k hk => by
      show (if 20 + 10 * u ≤ k ∧ k < 27 + 10 * u then _ else if k = 27 + 10 * u then _ else S.2 k) = S.2 k
      rw [if_neg (by omega), if_neg (by omega)]⟩
    refine Two.go R (v := rLw (M.1 1) u b c d) (S2 := lvJ u S T) ?_ (csE (r_in (by decide)) (iteF (b1n h1) (cbE t3 rfl))) hS (MK.of hN) (by rw [hN.1]; exact L.lv hu u1)
    refine csE (c_isUse _) (iteF (b1n h1) ?_)
    have hu2 : u = 0 ∨ u = 1 := by omega
    rcases hu2 with rfl | rfl
    · exact iteT rfl (cbE u2 rfl)
    · exact iteF (by decide) (cbE u2 rfl)
theorem low8 (z : Int64) : ji2b (ji2b z.toInt32) = ji2b ((z &&& 255).toInt32) ∧ isNI ((z &&& 255).toInt32) 256 := by
  have h255 : ∀ i, i < 64 → (255 : Int64).toBitVec.getLsbD i = decide (i < 8) := by decide
  have b1 : ∀ i, i < 32 → ((z &&& 255).toInt32).toBitVec.getLsbD i = (z.toBitVec.getLsbD i && decide (i < 8)) := fun i hi => by
    show (BitVec.signExtend 32 (z &&& 255).toBitVec).getLsbD i = _
    rw [BitVec.getLsbD_signExtend, decide_eq_true hi, Bool.true_and, if_pos (by omega), Int64.toBitVec_and, BitVec.getLsbD_and, h255 i (by omega)]
  have b2 : ∀ i, i < 32 → (z.toInt32).toBitVec.getLsbD i = z.toBitVec.getLsbD i := fun i hi => by
    show (BitVec.signExtend 32 z.toBitVec).getLsbD i = _
    rw [BitVec.getLsbD_signExtend, decide_eq_true hi, Bool.true_and, if_pos (by omega)]
  constructor
  · unfold ji2b
    rw [Int8.toInt8_toInt32]
    refine congrArg Int8.toInt32 ?_
    apply Int8.toBitVec_inj.mp
    refine BitVec.eq_of_getLsbD_eq (fun i hi => ?_)
    show (BitVec.signExtend 8 (z.toInt32).toBitVec).getLsbD i = (BitVec.signExtend 8 ((z &&& 255).toInt32).toBitVec).getLsbD i
    rw [BitVec.getLsbD_signExtend, BitVec.getLsbD_signExtend, if_pos (show i < 32 by omega), if_pos (show i < 32 by omega), b1 i (by omega), b2 i (by omega), decide_eq_true hi, Bool.and_true]
  · have e : (z &&& 255).toInt32 = nI (z.toBitVec.toNat % 256) := by
      apply i32_ext
      intro i hi
      rw [b1 i hi]
      show _ = (BitVec.ofNat 32 (z.toBitVec.toNat % 256)).getLsbD i
      rw [BitVec.getLsbD_ofNat, decide_eq_true hi, Bool.true_and, show (256 : Nat) = 2 ^ 8 from rfl, Nat.testBit_mod_two_pow, BitVec.testBit_toNat, Bool.and_comm]
    rw [e]
    exact isNI_of (Nat.mod_lt _ (by decide)) (by decide)
theorem feed_loop (x : Int64) {n : Nat} (hn : n ≤ 8) : ∀ (j k fu : Nat) (S M : MS), k + j = n → j < fu → Rel RD S M → (M.1 1 4).toNatClampNeg + j ≤ 50 → Two RD M (f_X11_feed_40 RD fu x (nI n) (nI k) S) (f_X12_feed_40 fu x (nI n) (nI k) M) := by
  intro j
  induction j with
  | zero =>
    intro k fu S M hk hf R hp
    obtain rfl : k = n := by omega
    obtain ⟨fu, rfl⟩ : ∃ z, fu = z + 1 := ⟨fu - 1, by omega⟩
    have hle : nI k ≤ nI k := nI_le (Nat.le_refl _) (by omega)
    refine Two.same R (v := M.1 1 4) (M2 := M) (iteT hle ?_) (iteT hle rfl) ME.rf
    rw [R.lf.p.2.1]
  | succ j ih =>
    intro k fu S M hk hf R hp
    obtain ⟨fu, rfl⟩ : ∃ z, fu = z + 1 := ⟨fu - 1, by omega⟩
    have hle : ¬ nI n ≤ nI k := nI_ge (by omega) (by omega)
    have L := R.lf
    obtain ⟨p, hp1, h4, hcl⟩ := isNI_ex L.p.1
    rw [hcl] at hp
    have h7 : S.2 7 = nI p := L.p.2.1.trans h4
    have e36 : (36 : Int32) + nI p = nI (36 + p) := by rw [show (36 : Int32) = nI 36 by decide +kernel, nI_add]
    obtain ⟨l1, l2⟩ := low8 (jlshr x (8 * nI k))
    generalize hv : (jlshr x (8 * nI k) &&& 255).toInt32 = v at l1 l2
    generalize hv2 : ji2b (jlshr x (8 * nI k)).toInt32 = v2 at l1
    have hne : ∀ j, ¬ (j = 36 + p ∨ j = 4) → upd (upd (M.1 1) (36 + p) v) 4 (nI (p + 1)) j = M.1 1 j := fun j hj => (upd_ne (by omega)).trans (upd_ne (by omega))
    have R2 : Rel RD (sF (sA S 2 p v2) 7 (nI (p + 1))) (sA (sA M 1 (36 + p) v) 1 4 (nI (p + 1))) := by
      refine ⟨?_, R.xr.go ((SK.setA (by decide) _ _).trans (SK.setF (by decide) _)) ((MK.set1 _ _).trans (MK.set1 _ _)), R.pow⟩
      refine ⟨L.h.cg (fun j _ _ => hne j (by omega)), L.rr.cg (fun j _ _ => hne j (by omega)), L.n.cg (hne 3 (by omega)), L.t.cg (hne 9 (by omega)), L.w.cg (hne 8 (by omega)), L.d.cg (hne 0 (by omega)), L.x.cg (hne 1 (by omega)), L.z.cg (hne 2 (by omega)), ⟨isNI_of (by omega) (by decide), rfl, fun q hq => ?_⟩, L.q.cg (hne 5 (by omega)) (fun j _ _ => hne j (by omega)), L.l.cg (fun j _ _ _ => hne j (by omega))⟩
      show isNI (upd (upd (M.1 1) (36 + p) v) 4 (nI (p + 1)) (36 + q)) 256 ∧ ji2b (upd (S.1 2) p v2 q) = ji2b (upd (upd (M.1 1) (36 + p) v) 4 (nI (p + 1)) (36 + q))
      rw [upd_ne (f := upd (M.1 1) (36 + p) v) (by omega)]
      by_cases e : q = p
      · subst e
        rw [upd_eq, upd_eq]
        exact ⟨l2, l1⟩
      · rw [upd_ne e, upd_ne (by omega)]
        exact L.p.2.2 q hq
    have hx : upd (M.1 1) (36 + p) v 4 = nI p := (upd_ne (by omega)).trans h4
    have hx2 : (sA M 1 (36 + p) v).1 1 4 = nI p := hx
    have hx3 : ((sA (sA M 1 (36 + p) v) 1 4 (nI (p + 1))).1 1 4).toNatClampNeg + j ≤ 50 := by
      show (upd (upd (M.1 1) (36 + p) v) 4 (nI (p + 1)) 4).toNatClampNeg + j ≤ 50
      rw [upd_eq, nI_clamp (by omega)]
      omega
    refine Two.tr (M := M) (Two.eqs (ih (k + 1) fu _ _ (by omega) (by omega) R2 hx3) (fun u h => iteF hle (bIE (gixE p h7 (by omega) (by decide) (bIE (bIE ?_))))) (fun u h => iteF hle (bIE (gixE (36 + p) (by rw [h4]; exact e36) (by omega) (by decide) (bIE (bIE ?_)))))) rfl rfl
    · rw [hv2, h7, nI_1, nI_1]; exact h
    · rw [hv, hx2, nI_1, nI_1]; exact h
theorem two_feed (R : Rel RD S M) (x : Int64) (a : Int32) : Two RD M (f_X11_feed RD x a S) (f_X12_feed x a M) := by
  have L := R.lf
  by_cases h0 : a < 1
  · exact two_err R 1 1 (-1000000001) (by decide) rfl (by decide) (fun y T h => iteT h0 (cbE h rfl)) (fun y T h => csE (r := 0) (iteT h0 rfl) (iteT rfl (cbE h rfl)))
  · by_cases h1 : a ≤ 8
    · obtain ⟨n, hn, rfl⟩ : ∃ k, k ≤ 8 ∧ a = nI k := by
        have n0 : ¬ a < 0 := fun z => h0 (by
          rw [Int32.lt_iff_toInt_lt] at z ⊢
          have e0 : (0 : Int32).toInt = 0 := by decide
          have e1 : (1 : Int32).toInt = 1 := by decide
          omega)
        exact nI_of2 (n := 8) (by decide) n0 h1
      have hin : f_X12_in (nI n) 1 8 = some 1 := iteF h0 (iteF (Int32.not_lt.mpr h1) rfl)
      obtain ⟨p, hp1, h4, hcl⟩ := isNI_ex L.p.1
      have h7 : S.2 7 = nI p := L.p.2.1.trans h4
      by_cases h2 : p + n ≤ 50
      · have hle : nI p + nI n ≤ 50 := by rw [nI_add]; exact nI_le (b := 50) h2 (by decide)
        exact Two.eqs (feed_loop x hn n 0 100 S M (by omega) (by omega) R (by rw [hcl]; exact h2)) (fun u h => iteF h0 (iteT h1 (iteT (by rw [h7]; exact hle) h))) (fun u h => csE hin (iteF ne10 (iteT (by rw [h4]; exact hle) h)))
      · have hle : ¬ nI p + nI n ≤ 50 := by rw [nI_add]; exact nI_ge (a := 50) (by omega) (by omega)
        exact two_err R 4 4 (-1000000004) (by decide) rfl (by decide) (fun y T h => iteF h0 (iteT h1 (iteF (by rw [h7]; exact hle) (cbE h rfl)))) (fun y T h => csE hin (iteF ne10 (iteF (by rw [h4]; exact hle) (cbE h rfl))))
    · exact two_err R 1 1 (-1000000001) (by decide) rfl (by decide) (fun y T h => iteF h0 (iteF h1 (cbE h rfl))) (fun y T h => csE (r := 0) (iteF h0 (iteT (Int32.not_le.mp h1) rfl)) (iteT rfl (cbE h rfl)))
end CALLS8

/-! ===== the calls, both sides: move, stories, judge ===== -/
/-- numbers on their way -/
def mvA (M : MS) (b k : Nat) : MS := (fun c => if c = 10 then fun z => if z < k then M.1 9 (b + z) else M.1 10 z else M.1 c, M.2)
def mvB (M : MS) (b k : Nat) : MS := (fun c => if c = 9 then fun z => if b ≤ z ∧ z < b + k then M.1 10 (z - b) else M.1 9 z else M.1 c, M.2)
theorem mvA_0 (M : MS) (b : Nat) : mvA M b 0 = M := by
  refine Prod.ext (funext fun c => ?_) rfl
  show (if c = 10 then fun z => if z < 0 then M.1 9 (b + z) else M.1 10 z else M.1 c) = M.1 c
  by_cases h : c = 10
  · subst h
    rw [if_pos rfl]
    funext z
    rw [if_neg (Nat.not_lt_zero z)]
  · rw [if_neg h]
theorem mvB_0 (M : MS) (b : Nat) : mvB M b 0 = M := by
  refine Prod.ext (funext fun c => ?_) rfl
  show (if c = 9 then fun z => if b ≤ z ∧ z < b + 0 then M.1 10 (z - b) else M.1 9 z else M.1 c) = M.1 c
  by_cases h : c = 9
  · subst h
    rw [if_pos rfl]
    funext z
    rw [if_neg (by omega)]
  · rw [if_neg h]
theorem mvA_s (M : MS) (b k : Nat) : sA (mvA M b k) 10 k (M.1 9 (b + k)) = mvA M b (k + 1) := by
  refine Prod.ext (funext fun c => ?_) rfl
  show (if c = 10 then upd (fun z => if z < k then M.1 9 (b + z) else M.1 10 z) k (M.1 9 (b + k)) else (if c = 10 then (fun z => if z < k then M.1 9 (b + z) else M.1 10 z) else M.1 c)) = (if c = 10 then fun z => if z < k + 1 then M.1 9 (b + z) else M.1 10 z else M.1 c)
  by_cases h : c = 10
  · rw [if_pos h, if_pos h]
    funext z
    by_cases hz : z = k
    · subst hz; rw [upd_eq, if_pos (by omega)]
    · rw [upd_ne hz]
      by_cases h2 : z < k
      · rw [if_pos h2, if_pos (by omega)]
      · rw [if_neg h2, if_neg (by omega)]
  · rw [if_neg h, if_neg h, if_neg h]
theorem mvB_s (M : MS) (b k : Nat) : sA (mvB M b k) 9 (b + k) (M.1 10 k) = mvB M b (k + 1) := by
  refine Prod.ext (funext fun c => ?_) rfl
  show (if c = 9 then upd (fun z => if b ≤ z ∧ z < b + k then M.1 10 (z - b) else M.1 9 z) (b + k) (M.1 10 k) else (if c = 9 then (fun z => if b ≤ z ∧ z < b + k then M.1 10 (z - b) else M.1 9 z) else M.1 c)) = (if c = 9 then fun z => if b ≤ z ∧ z < b + (k + 1) then M.1 10 (z - b) else M.1 9 z else M.1 c)
  by_cases h : c = 9
  · rw [if_pos h, if_pos h]
    funext z
    by_cases hz : z = b + k
    · subst hz; rw [upd_eq, if_pos (by omega), Nat.add_sub_cancel_left]
    · rw [upd_ne hz]
      by_cases h2 : b ≤ z ∧ z < b + k
      · rw [if_pos h2, if_pos (by omega)]
      · rw [if_neg h2, if_neg (by omega)]
  · rw [if_neg h, if_neg h, if_neg h]
theorem e40b (s i k : Nat) : ((40 * nI s) + nI i) + nI k = nI (40 * s + i + k) := by rw [e40, nI_add]
theorem r_move_156 {M : MS} {s i n : Nat} (hs : s < 4) (hi : i + n ≤ 40) : ∀ (j k fu : Nat), k + j = n → j < fu → f_X12_move_156 fu (nI s) (nI i) (nI n) (nI k) (mvB M (40 * s + i) k) = some (nI n, mvB M (40 * s + i) n) := by
  intro j
  induction j with
  | zero =>
    intro k fu hk hf
    obtain rfl : k = n := by omega
    obtain ⟨fu, rfl⟩ : ∃ z, fu = z + 1 := ⟨fu - 1, by omega⟩
    exact iteT (nI_le (Nat.le_refl _) (by omega)) rfl
  | succ j ih =>
    intro k fu hk hf
    obtain ⟨fu, rfl⟩ : ∃ z, fu = z + 1 := ⟨fu - 1, by omega⟩
    refine iteF (nI_ge (by omega) (by omega)) (gixE k rfl (by omega) (by decide) (bIE (gixE _ (e40b s i k) (by omega) (by decide) (bIE ?_))))
    rw [nI_1]
    refine Eq.trans ?_ (ih (k + 1) fu (by omega) (by omega))
    rw [← mvB_s]
    rfl
theorem r_move_119 {M : MS} {s i p q n : Nat} (hs : s < 4) (hp : p < 4) (hi : i + n ≤ 40) (hq : q + n ≤ 40) : ∀ (j k fu : Nat), k + j = n → j < fu → f_X12_move_119 fu (nI s) (nI i) (nI p) (nI q) (nI n) (nI k) (mvA M (40 * s + i) k) = some (nI n, mvB (mvA M (40 * s + i) n) (40 * p + q) n) := by
  intro j
  induction j with
  | zero =>
    intro k fu hk hf
    obtain rfl : k = n := by omega
    obtain ⟨fu, rfl⟩ : ∃ z, fu = z + 1 := ⟨fu - 1, by omega⟩
    have h := r_move_156 (M := mvA M (40 * s + i) k) hp hq k 0 100 (by omega) (by omega)
    rw [mvB_0] at h
    exact iteT (nI_le (Nat.le_refl _) (by omega)) h
  | succ j ih =>
    intro k fu hk hf
    obtain ⟨fu, rfl⟩ : ∃ z, fu = z + 1 := ⟨fu - 1, by omega⟩
    refine iteF (nI_ge (by omega) (by omega)) (gixE _ (e40b s i k) (by omega) (by decide) (bIE (gixE k rfl (by omega) (by decide) (bIE ?_))))
    rw [nI_1]
    refine Eq.trans ?_ (ih (k + 1) fu (by omega) (by omega))
    rw [← mvA_s]
    rfl
/-- whether n numbers stand from number i on -/
def stB (i n : Int32) (L : Nat) : Bool := decide (0 ≤ i.toInt ∧ 0 ≤ n.toInt ∧ i.toInt + n.toInt ≤ L)
theorem c_holds {k L : Nat} {S : MS} (hL : S.2 (46 + k) = nI L) (hL2 : L ≤ 40) (i n : Int32) : f_X7_holds i n (hV k S) = some (bif stB i n L then 1 else 0, hV k S) := by
  have e1 : (hV k S).2 1 = nI L := by
    show S.2 (42 + k + 4 * 1) = nI L
    rw [show 42 + k + 4 * 1 = 46 + k by omega, hL]
  have eL := nI_toInt (n := L) (by omega)
  unfold f_X7_holds stB
  by_cases h0 : i < 0
  · have := lt0_iff.mp h0
    rw [decide_eq_false (by omega)]
    exact iteT h0 rfl
  · have p0 : ¬ i.toInt < 0 := fun z => h0 (lt0_iff.mpr z)
    refine iteF h0 ?_
    by_cases h1 : n < 0
    · have := lt0_iff.mp h1
      rw [decide_eq_false (by omega)]
      exact iteT h1 rfl
    · have p1 : ¬ n.toInt < 0 := fun z => h1 (lt0_iff.mpr z)
      refine iteF h1 ?_
      rw [e1]
      by_cases h2 : nI L < n
      · have := Int32.lt_iff_toInt_lt.mp h2
        rw [decide_eq_false (by omega)]
        exact iteT h2 rfl
      · have p2 : ¬ (nI L).toInt < n.toInt := fun z => h2 (Int32.lt_iff_toInt_lt.mpr z)
        rw [eL] at p2
        refine iteF h2 ?_
        obtain ⟨m, hm, rfl⟩ := nI_of h1
        rw [nI_toInt hm] at *
        have e3 : nI L - nI m = nI (L - m) := by
          have h := nI_add (L - m) m
          rw [Nat.sub_add_cancel (by omega)] at h
          rw [← h, Int32.add_sub_cancel]
        rw [e3]
        by_cases h3 : nI (L - m) < i
        · have := Int32.lt_iff_toInt_lt.mp h3
          rw [nI_toInt (by omega)] at this
          rw [decide_eq_false (by omega)]
          exact iteT h3 rfl
        · have p3 : ¬ (nI (L - m)).toInt < i.toInt := fun z => h3 (Int32.lt_iff_toInt_lt.mpr z)
          rw [nI_toInt (by omega)] at p3
          rw [decide_eq_true (by omega)]
          exact iteF h3 rfl
section CALLS7
variable {RD : RDt} {S M : MS}
theorem two_move_go (R : Rel RD S M) {s p i q n : Nat} (hs : s < 4) (hp : p < 4) (hi : i + n ≤ 40) (hq : q + n ≤ 40) {fc fr : Option (Int32 × MS)} (hc : fc = some (nI n, xCp S s p (nI i) (nI q) (nI n))) (hr : fr = some (nI n, mvB (mvA M (40 * s + i) n) (40 * p + q) n)) : Two RD M fc fr := by
  have ci : (nI i).toNatClampNeg = i := nI_clamp (by omega)
  have cq : (nI q).toNatClampNeg = q := nI_clamp (by omega)
  have cn : (nI n).toNatClampNeg = n := nI_clamp (by omega)
  refine Two.sh R hc hr (fun c hc => if_neg (by omega)) (fun _ _ => rfl) (fun c hc => ?_) rfl (fun t ht => ?_)
  · show (if c = 9 then _ else if c = 10 then _ else M.1 c) = M.1 c
    rw [if_neg (by omega), if_neg (by omega)]
  · obtain ⟨k1, k2, k3, k4⟩ := R.gs ht
    refine ⟨k1, k2, k3, fun k hk => ?_⟩
    show (if 10 + t = 10 + p then va_cpy (S.1 (10 + s)) (S.1 (10 + p)) (nI i).toNatClampNeg (nI q).toNatClampNeg (nI n).toNatClampNeg else S.1 (10 + t)) k = (if 40 * p + q ≤ 40 * t + k ∧ 40 * t + k < 40 * p + q + n then (fun z => if z < n then M.1 9 (40 * s + i + z) else M.1 10 z) (40 * t + k - (40 * p + q)) else M.1 9 (40 * t + k))
    rw [ci, cq, cn]
    by_cases h : t = p
    · subst h
      rw [if_pos rfl]
      by_cases h2 : q ≤ k ∧ k < q + n
      · rw [pk_cpy_in h2.1 h2.2, if_pos (by omega)]
        show _ = if 40 * t + k - (40 * t + q) < n then M.1 9 (40 * s + i + (40 * t + k - (40 * t + q))) else _
        rw [if_pos (by omega), (R.gs hs).2.2.2 (i + (k - q)) (by omega)]
        exact congrArg (M.1 9) (show 40 * s + (i + (k - q)) = 40 * s + i + (40 * t + k - (40 * t + q)) by omega)
      · rw [pk_cpy_out (by omega), if_neg (by omega)]
        exact k4 k hk
    · rw [if_neg (by omega), if_neg (by omega)]
      exact k4 k hk
theorem two_move (R : Rel RD S M) (a b c d n : Int32) : Two RD M (f_X11_move RD a b c d n S) (f_X12_move a b c d n M) := by
  cases h1 : inR a 4
  · exact two_err R 1 1 (-1000000001) (by decide) rfl (by decide) (fun y T h => csE (c_isSheet a) (iteT (b0 h1) (cbE h rfl))) (fun y T h => csE (r_isSheet a) (iteT (b0 h1) (cbE h rfl)))
  · cases h2 : inR c 4
    · exact two_err R 1 1 (-1000000001) (by decide) rfl (by decide) (fun y T h => csE (c_isSheet a) (iteF (b1n h1) (csE (c_isSheet c) (iteT (b0 h2) (cbE h rfl))))) (fun y T h => csE (r_isSheet a) (iteF (b1n h1) (csE (r_isSheet c) (iteT (b0 h2) (cbE h rfl)))))
    · obtain ⟨s, hs, rfl, _⟩ := inR_t h1
      obtain ⟨p, hp, rfl, _⟩ := inR_t h2
      obtain ⟨g1, g2, g3, g4⟩ := R.gs hs
      obtain ⟨k1, k2, k3, k4⟩ := R.gs hp
      by_cases hm : M.1 7 s = 0
      · refine two_err R 2 2 (-1000000002) (by decide) rfl (by decide) (fun y T h => csE (c_isSheet _) (iteF (b1n h1) (csE (c_isSheet _) (iteF (b1n h2) (gixE s rfl hs (by decide) (gixE p rfl hp (by decide) (gkE hs (cbE (c_missT (g1.trans hm)) (iteF ne10 (by rw [hJ_V]; exact (cbE h rfl))))))))))) (fun y T h => csE (r_isSheet _) (iteF (b1n h1) (csE (r_isSheet _) (iteF (b1n h2) (gixE s rfl hs (by decide) (iteT hm (cbE h rfl)))))))
      · by_cases hm2 : M.1 7 p = 0
        · refine two_err R 2 2 (-1000000002) (by decide) rfl (by decide) (fun y T h => csE (c_isSheet _) (iteF (b1n h1) (csE (c_isSheet _) (iteF (b1n h2) (gixE s rfl hs (by decide) (gixE p rfl hp (by decide) (gkE hs (cbE (c_missF (fun z => hm (g1.symm.trans z))) (iteT rfl (gkE hp (by rw [hJ_V]; exact cbE (c_missT (k1.trans hm2)) (iteF ne10 (by rw [hJ_V]; exact (cbE h rfl)))))))))))))) (fun y T h => csE (r_isSheet _) (iteF (b1n h1) (csE (r_isSheet _) (iteF (b1n h2) (gixE s rfl hs (by decide) (iteF hm (gixE p rfl hp (by decide) (iteT hm2 (cbE h rfl)))))))))
        · have hc : ∀ u, (if (S.2 (42 + s) = S.2 (42 + p) : Prop) then gk s 4 <| cb (f_X7_holds b n (hV s S)) fun r31 S29 => if (r31 = 0 : Prop) then f_X11_move_100 RD (hJ s S S29) else gk p 4 <| cb (f_X7_holds d n (hV p (hJ s S S29))) fun r39 S37 => if (r39 = 0 : Prop) then f_X11_move_100 RD (hJ p (hJ s S S29) S37) else gk s 4 <| gk p 4 <| gk s 4 <| gk p 4 <| gcp b d n <| some (n, (xCp (hJ p (hJ s S S29) S37) s p b d n)) else cb (f_X11_error RD 5 S) fun r48 S46 => some (r48, S46)) = u → f_X11_move RD (nI s) b (nI p) d n S = u := fun u h => by
            refine csE (c_isSheet _) (iteF (b1n h1) (csE (c_isSheet _) (iteF (b1n h2) (gixE s rfl hs (by decide) (gixE p rfl hp (by decide) (gkE hs (cbE (c_missF (fun z => hm (g1.symm.trans z))) (iteT rfl (gkE hp ?_)))))))))
            rw [hJ_V]
            refine cbE (c_missF (fun z => hm2 (k1.symm.trans z))) (iteT rfl (gkE hs (gkE hp ?_)))
            rw [hJ_V]
            exact h
          have hr : ∀ u, (if (M.1 7 s = M.1 7 p : Prop) then (if (n < 0 : Prop) then f_X12_move_109 M else if (b < 0 : Prop) then f_X12_move_109 M else if (d < 0 : Prop) then f_X12_move_109 M else gix (nI s) 4 fun k26 => if (((M.1 8 k26) - n) < b : Prop) then f_X12_move_109 M else gix (nI p) 4 fun k28 => if (d ≤ ((M.1 8 k28) - n) : Prop) then f_X12_move_119 100 (nI s) b (nI p) d n 0 M else f_X12_move_109 M) else cb (f_X12_errs (-1000000005) M) fun r42 S40 => some (r42, S40)) = u → f_X12_move (nI s) b (nI p) d n M = u := fun u h => csE (r_isSheet _) (iteF (b1n h1) (csE (r_isSheet _) (iteF (b1n h2) (gixE s rfl hs (by decide) (iteF hm (gixE p rfl hp (by decide) (iteF hm2 (gixE s rfl hs (by decide) (gixE p rfl hp (by decide) h)))))))))
          by_cases hbits : M.1 7 s = M.1 7 p
          · have hbc : S.2 (42 + s) = S.2 (42 + p) := by rw [g1, k1]; exact hbits
            obtain ⟨L1, hL1, e1, _⟩ := isNI_ex g2
            obtain ⟨L2, hL2, e2, _⟩ := isNI_ex k2
            have l1 : S.2 (46 + s) = nI L1 := (g3 hm).trans e1
            have l2 : S.2 (46 + p) = nI L2 := (k3 hm2).trans e2
            have c1 := c_holds (S := S) l1 (by omega) b n
            have c2 := c_holds (S := S) l2 (by omega) d n
            cases q1 : stB b n L1
            · -- the first doesn't stand
              refine two_err R 1 1 (-1000000001) (by decide) rfl (by decide) (fun y T h => hc _ (iteT hbc (gkE hs (cbE c1 (iteT (b0 q1) (by rw [hJ_V]; exact cbE h rfl)))))) (fun y T h => hr _ (iteT hbits ?_))
              have q := of_decide_eq_false q1
              by_cases n0 : n < 0
              · exact iteT n0 (cbE h rfl)
              · refine iteF n0 ?_
                by_cases b0' : b < 0
                · exact iteT b0' (cbE h rfl)
                · refine iteF b0' ?_
                  by_cases d0 : d < 0
                  · exact iteT d0 (cbE h rfl)
                  · refine iteF d0 (gixE s rfl hs (by decide) (iteT ?_ (cbE h rfl)))
                    obtain ⟨m, hmm, rfl⟩ := nI_of n0
                    obtain ⟨x, hx, rfl⟩ := nI_of b0'
                    rw [nI_toInt hmm, nI_toInt hx] at q
                    rw [e1, Int32.lt_iff_toInt_lt, nI_toInt hx]
                    have e3 : (nI L1 - nI m).toInt = (L1 : Int) - m := by
                      rw [Int32.toInt_sub, nI_toInt (by omega), nI_toInt hmm]
                      exact Int.bmod_eq_of_le (by omega) (by omega)
                    omega
            · cases q2 : stB d n L2
              · refine two_err R 1 1 (-1000000001) (by decide) rfl (by decide) (fun y T h => hc _ (iteT hbc (gkE hs (cbE c1 (iteF (b1n q1) (gkE hp (by rw [hJ_V]; exact cbE c2 (iteT (b0 q2) (by rw [hJ_V]; exact cbE h rfl))))))))) (fun y T h => hr _ (iteT hbits ?_))
                have p1 := of_decide_eq_true q1
                have q := of_decide_eq_false q2
                have n0 : ¬ n < 0 := fun z => by have := lt0_iff.mp z; omega
                have b0' : ¬ b < 0 := fun z => by have := lt0_iff.mp z; omega
                refine iteF n0 (iteF b0' ?_)
                by_cases d0 : d < 0
                · exact iteT d0 (cbE h rfl)
                · obtain ⟨m, hmm, rfl⟩ := nI_of n0
                  obtain ⟨x, hx, rfl⟩ := nI_of d0
                  obtain ⟨x2, hx2, rfl⟩ := nI_of b0'
                  rw [nI_toInt hmm, nI_toInt hx] at q
                  rw [nI_toInt hmm, nI_toInt hx2] at p1
                  have e3 : (nI L1 - nI m).toInt = (L1 : Int) - m := by
                    rw [Int32.toInt_sub, nI_toInt (by omega), nI_toInt hmm]
                    exact Int.bmod_eq_of_le (by omega) (by omega)
                  have e4 : (nI L2 - nI m).toInt = (L2 : Int) - m := by
                    rw [Int32.toInt_sub, nI_toInt (by omega), nI_toInt hmm]
                    exact Int.bmod_eq_of_le (by omega) (by omega)
                  refine iteF d0 (gixE s rfl hs (by decide) (iteF ?_ (gixE p rfl hp (by decide) (iteF ?_ (cbE h rfl)))))
                  · rw [e1, Int32.lt_iff_toInt_lt, nI_toInt hx2]; omega
                  · rw [e2, Int32.le_iff_toInt_le, nI_toInt hx]; omega
              · have p1 := of_decide_eq_true q1
                have p2 := of_decide_eq_true q2
                have n0 : ¬ n < 0 := fun z => by have := lt0_iff.mp z; omega
                have b0' : ¬ b < 0 := fun z => by have := lt0_iff.mp z; omega
                have d0 : ¬ d < 0 := fun z => by have := lt0_iff.mp z; omega
                obtain ⟨m, hmm, rfl⟩ := nI_of n0
                obtain ⟨x, hx, rfl⟩ := nI_of b0'
                obtain ⟨y, hy, rfl⟩ := nI_of d0
                rw [nI_toInt hmm, nI_toInt hx] at p1
                rw [nI_toInt hmm, nI_toInt hy] at p2
                have e3 : (nI L1 - nI m).toInt = (L1 : Int) - m := by
                  rw [Int32.toInt_sub, nI_toInt (by omega), nI_toInt hmm]
                  exact Int.bmod_eq_of_le (by omega) (by omega)
                have e4 : (nI L2 - nI m).toInt = (L2 : Int) - m := by
                  rw [Int32.toInt_sub, nI_toInt (by omega), nI_toInt hmm]
                  exact Int.bmod_eq_of_le (by omega) (by omega)
                have hA := r_move_119 (M := M) (s := s) (i := x) (p := p) (q := y) (n := m) hs hp (by omega) (by omega) m 0 100 (by omega) (by omega)
                rw [mvA_0] at hA
                refine two_move_go R (s := s) (p := p) (i := x) (q := y) (n := m) hs hp (by omega) (by omega) (hc _ ?_) (hr _ ?_)
                · refine iteT hbc (gkE hs (cbE c1 (iteF (b1n q1) (gkE hp ?_))))
                  rw [hJ_V]
                  refine cbE c2 (iteF (b1n q2) (gkE hs (gkE hp (gkE hs (gkE hp ?_)))))
                  rw [hJ_V]
                  refine (if_pos ?_).trans rfl
                  rw [nI_toInt hmm, nI_toInt hx, nI_toInt hy]
                  omega
                · refine iteT hbits (iteF n0 (iteF b0' (iteF d0 (gixE s rfl hs (by decide) (iteF ?_ (gixE p rfl hp (by decide) (iteT ?_ hA)))))))
                  · rw [e1, Int32.lt_iff_toInt_lt, nI_toInt hx]; omega
                  · rw [e2, Int32.le_iff_toInt_le, nI_toInt hy]; omega
          · have hbc : ¬ S.2 (42 + s) = S.2 (42 + p) := by rw [g1, k1]; exact hbits
            exact two_err R 5 5 (-1000000005) (by decide) rfl (by decide) (fun y T h => hc _ (iteF hbc (cbE h rfl))) (fun y T h => hr _ (iteF hbits (cbE h rfl)))
theorem Two.tr {M1 : MS} {fc fr : Option (Int32 × MS)} (t : Two RD M1 fc fr) (h1 : M1.1 2 = M.1 2) (h2 : M1.2 0 = M.2 0) : Two RD M fc fr := by
  obtain ⟨v, S2, M2, a, b, c, d, e⟩ := t
  exact ⟨v, S2, M2, a, b, c, d.trans h1, e.trans h2⟩
theorem Two.eqs {fc fr fc2 fr2 : Option (Int32 × MS)} (t : Two RD M fc fr) (h1 : ∀ u, fc = u → fc2 = u) (h2 : ∀ u, fr = u → fr2 = u) : Two RD M fc2 fr2 := by
  obtain ⟨v, S2, M2, a, b, c⟩ := t
  exact ⟨v, S2, M2, h1 _ a, h2 _ b, c⟩
theorem nI_cmp (x y : Nat) (hx : x < 2 ^ 31) (hy : y < 2 ^ 31) : (nI x ≤ nI y) = (x ≤ y) := propext (nI_leI hx hy)
theorem storE {n : Nat} {a1 a2 : Int32} {N : MS} {u : Option (Int32 × MS)} (h : (gix a1 4 fun k6 => if ((N.1 8 k6) ≤ a2 : Prop) then some (a2, N) else if ((N.1 1 3) ≤ a2 : Prop) then some (a2, N) else gix ((40 * a1) + a2) 160 fun k9 => cs (f_X12_in (N.1 9 k9) 0 6560) fun r10 => if (r10 = 0 : Prop) then some (a2, N) else gix ((40 * a1) + a2) 160 fun k13 => bI (N.1 9 k13) fun v14 => gix ((18 + (3 * a2)) + 2) 206 fun k15 => bI (a2 + 1) fun v16 => (f_X12_stories_32 n) a1 v16 (sA N 1 k15 v14)) = u) : f_X12_stories_32 (n + 1) a1 a2 N = u := h
theorem judgE {n : Nat} {a1 a2 : Int32} {N : MS} {u : Option (Int32 × MS)} (h : (gix a1 4 fun k6 => if ((N.1 8 k6) ≤ a2 : Prop) then f_X12_judge_77 a1 a2 N else if ((N.1 1 3) ≤ a2 : Prop) then f_X12_judge_77 a1 a2 N else gix ((40 * a1) + a2) 160 fun k12 => cb (f_X12_floorOf a2 N) fun r15 S13 => if ((N.1 9 k12) = r15 : Prop) then bI (a2 + 1) fun v17 => (f_X12_judge_32 n) a1 v17 S13 else f_X12_judge_77 a1 a2 S13) = u) : f_X12_judge_32 (n + 1) a1 a2 N = u := h
theorem stories_loop {s : Nat} (hs : s < 4) : ∀ (j k fu : Nat) (S M : MS), k + j = 40 → j < fu → Rel RD S M → ¬ M.1 7 s = 0 → Two RD M (f_X11_stories_35 RD fu s (nI k) S) (f_X12_stories_32 fu (nI s) (nI k) M) := by
  intro j
  induction j with
  | zero =>
    intro k fu S M hk hf R hm
    obtain rfl : k = 40 := by omega
    obtain ⟨fu, rfl⟩ : ∃ z, fu = z + 1 := ⟨fu - 1, by omega⟩
    obtain ⟨g1, g2, g3, g4⟩ := R.gs hs
    obtain ⟨n, hn, hn1, _⟩ := isNI_ex g2
    have hl : S.2 (46 + s) ≤ nI 40 := by rw [g3 hm, hn1]; exact nI_le (by omega) (by decide)
    have hl2 : M.1 8 s ≤ nI 40 := by rw [hn1]; exact nI_le (by omega) (by decide)
    exact Two.same R (v := nI 40) (M2 := M) (gkE hs (iteT hl rfl)) (storE <| gixE s rfl hs (by decide) (iteT hl2 rfl)) ME.rf
  | succ j ih =>
    intro k fu S M hk hf R hm
    obtain ⟨fu, rfl⟩ : ∃ z, fu = z + 1 := ⟨fu - 1, by omega⟩
    obtain ⟨g1, g2, g3, g4⟩ := R.gs hs
    obtain ⟨n, hn, hn1, _⟩ := isNI_ex g2
    have hl : S.2 (46 + s) = nI n := (g3 hm).trans hn1
    by_cases q1 : n ≤ k
    · have a1 : nI n ≤ nI k := nI_le q1 (by omega)
      exact Two.same R (v := nI k) (M2 := M) (gkE hs (iteT (by rw [hl]; exact a1) rfl)) (storE <| gixE s rfl hs (by decide) (iteT (by rw [hn1]; exact a1) rfl)) ME.rf
    · have a1 : ¬ nI n ≤ nI k := nI_ge (by omega) (by omega)
      have hn7 := R.n7
      by_cases q2 : rN (M.1 1) ≤ k
      · have a2 : nI (rN (M.1 1)) ≤ nI k := nI_le q2 (by omega)
        exact Two.same R (v := nI k) (M2 := M) (gkE hs (iteF (by rw [hl]; exact a1) (iteT (by rw [R.n6]; exact a2) rfl))) (storE <| gixE s rfl hs (by decide) (iteF (by rw [hn1]; exact a1) (iteT (by rw [R.n3]; exact a2) rfl))) ME.rf
      · have a2 : ¬ nI (rN (M.1 1)) ≤ nI k := nI_ge (by omega) (by omega)
        have hk6 : k < 6 := by omega
        have hv := g4 k (by omega)
        cases q3 : inR (M.1 9 (40 * s + k)) 6561
        · refine Two.same R (v := nI k) (M2 := M) (gkE hs (iteF (by rw [hl]; exact a1) (iteF (by rw [R.n6]; exact a2) (gkE hs (gkE hs (gixE k rfl (by omega) (by decide) (csE (c_isStory _) (iteT ?_ rfl)))))))) (storE <| gixE s rfl hs (by decide) (iteF (by rw [hn1]; exact a1) (iteF (by rw [R.n3]; exact a2) (gixE _ (e40 s k) (by omega) (by decide) (csE (r_in (by decide)) (iteT (b0 q3) rfl)))))) ME.rf
          rw [hv]; exact b0 q3
        · obtain ⟨v, hv2, hv3, hv31⟩ := inR_t q3
          have L := R.lf
          have hne : ∀ j, ¬ j = 18 + 3 * k + 2 → upd (M.1 1) (18 + 3 * k + 2) (nI v) j = M.1 1 j := fun j hj => upd_ne hj
          have e18 : (18 + (3 * nI k)) + 2 = nI (18 + 3 * k + 2) := by rw [show (18 : Int32) = nI 18 by decide +kernel, show (3 : Int32) = nI 3 by decide +kernel, show (2 : Int32) = nI 2 by decide +kernel, nI_mul, nI_add, nI_add]
          have R2 : Rel RD (sA S 1 k (eD (dg v))) (sA M 1 (18 + 3 * k + 2) (nI v)) := by
            refine ⟨?_, R.xr.go (SK.setA (by decide) _ _) (MK.set1 _ _), R.pow⟩
            exact ⟨L.h.cg (fun j _ _ => hne j (by omega)), L.rr.story hk6 hv2 _ rfl, L.n.cg (hne 3 (by omega)), L.t.cg (hne 9 (by omega)), L.w.cg (hne 8 (by omega)), L.d.cg (hne 0 (by omega)), L.x.cg (hne 1 (by omega)), L.z.cg (hne 2 (by omega)), L.p.cg (hne 4 (by omega)) (fun j _ _ => hne j (by omega)), L.q.cg (hne 5 (by omega)) (fun j _ _ => hne j (by omega)), L.l.cg (fun j _ _ _ => hne j (by omega))⟩
          refine Two.tr (M := M) (Two.eqs (ih (k + 1) fu _ _ (by omega) (by omega) R2 hm) (fun u h => ?_) (fun u h => ?_)) rfl rfl
          · refine gkE hs (iteF (by rw [hl]; exact a1) (iteF (by rw [R.n6]; exact a2) (gkE hs (gkE hs (gixE k rfl (by omega) (by decide) (csE (c_isStory _) (iteF (by rw [hv]; exact b1n q3) (gkE hs (gkE hs (gixE k rfl (by omega) (by decide) (csE (r := eD (dg v)) (by rw [hv, hv3]; exact v_sayingsOf hv31) (gixE k rfl hk6 (by decide) (bIE ?_)))))))))))))
            rw [nI_1]; exact h
          · refine storE <| gixE s rfl hs (by decide) (iteF (by rw [hn1]; exact a1) (iteF (by rw [R.n3]; exact a2) (gixE _ (e40 s k) (by omega) (by decide) (csE (r_in (by decide)) (iteF (b1n q3) (gixE _ (e40 s k) (by omega) (by decide) (bIE (gixE _ e18 (by omega) (by decide) (bIE ?_)))))))))
            rw [nI_1, hv3]; exact h
theorem two_stories (R : Rel RD S M) (a : Int32) : Two RD M (f_X11_stories RD a S) (f_X12_stories a M) := by
  cases h1 : inR a 4
  · exact two_err R 1 1 (-1000000001) (by decide) rfl (by decide) (fun y T h => csE (c_isSheet a) (iteT (b0 h1) (cbE h rfl))) (fun y T h => csE (r_isSheet a) (iteT (b0 h1) (cbE h rfl)))
  · obtain ⟨s, hs, rfl, _⟩ := inR_t h1
    obtain ⟨g1, g2, g3, g4⟩ := R.gs hs
    by_cases hm : M.1 7 s = 0
    · refine two_err R 2 2 (-1000000002) (by decide) rfl (by decide) (fun y T h => csE (c_isSheet _) (iteF (b1n h1) (gixE s rfl hs (by decide) (gkE hs (cbE (c_missT (g1.trans hm)) (iteF ne10 (by rw [hJ_V]; exact (cbE h rfl)))))))) (fun y T h => csE (r_isSheet _) (iteF (b1n h1) (gixE s rfl hs (by decide) (iteT hm (cbE h rfl)))))
    · refine Two.eqs (stories_loop hs 40 0 100 S M (by decide) (by decide) R hm) (fun u h => csE (c_isSheet _) (iteF (b1n h1) (gixE s rfl hs (by decide) (gkE hs (cbE (c_missF (fun z => hm (g1.symm.trans z))) (iteT rfl ?_)))))) (fun u h => csE (r_isSheet _) (iteF (b1n h1) (gixE s rfl hs (by decide) (iteF hm h))))
      rw [hJ_V]
      exact h
theorem judge_end (R : Rel RD S M) {s k : Nat} (hs : s < 4) (hm : ¬ M.1 7 s = 0) {N : MS} (hN : ME M N (M.1 1)) : Two RD M (f_X11_judge_93 RD s (nI k) S) (f_X12_judge_77 (nI s) (nI k) N) := by
  obtain ⟨g1, g2, g3, g4⟩ := R.gs hs
  have e8 : N.1 8 s = M.1 8 s := by rw [hN.2.1 8 (by decide)]
  have e3 : N.1 1 3 = S.2 6 := by rw [hN.1]; exact R.n3.trans R.n6.symm
  by_cases q1 : nI k = M.1 8 s
  · by_cases q2 : nI k = S.2 6
    · exact Two.same R (v := -1) (gkE hs (iteT (by rw [g3 hm]; exact q1) (iteT q2 rfl))) (gixE s rfl hs (by decide) (iteT (by rw [e8]; exact q1) (iteT (by rw [e3]; exact q2) rfl))) hN
    · exact Two.same R (v := nI k) (gkE hs (iteT (by rw [g3 hm]; exact q1) (iteF q2 rfl))) (gixE s rfl hs (by decide) (iteT (by rw [e8]; exact q1) (iteF (by rw [e3]; exact q2) rfl))) hN
  · exact Two.same R (v := nI k) (gkE hs (iteF (by rw [g3 hm]; exact q1) rfl)) (gixE s rfl hs (by decide) (iteF (by rw [e8]; exact q1) rfl)) hN
theorem judge_loop (R : Rel RD S M) {s : Nat} (hs : s < 4) (hm : ¬ M.1 7 s = 0) : ∀ (j k fu : Nat) (N : MS), k + j = 40 → j < fu → ME M N (M.1 1) → Two RD M (f_X11_judge_35 RD fu s (nI k) S) (f_X12_judge_32 fu (nI s) (nI k) N) := by
  obtain ⟨g1, g2, g3, g4⟩ := R.gs hs
  obtain ⟨n, hn, hn1, _⟩ := isNI_ex g2
  have hl : S.2 (46 + s) = nI n := (g3 hm).trans hn1
  intro j
  induction j with
  | zero =>
    intro k fu N hk hf hN
    obtain rfl : k = 40 := by omega
    obtain ⟨fu, rfl⟩ : ∃ z, fu = z + 1 := ⟨fu - 1, by omega⟩
    have a1 : nI n ≤ nI 40 := nI_le (by omega) (by decide)
    have e8 : N.1 8 s = M.1 8 s := by rw [hN.2.1 8 (by decide)]
    exact Two.eqs (judge_end R (k := 40) hs hm hN) (fun u h => gkE hs (iteT (by rw [hl]; exact a1) h)) (fun u h => judgE <| gixE s rfl hs (by decide) (iteT (by rw [e8, hn1]; exact a1) h))
  | succ j ih =>
    intro k fu N hk hf hN
    obtain ⟨fu, rfl⟩ : ∃ z, fu = z + 1 := ⟨fu - 1, by omega⟩
    have e8 : N.1 8 s = nI n := by rw [hN.2.1 8 (by decide)]; exact hn1
    have e3 : N.1 1 3 = nI (rN (M.1 1)) := by rw [hN.1]; exact R.n3
    have hn7 := R.n7
    by_cases q1 : n ≤ k
    · have a1 : nI n ≤ nI k := nI_le q1 (by omega)
      exact Two.eqs (judge_end R (k := k) hs hm hN) (fun u h => gkE hs (iteT (by rw [hl]; exact a1) h)) (fun u h => judgE <| gixE s rfl hs (by decide) (iteT (by rw [e8]; exact a1) h))
    · have a1 : ¬ nI n ≤ nI k := nI_ge (by omega) (by omega)
      by_cases q2 : rN (M.1 1) ≤ k
      · have a2 : nI (rN (M.1 1)) ≤ nI k := nI_le q2 (by omega)
        exact Two.eqs (judge_end R (k := k) hs hm hN) (fun u h => gkE hs (iteF (by rw [hl]; exact a1) (iteT (by rw [R.n6]; exact a2) h))) (fun u h => judgE <| gixE s rfl hs (by decide) (iteF (by rw [e8]; exact a1) (iteT (by rw [e3]; exact a2) h)))
      · have a2 : ¬ nI (rN (M.1 1)) ≤ nI k := nI_ge (by omega) (by omega)
        have hk6 : k < 6 := by omega
        have L := R.lf
        have hW := L.wf
        have hE := hW.he
        have gf := c_floor hW L.abc hk6 (dg_D3 (rS (M.1 1) k)) hE
        rw [← (L.rr k hk6).2.1, ← L.h.2] at gf
        obtain ⟨N2, t1, t2⟩ := r_floorOf hW (hN.pow R.pow) (hN.1.trans R.hr) hE hk6
        rw [hN.1] at t1
        have hN2 := hN.trans t1
        have hv : S.1 (10 + s) k = N.1 9 (40 * s + k) := by rw [hN.2.1 9 (by decide)]; exact g4 k (by omega)
        by_cases q3 : S.1 (10 + s) k = rFl (M.1 1) k (dg (rS (M.1 1) k)) (rE (M.1 1))
        · refine Two.eqs (ih (k + 1) fu N2 (by omega) (by omega) hN2) (fun u h => gkE hs (iteF (by rw [hl]; exact a1) (iteF (by rw [R.n6]; exact a2) (gkE hs (gkE hs (gixE k rfl (by omega) (by decide) (gixE k rfl hk6 (by decide) (cbE gf (iteT q3 (bIE ?_)))))))))) (fun u h => judgE <| gixE s rfl hs (by decide) (iteF (by rw [e8]; exact a1) (iteF (by rw [e3]; exact a2) (gixE _ (e40 s k) (by omega) (by decide) (cbE t2 (iteT (by rw [← hv]; exact q3) (bIE ?_)))))))
          · rw [nI_1, sL_self]; exact h
          · rw [nI_1]; exact h
        · refine Two.eqs (judge_end R (k := k) hs hm hN2) (fun u h => gkE hs (iteF (by rw [hl]; exact a1) (iteF (by rw [R.n6]; exact a2) (gkE hs (gkE hs (gixE k rfl (by omega) (by decide) (gixE k rfl hk6 (by decide) (cbE gf (iteF q3 ?_))))))))) (fun u h => judgE <| gixE s rfl hs (by decide) (iteF (by rw [e8]; exact a1) (iteF (by rw [e3]; exact a2) (gixE _ (e40 s k) (by omega) (by decide) (cbE t2 (iteF (by rw [← hv]; exact q3) h))))))
          rw [sL_self]; exact h
theorem two_judge (R : Rel RD S M) (a : Int32) : Two RD M (f_X11_judge RD a S) (f_X12_judge a M) := by
  cases h1 : inR a 4
  · exact two_err R 1 1 (-1000000001) (by decide) rfl (by decide) (fun y T h => csE (c_isSheet a) (iteT (b0 h1) (cbE h rfl))) (fun y T h => csE (r_isSheet a) (iteT (b0 h1) (cbE h rfl)))
  · obtain ⟨s, hs, rfl, _⟩ := inR_t h1
    obtain ⟨g1, g2, g3, g4⟩ := R.gs hs
    by_cases hm : M.1 7 s = 0
    · refine two_err R 2 2 (-1000000002) (by decide) rfl (by decide) (fun y T h => csE (c_isSheet _) (iteF (b1n h1) (gixE s rfl hs (by decide) (gkE hs (cbE (c_missT (g1.trans hm)) (iteF ne10 (by rw [hJ_V]; exact (cbE h rfl)))))))) (fun y T h => csE (r_isSheet _) (iteF (b1n h1) (gixE s rfl hs (by decide) (iteT hm (cbE h rfl)))))
    · refine Two.eqs (judge_loop R hs hm 40 0 100 M (by decide) (by decide) ME.rf) (fun u h => csE (c_isSheet _) (iteF (b1n h1) (gixE s rfl hs (by decide) (gkE hs (cbE (c_missF (fun z => hm (g1.symm.trans z))) (iteT rfl ?_)))))) (fun u h => csE (r_isSheet _) (iteF (b1n h1) (gixE s rfl hs (by decide) (iteF hm h))))
      rw [hJ_V]
      exact h
end CALLS7

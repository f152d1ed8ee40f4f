/-! ===== the calls, both sides: sheets ===== -/
theorem Lf.sg {r : Nat → Int32} {RD : RDt} {S S2 : MS} (L : Lf r RD S) (h1 : ∀ c, c < 7 → S2.1 c = S.1 c) (h2 : ∀ k, k < 40 → S2.2 k = S.2 k) : Lf r RD S2 := by
  unfold Lf
  rw [h2 0 (by decide), h2 1 (by decide), h2 2 (by decide), h2 3 (by decide), h2 4 (by decide), h2 5 (by decide), h2 6 (by decide), h2 7 (by decide), h2 8 (by decide), h2 20 (by decide), h2 30 (by decide), h1 1 (by decide), h1 2 (by decide), h1 3 (by decide), h1 4 (by decide), h1 5 (by decide), h1 6 (by decide)]
  exact L
def Gs (S M : MS) (s : Nat) : Prop := S.2 (42 + s) = M.1 7 s ∧ isNI (M.1 8 s) 41 ∧ (¬ M.1 7 s = 0 → S.2 (46 + s) = M.1 8 s) ∧ ∀ k, k < 40 → S.1 (10 + s) k = M.1 9 (40 * s + k)
theorem Rel.gs {RD : RDt} {S M : MS} (R : Rel RD S M) {s : Nat} (hs : s < 4) : Gs S M s := R.xr.2.2.2.2.2 s hs
theorem Rel.sh {RD : RDt} {S M S2 M2 : MS} (R : Rel RD S M) (hS : ∀ c, c < 10 → S2.1 c = S.1 c) (hS2 : ∀ k, k < 42 → S2.2 k = S.2 k) (hM : ∀ c, ¬ (7 ≤ c ∧ c ≤ 10) → M2.1 c = M.1 c) (hM2 : M2.2 = M.2) (g : ∀ s, s < 4 → Gs S2 M2 s) : Rel RD S2 M2 := by
  obtain ⟨x1, x2, x3, x4, x5, x6⟩ := R.xr
  refine ⟨?_, ⟨fun k hk => ?_, ?_, ?_, ?_, fun k hk => ?_, g⟩, fun f hf => ?_⟩
  · rw [hM 1 (by omega)]
    exact R.lf.sg (fun c hc => hS c (by omega)) (fun k hk => hS2 k (by omega))
  · rw [hS 7 (by decide), hM 6 (by omega)]; exact x1 k hk
  · rw [hS2 40 (by decide), hM2]; exact x2
  · rw [hM2]; exact x3
  · rw [hS2 41 (by decide), hM2]; exact x4
  · rw [hS 8 (by decide), hM 12 (by omega)]; exact x5 k hk
  · rw [hM 5 (by omega)]; exact R.pow f hf
theorem Two.sh {RD : RDt} {S M S2 M2 : MS} {fc fr : Option (Int32 × MS)} {v : Int32} (R : Rel RD S M) (h1 : fc = some (v, S2)) (h2 : fr = some (v, M2)) (hS : ∀ c, c < 10 → S2.1 c = S.1 c) (hS2 : ∀ k, k < 42 → S2.2 k = S.2 k) (hM : ∀ c, ¬ (7 ≤ c ∧ c ≤ 10) → M2.1 c = M.1 c) (hM2 : M2.2 = M.2) (g : ∀ s, s < 4 → Gs S2 M2 s) : Two RD M fc fr := ⟨v, S2, M2, h1, h2, R.sh hS hS2 hM hM2 g, hM 2 (by omega), by rw [hM2]⟩
theorem hJ_V (k : Nat) (S : MS) : hJ k S (hV k S) = S := by
  refine Prod.ext (funext fun c => ?_) (funext fun i => ?_)
  · show (if c = 10 + k then S.1 (10 + k) else S.1 c) = S.1 c
    by_cases h : c = 10 + k
    · rw [if_pos h, h]
    · rw [if_neg h]
  · show (if i = 42 + k then S.2 (42 + k + 4 * 0) else if i = 46 + k then S.2 (42 + k + 4 * 1) else S.2 i) = S.2 i
    by_cases h : i = 42 + k
    · rw [if_pos h, h]; rfl
    · rw [if_neg h]
      by_cases h2 : i = 46 + k
      · rw [if_pos h2, h2]
        exact congrArg S.2 (by omega)
      · rw [if_neg h2]
theorem c_missT {k : Nat} {S : MS} (h : S.2 (42 + k) = 0) : f_X7_isMissing (hV k S) = some (1, hV k S) := iteT (show S.2 (42 + k + 4 * 0) = 0 from h) rfl
theorem c_missF {k : Nat} {S : MS} (h : ¬ S.2 (42 + k) = 0) : f_X7_isMissing (hV k S) = some (0, hV k S) := iteF (show ¬ S.2 (42 + k + 4 * 0) = 0 from h) rfl
theorem gkE {α : Type} {k n : Nat} {x u : Option α} (h : k < n) (h2 : x = u) : gk k n x = u := (if_pos h).trans h2
theorem e40 (s k : Nat) : (40 * nI s) + nI k = nI (40 * s + k) := by rw [show (40 : Int32) = nI 40 by decide +kernel, nI_mul, nI_add]
/-- array 9 of the reference is nothing from a sheet's number j on -/
def zS (M : MS) (s j : Nat) : MS := (fun c => if c = 9 then fun z => if 40 * s + j ≤ z ∧ z < 40 * s + 40 then 0 else M.1 9 z else M.1 c, M.2)
theorem zS_40 (M : MS) (s : Nat) : zS M s 40 = M := by
  refine Prod.ext (funext fun c => ?_) rfl
  show (if c = 9 then fun z => if 40 * s + 40 ≤ z ∧ z < 40 * s + 40 then 0 else M.1 9 z else M.1 c) = M.1 c
  by_cases h : c = 9
  · subst h
    rw [if_pos rfl]
    funext z
    rw [if_neg (by omega)]
  · rw [if_neg h]
theorem zS_s (M : MS) {s j : Nat} (hj : j < 40) : zS (sA M 9 (40 * s + j) 0) s (j + 1) = zS M s j := by
  refine Prod.ext (funext fun c => ?_) rfl
  show (if c = 9 then fun z => if 40 * s + (j + 1) ≤ z ∧ z < 40 * s + 40 then 0 else upd (M.1 9) (40 * s + j) 0 z else (if c = 9 then upd (M.1 9) (40 * s + j) 0 else M.1 c)) = (if c = 9 then fun z => if 40 * s + j ≤ z ∧ z < 40 * s + 40 then 0 else M.1 9 z else M.1 c)
  by_cases h : c = 9
  · rw [if_pos h, if_pos h]
    funext z
    by_cases h1 : z = 40 * s + j
    · subst h1
      rw [if_neg (by omega), upd_eq, if_pos (by omega)]
    · rw [upd_ne h1]
      by_cases h2 : 40 * s + j ≤ z ∧ z < 40 * s + 40
      · rw [if_pos h2, if_pos (by omega)]
      · rw [if_neg h2, if_neg (by omega)]
  · rw [if_neg h, if_neg h, if_neg h]
theorem r_sheet_93 {s : Nat} (hs : s < 4) : ∀ (j k fu : Nat) (M : MS), k + j = 40 → j < fu → f_X12_sheet_93 fu (nI s) (nI k) M = some (1, zS M s k) := by
  intro j
  induction j with
  | zero =>
    intro k fu M hk hf
    obtain rfl : k = 40 := by omega
    obtain ⟨fu, rfl⟩ : ∃ z, fu = z + 1 := ⟨fu - 1, by omega⟩
    rw [zS_40]
    simp only [f_X12_sheet_93]
    exact iteT (by decide) rfl
  | succ j ih =>
    intro k fu M hk hf
    obtain ⟨fu, rfl⟩ : ∃ z, fu = z + 1 := ⟨fu - 1, by omega⟩
    have hle : ¬ (40 : Int32) ≤ nI k := fun z => nI_ge (a := k) (b := 40) (by omega) (by decide) z
    refine iteF hle (gixE _ (e40 s k) (by omega) (by decide) (bIE ?_))
    rw [nI_1, ih (k + 1) fu _ (by omega) (by omega), zS_s M (by omega)]
theorem held40 {q : Nat} (hq : q ≤ 40) : heldI (nI q) 0 40 = nI q := by
  unfold heldI
  rw [if_pos (show (0 : Int32) ≤ nI q from nI_pos' (by omega)), if_pos (show nI q ≤ 40 from nI_le (b := 40) hq (by decide))]
def rS2 (M : MS) (s : Nat) (b n : Int32) : MS := zS (sA (sA M 7 s b) 8 s n) s 0
def cS2 (S : MS) (s : Nat) (b n : Int32) : MS := hJ s S (sF (sF (sFill (hV s S) 0) 0 b) 1 n)
section CALLS6
variable {RD : RDt} {S M : MS}
theorem rS2_7 (s : Nat) (b n : Int32) : (rS2 M s b n).1 7 = upd (M.1 7) s b := rfl
theorem rS2_8 (s : Nat) (b n : Int32) : (rS2 M s b n).1 8 = upd (M.1 8) s n := rfl
theorem rS2_9 (s : Nat) (b n : Int32) : (rS2 M s b n).1 9 = fun z => if 40 * s + 0 ≤ z ∧ z < 40 * s + 40 then 0 else M.1 9 z := rfl
theorem two_sheet_go (R : Rel RD S M) {s : Nat} (hs : s < 4) (b x y : Int32) (hy : isNI y 41) (hn : ¬ b = 0 → heldI x 0 40 = y) {fc fr : Option (Int32 × MS)} (hc : ∀ u, f_X11_sheet_65 RD (nI s) b x S = u → fc = u) (hr : ∀ u, f_X12_sheet_89 (nI s) (nI s) y (sA M 7 s b) = u → fr = u) : Two RD M fc fr := by
  refine Two.sh R (v := 1) (S2 := cS2 S s b (heldI x 0 40)) (M2 := rS2 M s b y) (hc _ ?_) (hr _ ?_) (fun c hc => if_neg (by omega)) (fun k hk => ?_) (fun c hc => ?_) rfl (fun t ht => ?_)
  · exact gixE s rfl hs (by decide) (gkE hs (cbE (csE (c_held (by decide)) rfl) rfl))
  · exact gixE s rfl hs (by decide) (r_sheet_93 hs 40 0 100 _ (by decide) (by decide))
  · show (if k = 42 + s then _ else if k = 46 + s then _ else S.2 k) = S.2 k
    rw [if_neg (by omega), if_neg (by omega)]
  · show (if c = 9 then _ else if c = 8 then _ else if c = 7 then _ else M.1 c) = M.1 c
    rw [if_neg (by omega), if_neg (by omega), if_neg (by omega)]
  · obtain ⟨g1, g2, g3, g4⟩ := R.gs ht
    unfold Gs
    rw [rS2_7, rS2_8, rS2_9]
    by_cases h : t = s
    · subst h
      rw [upd_eq, upd_eq]
      refine ⟨?_, hy, fun hb => ?_, fun k hk => ?_⟩
      · show (if 42 + t = 42 + t then b else _) = b
        rw [if_pos rfl]
      · show (if 46 + t = 42 + t then _ else if 46 + t = 46 + t then heldI x 0 40 else _) = y
        rw [if_neg (by omega), if_pos rfl]
        exact hn hb
      · show (if 10 + t = 10 + t then (fun _ => (0 : Int32)) else S.1 (10 + t)) k = (if 40 * t + 0 ≤ 40 * t + k ∧ 40 * t + k < 40 * t + 40 then 0 else M.1 9 (40 * t + k))
        rw [if_pos rfl, if_pos (by omega)]
    · rw [upd_ne h, upd_ne h]
      refine ⟨?_, g2, fun hb => ?_, fun k hk => ?_⟩
      · show (if 42 + t = 42 + s then _ else if 42 + t = 46 + s then _ else S.2 (42 + t)) = _
        rw [if_neg (by omega), if_neg (by omega)]
        exact g1
      · show (if 46 + t = 42 + s then _ else if 46 + t = 46 + s then _ else S.2 (46 + t)) = _
        rw [if_neg (by omega), if_neg (by omega)]
        exact g3 hb
      · show (if 10 + t = 10 + s then (fun _ => (0 : Int32)) else S.1 (10 + t)) k = (if 40 * s + 0 ≤ 40 * t + k ∧ 40 * t + k < 40 * s + 40 then 0 else M.1 9 (40 * t + k))
        rw [if_neg (by omega), if_neg (by omega)]
        exact g4 k hk
theorem two_sheet (R : Rel RD S M) (a b c : Int32) : Two RD M (f_X11_sheet RD a b c S) (f_X12_sheet a b c M) := by
  cases h1 : inR a 4
  · exact two_err R 1 1 (-1000000001) (by decide) rfl (by decide) (fun y T h => csE (c_isSheet a) (iteT (b0 h1) (cbE h rfl))) (fun y T h => csE (r_isSheet a) (iteT (b0 h1) (cbE h rfl)))
  · obtain ⟨s, hs, rfl, _⟩ := inR_t h1
    by_cases hb : b = 0 ∨ b = 8 ∨ b = 16 ∨ b = 32
    · have hc : ∀ u, f_X11_sheet_35 RD (nI s) b c S = u → f_X11_sheet RD (nI s) b c S = u := fun u h => by
        refine csE (c_isSheet _) (iteF (b1n h1) ?_)
        by_cases q0 : b = 0
        · exact iteT q0 h
        · refine iteF q0 ?_
          by_cases q1 : b = 8
          · exact iteT q1 h
          · refine iteF q1 ?_
            by_cases q2 : b = 16
            · exact iteT q2 h
            · exact iteF q2 (iteT (by rcases hb with z | z | z | z; exact absurd z q0; exact absurd z q1; exact absurd z q2; exact z) h)
      have hr : ∀ u, f_X12_sheet_36 (nI s) b c M = u → f_X12_sheet (nI s) b c M = u := fun u h => by
        refine csE (r_isSheet _) (iteF (b1n h1) ?_)
        by_cases q0 : b = 0
        · exact iteT q0 h
        · refine iteF q0 ?_
          by_cases q1 : b = 8
          · exact iteT q1 h
          · refine iteF q1 ?_
            by_cases q2 : b = 16
            · exact iteT q2 h
            · exact iteF q2 (iteT (by rcases hb with z | z | z | z; exact absurd z q0; exact absurd z q1; exact absurd z q2; exact z) h)
      by_cases q0 : b = 0
      · refine two_sheet_go R hs b c 0 (isNI_of (k := 0) (by decide) (by decide)) (fun z => absurd q0 z) (fun u h => hc _ (iteT q0 (iteT q0 h))) (fun u h => hr _ (iteT q0 (iteT q0 (gixE s rfl hs (by decide) (iteT q0 h)))))
      · by_cases n0 : 0 ≤ c
        · by_cases n40 : c ≤ 40
          · obtain ⟨q, hq, rfl⟩ := nI_of2 (x := c) (M := 40) (n := 40) (by decide) (Int32.not_lt.mpr n0) n40
            exact two_sheet_go R hs b (nI q) (nI q) (isNI_of (by omega) (by decide)) (fun _ => held40 hq) (fun u h => hc _ (iteF q0 (iteT n0 (iteF q0 (iteT n40 h))))) (fun u h => hr _ (iteF q0 (iteT n0 (iteF q0 (iteT n40 (gixE s rfl hs (by decide) (iteF q0 h)))))))
          · exact two_err R 1 1 (-1000000001) (by decide) rfl (by decide) (fun y T h => hc _ (iteF q0 (iteT n0 (iteF q0 (iteF n40 (cbE h rfl)))))) (fun y T h => hr _ (iteF q0 (iteT n0 (iteF q0 (iteF n40 (cbE h rfl))))))
        · exact two_err R 3 3 (-1000000003) (by decide) rfl (by decide) (fun y T h => hc _ (iteF q0 (iteF n0 (cbE h rfl)))) (fun y T h => hr _ (iteF q0 (iteF n0 (cbE h rfl))))
    · have q0 : ¬ b = 0 := fun z => hb (Or.inl z)
      have q1 : ¬ b = 8 := fun z => hb (Or.inr (Or.inl z))
      have q2 : ¬ b = 16 := fun z => hb (Or.inr (Or.inr (Or.inl z)))
      have q3 : ¬ b = 32 := fun z => hb (Or.inr (Or.inr (Or.inr z)))
      exact two_err R 1 1 (-1000000001) (by decide) rfl (by decide) (fun y T h => csE (c_isSheet _) (iteF (b1n h1) (iteF q0 (iteF q1 (iteF q2 (iteF q3 (cbE h rfl))))))) (fun y T h => csE (r_isSheet _) (iteF (b1n h1) (iteF q0 (iteF q1 (iteF q2 (iteF q3 (cbE h rfl)))))))
def nar (b v : Int32) : Int32 := if b = 8 then ji2b v else if b = 16 then ji2s v else v
theorem c_cut (k : Nat) (S : MS) (v : Int32) : f_X7_cut v (hV k S) = some (nar (S.2 (42 + k)) v, hV k S) := by
  unfold f_X7_cut nar
  show (if S.2 (42 + k + 4 * 0) = 8 then _ else if S.2 (42 + k + 4 * 0) = 16 then _ else _) = _
  rw [show 42 + k + 4 * 0 = 42 + k from rfl]
  by_cases h : S.2 (42 + k) = 8
  · rw [if_pos h, if_pos h]
  · rw [if_neg h, if_neg h]
    by_cases h2 : S.2 (42 + k) = 16
    · rw [if_pos h2, if_pos h2]
    · rw [if_neg h2, if_neg h2]
theorem r_narrow (b v : Int32) : f_X12_narrow b v = some (nar b v) := by
  unfold f_X12_narrow nar
  by_cases h : b = 8
  · rw [if_pos h, if_pos h]
  · rw [if_neg h, if_neg h]
    by_cases h2 : b = 16
    · rw [if_pos h2, if_pos h2]
    · rw [if_neg h2, if_neg h2]
theorem nI_pt {n : Nat} (hn : n < 2 ^ 31) : (nI n - 1).toInt + 1 = n := by
  cases n with
  | zero => decide
  | succ n => rw [nI_pred, nI_toInt (by omega)]; omega
theorem rng_cmp {a : Int32} {n : Nat} (hn : n < 2 ^ 31) : (inR a n = true ∧ ¬ a < 0 ∧ a < nI n) ∨ (inR a n = false ∧ (a < 0 ∨ (¬ a < 0 ∧ ¬ a < nI n))) := by
  have e := nI_toInt hn
  cases h : inR a n
  · have h1 := of_decide_eq_false h
    refine Or.inr ⟨rfl, ?_⟩
    by_cases h0 : a < 0
    · exact Or.inl h0
    · refine Or.inr ⟨h0, fun z => h1 ?_⟩
      rw [Int32.lt_iff_toInt_lt, e] at z
      have : ¬ a.toInt < 0 := fun y => h0 (lt0_iff.mpr y)
      omega
  · have h1 := of_decide_eq_true h
    refine Or.inl ⟨rfl, fun z => ?_, ?_⟩
    · have := lt0_iff.mp z; omega
    · rw [Int32.lt_iff_toInt_lt, e]; omega
theorem two_put (R : Rel RD S M) (a b c : Int32) : Two RD M (f_X11_put RD a b c S) (f_X12_put a b c M) := by
  cases h1 : inR a 4
  · exact two_err R 1 1 (-1000000001) (by decide) rfl (by decide) (fun y T h => csE (c_isSheet a) (iteT (b0 h1) (cbE h rfl))) (fun y T h => csE (r_isSheet a) (iteT (b0 h1) (cbE h rfl)))
  · obtain ⟨s, hs, rfl, _⟩ := inR_t h1
    obtain ⟨g1, g2, g3, g4⟩ := R.gs hs
    by_cases hm : M.1 7 s = 0
    · refine two_err R 2 2 (-1000000002) (by decide) rfl (by decide) (fun y T h => csE (c_isSheet _) (iteF (b1n h1) (gixE s rfl hs (by decide) (gkE hs (cbE (c_missT (g1.trans hm)) (iteF ne10 (by rw [hJ_V]; exact (cbE h rfl)))))))) (fun y T h => csE (r_isSheet _) (iteF (b1n h1) (gixE s rfl hs (by decide) (iteT hm (cbE h rfl)))))
    · obtain ⟨n, hn, hn1, _⟩ := isNI_ex g2
      have hlen : S.2 (46 + s) = nI n := (g3 hm).trans hn1
      have hin : f_X12_in b 0 (M.1 8 s - 1) = some (bif inR b n then 1 else 0) := by rw [hn1]; exact r_in (nI_pt (by omega))
      have hc : ∀ u, (if (b < 0 : Prop) then f_X11_put_48 RD S else gk s 4 <| if (b < S.2 (46 + s) : Prop) then gk s 4 <| gk s 4 <| cb (f_X7_cut c (hV s S)) fun r20 S18 => gk s 4 <| gix b 40 fun k22 => some (1, (sA (hJ s S S18) (10 + s) k22 r20)) else f_X11_put_48 RD S) = u → f_X11_put RD (nI s) b c S = u := fun u h => by
        refine csE (c_isSheet _) (iteF (b1n h1) (gixE s rfl hs (by decide) (gkE hs (cbE (c_missF (fun z => hm (g1.symm.trans z))) (iteT rfl ?_)))))
        rw [hJ_V]
        exact h
      have hr : ∀ u, (if ((bif inR b n then (1 : Int32) else 0) = 0 : Prop) then cb (f_X12_errs (-1000000001) M) fun r16 S14 => some (r16, S14) else gix (nI s) 4 fun k10 => cs (f_X12_narrow (M.1 7 k10) c) fun r11 => gix ((40 * nI s) + b) 160 fun k13 => some (1, (sA M 9 k13 r11))) = u → f_X12_put (nI s) b c M = u := fun u h => csE (r_isSheet _) (iteF (b1n h1) (gixE s rfl hs (by decide) (iteF hm (gixE s rfl hs (by decide) (csE hin h)))))
      rcases rng_cmp (a := b) (n := n) (by omega) with ⟨q1, q2, q3⟩ | ⟨q1, q2⟩
      · obtain ⟨i, hi, rfl, _⟩ := inR_t q1
        refine Two.sh R (v := 1) (S2 := sA S (10 + s) i (nar (M.1 7 s) c)) (M2 := sA M 9 (40 * s + i) (nar (M.1 7 s) c)) (hc _ ?_) (hr _ ?_) (fun x hx => if_neg (by omega)) (fun _ _ => rfl) (fun x hx => if_neg (by omega)) rfl (fun t ht => ?_)
        · refine iteF q2 (gkE hs (iteT (by rw [hlen]; exact q3) (gkE hs (gkE hs (cbE (c_cut s S c) (gkE hs (gixE i rfl (by omega) (by decide) ?_)))))))
          rw [hJ_V, g1]
        · exact iteF (b1n q1) (gixE s rfl hs (by decide) (csE (r_narrow _ _) (gixE _ (e40 s i) (by omega) (by decide) rfl)))
        · obtain ⟨k1, k2, k3, k4⟩ := R.gs ht
          refine ⟨k1, k2, k3, fun k hk => ?_⟩
          show (if 10 + t = 10 + s then upd (S.1 (10 + s)) i (nar (M.1 7 s) c) else S.1 (10 + t)) k = upd (M.1 9) (40 * s + i) (nar (M.1 7 s) c) (40 * t + k)
          by_cases h : t = s
          · subst h
            rw [if_pos rfl]
            by_cases hki : k = i
            · subst hki; rw [upd_eq, upd_eq]
            · rw [upd_ne hki, upd_ne (by omega)]; exact k4 k hk
          · rw [if_neg (by omega), upd_ne (by omega)]; exact k4 k hk
      · refine two_err R 1 1 (-1000000001) (by decide) rfl (by decide) (fun y T h => hc _ ?_) (fun y T h => hr _ (iteT (b0 q1) (cbE h rfl)))
        rcases q2 with q2 | ⟨q2, q3⟩
        · exact iteT q2 (cbE h rfl)
        · exact iteF q2 (gkE hs (iteF (by rw [hlen]; exact q3) (cbE h rfl)))
end CALLS6

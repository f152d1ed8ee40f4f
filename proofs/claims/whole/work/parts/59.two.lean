/-! ===== numbers within bounds ===== -/
def inR (a : Int32) (n : Nat) : Bool := decide (0 ≤ a.toInt ∧ a.toInt < n)
theorem inR_t {a : Int32} {n : Nat} (h : inR a n = true) : ∃ k, k < n ∧ a = nI k ∧ k < 2 ^ 31 := by
  have h1 := of_decide_eq_true h
  have hm := Int32.toInt_lt a
  refine ⟨a.toInt.toNat, by omega, ?_, by omega⟩
  apply Int32.toInt_inj.mp
  rw [nI_toInt (by omega)]
  omega
theorem inR_nI {k n : Nat} (hk : k < 2 ^ 31) : inR (nI k) n = decide (k < n) := by
  unfold inR
  rw [nI_toInt hk]
  by_cases h : k < n
  · rw [decide_eq_true h]; exact decide_eq_true (by omega)
  · rw [decide_eq_false h]; exact decide_eq_false (by omega)
theorem lt0_iff {a : Int32} : a < 0 ↔ a.toInt < 0 := Int32.lt_iff_toInt_lt
theorem rng_of {a : Int32} {n : Nat} {P : Prop} {inst : Decidable P} (hP : P ↔ (n : Int) ≤ a.toInt) : (if a < 0 then some (0 : Int32) else if P then some 0 else some 1) = some (bif inR a n then 1 else 0) := by
  unfold inR
  by_cases h0 : a < 0
  · rw [if_pos h0, decide_eq_false (by have := lt0_iff.mp h0; omega)]; rfl
  · have h1 : ¬ a.toInt < 0 := fun z => h0 (lt0_iff.mpr z)
    rw [if_neg h0]
    by_cases h2 : P
    · rw [if_pos h2, decide_eq_false (by have := hP.mp h2; omega)]; rfl
    · rw [if_neg h2, decide_eq_true ⟨by omega, by have : ¬ (n : Int) ≤ a.toInt := fun z => h2 (hP.mpr z); omega⟩]; rfl
theorem rng_in {a : Int32} {n : Nat} (h : inR a n = true) : ¬ a < 0 ∧ ∀ m : Int32, m.toInt + 1 = n → a ≤ m := by
  have h1 := of_decide_eq_true h
  refine ⟨fun z => ?_, fun m hm => ?_⟩
  · have := lt0_iff.mp z; omega
  · rw [Int32.le_iff_toInt_le]; omega
theorem rng_out {a : Int32} {n : Nat} (h : inR a n = false) (m : Int32) (hm : m.toInt + 1 = n) : a < 0 ∨ (¬ a < 0 ∧ ¬ a ≤ m) := by
  have h1 := of_decide_eq_false h
  by_cases h0 : a < 0
  · exact Or.inl h0
  · refine Or.inr ⟨h0, fun z => h1 ?_⟩
    rw [Int32.le_iff_toInt_le] at z
    have : ¬ a.toInt < 0 := fun y => h0 (lt0_iff.mpr y)
    omega
theorem c_isFact (a : Int32) : f_X11_isFact a = some (bif inR a 8 then 1 else 0) := rng_of (by rw [Int32.le_iff_toInt_le]; exact Iff.rfl)
theorem c_isSaying (a : Int32) : f_X11_isSaying a = some (bif inR a 3 then 1 else 0) := rng_of (by rw [Int32.lt_iff_toInt_lt, show (2 : Int32).toInt = 2 by decide]; omega)
theorem c_isStory (a : Int32) : f_X11_isStory a = some (bif inR a 6561 then 1 else 0) := rng_of (by rw [Int32.le_iff_toInt_le]; exact Iff.rfl)
theorem c_isKm (a : Int32) : f_X11_isKindWithNumber a = some (bif inR a 70 then 1 else 0) := rng_of (by rw [Int32.lt_iff_toInt_lt, show (69 : Int32).toInt = 69 by decide]; omega)
theorem c_isGoal (a : Int32) : f_X11_isGoal a = some (bif inR a 10 then 1 else 0) := rng_of (by rw [Int32.lt_iff_toInt_lt, show (9 : Int32).toInt = 9 by decide]; omega)
theorem c_isSheet (a : Int32) : f_X11_isSheet a = some (bif inR a 4 then 1 else 0) := rng_of (by rw [Int32.le_iff_toInt_le]; exact Iff.rfl)
theorem c_isUse (a : Int32) : f_X11_isUse a = some (bif inR a 2 then 1 else 0) := by
  unfold f_X11_isUse inR
  by_cases h0 : a = 0
  · subst h0; exact iteT rfl rfl
  · by_cases h1 : a = 1
    · subst h1; exact iteF (by decide) (iteT rfl rfl)
    · have n0 : ¬ a.toInt = 0 := fun z => h0 (Int32.toInt_inj.mp z)
      have n1 : ¬ a.toInt = 1 := fun z => h1 (Int32.toInt_inj.mp z)
      rw [decide_eq_false (by omega)]
      exact iteF h0 (iteF h1 rfl)
theorem r_in {a m : Int32} {n : Nat} (hm : m.toInt + 1 = n) : f_X12_in a 0 m = some (bif inR a n then 1 else 0) := rng_of (by rw [Int32.lt_iff_toInt_lt]; omega)
theorem gz_b (b : Bool) {α : Type} {k u : Option α} (h : k = u) : gz (bif b then (1 : Int32) else 0) k = u := gzE (by cases b; exact Or.inl rfl; exact Or.inr rfl) h
theorem r_isFact (a : Int32) : f_X12_isFact a = some (bif inR a 8 then 1 else 0) := csE (r_in (by decide)) (gz_b _ rfl)
theorem r_isFloor (a : Int32) : f_X12_isFloor a = some (bif inR a 10 then 1 else 0) := csE (r_in (by decide)) (gz_b _ rfl)
theorem r_isSheet (a : Int32) : f_X12_isSheet a = some (bif inR a 4 then 1 else 0) := csE (r_in (by decide)) (gz_b _ rfl)
theorem r_isRider {M : MS} {n : Nat} (a : Int32) (h : M.1 1 3 = nI n) (hn : n < 7) : f_X12_isRider a M = some (bif inR a n then 1 else 0, M) := by
  unfold f_X12_isRider
  rw [h]
  refine csE (r_in (n := n) ?_) (gz_b _ rfl)
  match n, hn with
  | 0, _ => decide
  | 1, _ => decide
  | 2, _ => decide
  | 3, _ => decide
  | 4, _ => decide
  | 5, _ => decide
  | 6, _ => decide
theorem c_isRider {RD : RDt} {S : MS} {n : Nat} (a : Int32) (h : S.2 6 = nI n) (hn : n < 7) : f_X11_isRider RD a S = some (bif inR a n then 1 else 0, S) := by
  have e := rng_of (a := a) (n := n) (P := S.2 6 ≤ a) (inst := inferInstance) (by rw [h, Int32.le_iff_toInt_le, nI_toInt (by omega)])
  unfold f_X11_isRider
  by_cases h0 : a < 0
  · rw [if_pos h0] at e
    rw [← Option.some.inj e]
    exact iteT h0 rfl
  · rw [if_neg h0] at e
    by_cases h1 : S.2 6 ≤ a
    · rw [if_pos h1] at e
      rw [← Option.some.inj e]
      exact iteF h0 (iteT h1 rfl)
    · rw [if_neg h1] at e
      rw [← Option.some.inj e]
      exact iteF h0 (iteF h1 rfl)
/-! ===== all of it: the lift, and what an image leaves out ===== -/
def XR (S M : MS) : Prop := (∀ k, k < 6 → S.1 7 k = M.1 6 k) ∧ S.2 40 = M.2 1 ∧ isNI (M.2 13) 41 ∧ S.2 41 = M.2 13 ∧ (∀ k, k < 40 → S.1 8 k = M.1 12 k) ∧ ∀ s, s < 4 → S.2 (42 + s) = M.1 7 s ∧ isNI (M.1 8 s) 41 ∧ (¬ M.1 7 s = 0 → S.2 (46 + s) = M.1 8 s) ∧ ∀ k, k < 40 → S.1 (10 + s) k = M.1 9 (40 * s + k)
def Rel (RD : RDt) (S M : MS) : Prop := Lf (M.1 1) RD S ∧ XR S M ∧ MPow M
def SK (S S2 : MS) : Prop := (∀ c, 7 ≤ c → S2.1 c = S.1 c) ∧ ∀ k, 40 ≤ k → S2.2 k = S.2 k
def MK (M M2 : MS) : Prop := (∀ c, (c = 2 ∨ (5 ≤ c ∧ c ≤ 9) ∨ c = 12) → M2.1 c = M.1 c) ∧ ∀ k, (k < 2 ∨ 13 ≤ k) → M2.2 k = M.2 k
theorem SK.rf {S : MS} : SK S S := ⟨fun _ _ => rfl, fun _ _ => rfl⟩
theorem SK.trans {S S2 S3 : MS} (h : SK S S2) (h2 : SK S2 S3) : SK S S3 := ⟨fun c hc => (h2.1 c hc).trans (h.1 c hc), fun k hk => (h2.2 k hk).trans (h.2 k hk)⟩
theorem SK.setF {S : MS} {k : Nat} (h : k < 40) (v : Int32) : SK S (sF S k v) := ⟨fun _ _ => rfl, fun j hj => if_neg (by omega)⟩
theorem SK.setA {S : MS} {j : Nat} (h : j < 7) (i : Nat) (v : Int32) : SK S (sA S j i v) := ⟨fun c hc => if_neg (by omega), fun _ _ => rfl⟩
theorem SK.setL {S S2 : MS} : SK S (sL S S2) := ⟨fun c hc => if_neg (by omega), fun j hj => if_neg (by omega)⟩
theorem MK.rf {M : MS} : MK M M := ⟨fun _ _ => rfl, fun _ _ => rfl⟩
theorem MK.trans {M M2 M3 : MS} (h : MK M M2) (h2 : MK M2 M3) : MK M M3 := ⟨fun c hc => (h2.1 c hc).trans (h.1 c hc), fun k hk => (h2.2 k hk).trans (h.2 k hk)⟩
theorem MK.of {M M2 : MS} {r2 : Nat → Int32} (h : ME M M2 r2) : MK M M2 := ⟨fun c hc => h.2.1 c (by omega), h.2.2⟩
theorem MK.set1 {M : MS} (i : Nat) (v : Int32) : MK M (sA M 1 i v) := ⟨fun c hc => if_neg (by omega), fun _ _ => rfl⟩
theorem XR.go {S S2 M M2 : MS} (hS : SK S S2) (hM : MK M M2) (X : XR S M) : XR S2 M2 := by
  obtain ⟨x1, x2, x3, x4, x5, x6⟩ := X
  have m6 := hM.1 6 (by omega)
  have m7 := hM.1 7 (by omega)
  have m8 := hM.1 8 (by omega)
  have m9 := hM.1 9 (by omega)
  have m12 := hM.1 12 (by omega)
  have k1 := hM.2 1 (by omega)
  have k13 := hM.2 13 (by omega)
  refine ⟨fun k hk => ?_, ?_, ?_, ?_, fun k hk => ?_, fun s hs => ?_⟩
  · rw [hS.1 7 (by decide), m6]; exact x1 k hk
  · rw [hS.2 40 (by decide), k1]; exact x2
  · rw [k13]; exact x3
  · rw [hS.2 41 (by decide), k13]; exact x4
  · rw [hS.1 8 (by decide), m12]; exact x5 k hk
  · rw [hS.2 (42 + s) (by omega), hS.2 (46 + s) (by omega), hS.1 (10 + s) (by omega), m7, m8, m9]
    exact x6 s hs
theorem Rel.pow {RD : RDt} {S M : MS} (R : Rel RD S M) : MPow M := R.2.2
theorem Rel.lf {RD : RDt} {S M : MS} (R : Rel RD S M) : Lf (M.1 1) RD S := R.1
theorem Rel.xr {RD : RDt} {S M : MS} (R : Rel RD S M) : XR S M := R.2.1
theorem Rel.hr {RD : RDt} {S M : MS} (R : Rel RD S M) : M.1 1 = HR (M.1 1) (rE (M.1 1)) (M.1 1 1) (M.1 1 0) := (HR_self R.lf.wf).symm
/-- the two answers are the same, and the relation holds behind them; what is kept is as it was -/
def Two (RD : RDt) (M0 : MS) (fc fr : Option (Int32 × MS)) : Prop := ∃ (v : Int32) (S2 M2 : MS), fc = some (v, S2) ∧ fr = some (v, M2) ∧ Rel RD S2 M2 ∧ M2.1 2 = M0.1 2 ∧ M2.2 0 = M0.2 0
theorem Two.go {RD : RDt} {S M S2 M2 : MS} {fc fr : Option (Int32 × MS)} {v : Int32} (R : Rel RD S M) (h1 : fc = some (v, S2)) (h2 : fr = some (v, M2)) (hS : SK S S2) (hM : MK M M2) (L : Lf (M2.1 1) RD S2) : Two RD M fc fr := ⟨v, S2, M2, h1, h2, ⟨L, R.xr.go hS hM, fun f hf => by rw [hM.1 5 (by omega)]; exact R.pow f hf⟩, hM.1 2 (by omega), hM.2 0 (by omega)⟩
/-- nothing but walks' remains has changed -/
theorem Two.same {RD : RDt} {S M M2 : MS} {fc fr : Option (Int32 × MS)} {v : Int32} (R : Rel RD S M) (h1 : fc = some (v, S)) (h2 : fr = some (v, M2)) (hM : ME M M2 (M.1 1)) : Two RD M fc fr := Two.go R h1 h2 SK.rf (MK.of hM) (by rw [hM.1]; exact R.lf)
theorem err_step {RD : RDt} {S M : MS} (R : Rel RD S M) {k : Nat} {x e : Int32} (hk : k < 6) (hx : x = nI k) (he : -1000000000 - e = nI k ∧ -1000000000 - x = e) : ∃ S2 M2 : MS, f_X11_error RD x S = some (e, S2) ∧ f_X12_errs e M = some (e, M2) ∧ Rel RD S2 M2 ∧ M2.1 2 = M.1 2 ∧ M2.2 0 = M.2 0 := by
  obtain ⟨⟨x1, x2, x3, x4, x5, x6⟩, hP⟩ := And.intro R.xr R.pow
  refine ⟨sA S 7 k (S.1 7 k + 1), sA M 6 k (M.1 6 k + 1), ?_, ?_, ⟨?_, ⟨fun j hj => ?_, x2, x3, x4, x5, fun s hs => ⟨(x6 s hs).1, (x6 s hs).2.1, (x6 s hs).2.2.1, fun q hq => ?_⟩⟩, hP⟩, rfl, rfl⟩
  · refine gixE k hx hk (by decide) (bIE (gixE k hx hk (by decide) ?_))
    rw [he.2]
  · refine bIE (gixE k he.1 hk (by decide) (bIE (gixE k he.1 hk (by decide) rfl)))
  · exact R.lf
  · show upd (S.1 7) k (S.1 7 k + 1) j = upd (M.1 6) k (M.1 6 k + 1) j
    unfold upd
    by_cases h : j = k
    · rw [if_pos h, if_pos h, x1 k hk]
    · rw [if_neg h, if_neg h, x1 j hj]
  · have e7 : (sA S 7 k (S.1 7 k + 1)).1 (10 + s) = S.1 (10 + s) := if_neg (by omega)
    rw [e7]
    exact (x6 s hs).2.2.2 q hq
theorem two_err {RD : RDt} {S M : MS} {fc fr : Option (Int32 × MS)} (R : Rel RD S M) (k : Nat) (x e : Int32) (hk : k < 6) (hx : x = nI k) (he : -1000000000 - e = nI k ∧ -1000000000 - x = e) (h1 : ∀ y T, f_X11_error RD x S = some (y, T) → fc = some (y, T)) (h2 : ∀ y T, f_X12_errs e M = some (y, T) → fr = some (y, T)) : Two RD M fc fr := by
  obtain ⟨S2, M2, g1, g2, g3, g4, g5⟩ := err_step R hk hx he
  exact ⟨e, S2, M2, h1 _ _ g1, h2 _ _ g2, g3, g4, g5⟩

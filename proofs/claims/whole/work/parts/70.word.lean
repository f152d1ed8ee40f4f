/-! ===== the calls, both sides: which word tells most ===== -/
def hh (o : Nat) : Int32 := if o = 10 then 0 else jshl 2 (nI o)
def gg (o : Nat) : Int32 := if o = 10 then 0 else jshl 1 (nI o)
def cn (i j k : Nat) : Nat := (if i = 10 then 0 else 1) + (if j = 10 ∨ j = i then 0 else 1) + (if k = 10 ∨ k = i ∨ k = j then 0 else 1)
def rcnt (x : Int32) : Option Int32 := cs (f_X12_bits x) fun r => some ((r + ((jshr x 8) &&& 1)) + ((jshr x 9) &&& 1))
theorem cnt_all : ∀ i, i < 11 → ∀ j, j < 11 → ∀ k, k < 11 → f_J6_bitCount_0f7a4 ((hh i ||| hh j) ||| hh k) = some (nI (cn i j k)) ∧ rcnt ((gg i ||| gg j) ||| gg k) = some (nI (cn i j k)) := by decide +kernel
def ox (s : Bool) (v : Nat) : Nat := bif s then v else 10
theorem ox_lt {s : Bool} {v : Nat} (hv : v ≤ 9) : ox s v < 11 := by
  cases s
  · show 10 < 11
    decide
  · show v < 11
    omega
theorem hh_t {v : Nat} (hv : v ≤ 9) : hh (ox true v) = jshl 2 (nI v) := if_neg (show ¬ v = 10 by omega)
theorem hh_f (v : Nat) : hh (ox false v) = 0 := rfl
theorem gg_t {v : Nat} (hv : v ≤ 9) : gg (ox true v) = jshl 1 (nI v) := if_neg (show ¬ v = 10 by omega)
theorem gg_f (v : Nat) : gg (ox false v) = 0 := rfl
theorem or_sw (x y a : Int32) : (x ||| y) ||| a = (x ||| a) ||| y := by rw [Int32.or_assoc, Int32.or_comm y a, ← Int32.or_assoc]
theorem or_a3 (x a : Int32) : (x ||| a) ||| a = x ||| a := by rw [Int32.or_assoc, Int32.or_self]
theorem or_a1 (x y a : Int32) : ((a ||| x) ||| y) ||| a = (a ||| x) ||| y := by rw [or_sw (a ||| x) y a, or_sw a x a, Int32.or_self]
theorem dg3 : ∀ f, f < 8 → ∀ g, g < 8 → dg (3 ^ f) g = if g = f then 1 else 0 := by decide
theorem dg3p : ∀ f, f < 8 → 3 ^ f < 6561 := by decide
theorem story_eP {f : Nat} (hf : f < 8) : eP (fun g => g == f) (fun _ => false) = eD (dg (3 ^ f)) := by
  unfold eD
  refine eP_congr (fun g hg => ?_) (fun g hg => ?_) <;> rw [dg3 f hf g hg] <;> by_cases h : g = f
  · rw [if_pos h, h, beq_self_eq_true]; rfl
  · rw [if_neg h, beq_eq_false_iff_ne.mpr h]; rfl
  · rw [if_pos h]; rfl
  · rw [if_neg h]; rfl
theorem opp_eP {f : Nat} (_ : f < 8) : eP (fun _ => false) (fun g => g == f) = eD (fun g => if g = f then 2 else 0) := by
  unfold eD
  refine eP_congr (fun g hg => ?_) (fun g hg => ?_)
  · show false = ((if g = f then 2 else 0) == 1)
    by_cases h : g = f
    · rw [if_pos h]; rfl
    · rw [if_neg h]; rfl
  · show (g == f) = ((if g = f then 2 else 0) == 2)
    by_cases h : g = f
    · rw [if_pos h, h, beq_self_eq_true]; rfl
    · rw [if_neg h, beq_eq_false_iff_ne.mpr h]; rfl
/-- the floor of a lone saying asks only what is heard of that fact -/
theorem word_eq {r : Nat → Int32} {i f : Nat} (hf : f < 8) (e : Nat → Nat) : rFl r i (dg (3 ^ f)) e = rFl r i (dg (3 ^ f)) (fun _ => e f) := by
  have h : ∀ g, g < 8 → ¬ g = f → dg (3 ^ f) g = 0 := fun g hg hn => by rw [dg3 f hf g hg, if_neg hn]
  have e1 : nAs (dg (3 ^ f)) e = nAs (dg (3 ^ f)) (fun _ => e f) := cK_congr 8 (fun g hg => by
    by_cases q : g = f
    · rw [q]
    · rw [h g hg q]; rfl)
  have e2 : nOt (dg (3 ^ f)) e = nOt (dg (3 ^ f)) (fun _ => e f) := cK_congr 8 (fun g hg => by
    by_cases q : g = f
    · rw [q]
    · rw [h g hg q]; rfl)
  have e3 : nFr (dg (3 ^ f)) e = nFr (dg (3 ^ f)) (fun _ => e f) := cK_congr 8 (fun g hg => by
    by_cases q : g = f
    · rw [q]
    · rw [h g hg q]; rfl)
  unfold rFl rCr
  rw [e1, e2, e3]
def nV (r : Nat → Int32) (i f v : Nat) : Nat := (rFl r i (dg (3 ^ f)) (fun _ => v)).toNatClampNeg
theorem heldI_n (x : Int32) : ∃ n, n ≤ 9 ∧ heldI x 0 9 = nI n := by
  unfold heldI
  by_cases h1 : (0 : Int32) ≤ x
  · rw [if_pos h1]
    by_cases h2 : x ≤ 9
    · rw [if_pos h2]
      exact nI_of2 (n := 9) (by decide) (Int32.not_lt.mpr h1) h2
    · rw [if_neg h2]; exact ⟨9, by decide, rfl⟩
  · rw [if_neg h1]; exact ⟨0, by decide, rfl⟩
theorem nV_ok {r : Nat → Int32} {i f : Nat} (hf : f < 8) (v : Nat) : nV r i f v ≤ 9 ∧ rFl r i (dg (3 ^ f)) (fun _ => v) = nI (nV r i f v) := by
  have h0 : ¬ nK (dg (3 ^ f)) 8 = 0 := by
    rw [nK_small (dg3p f hf)]
    have := (p3_lt f hf).2
    omega
  have e : rFl r i (dg (3 ^ f)) (fun _ => v) = heldI (rCr r i (dg (3 ^ f)) (fun _ => v)) 0 9 := if_neg h0
  obtain ⟨n, hn, e2⟩ := heldI_n (rCr r i (dg (3 ^ f)) (fun _ => v))
  unfold nV
  rw [e, e2, nI_clamp (by omega)]
  exact ⟨hn, rfl⟩
def Gf (r : Nat → Int32) (i : Nat) (seen : Nat → Nat → Bool) (f : Nat) : Int32 := (gg (ox (seen f 0) (nV r i f 0)) ||| gg (ox (seen f 1) (nV r i f 1))) ||| gg (ox (seen f 2) (nV r i f 2))
theorem Gf_0 {r : Nat → Int32} {i f : Nat} {seen : Nat → Nat → Bool} (h0 : seen f 0 = false) (h1 : seen f 1 = false) (h2 : seen f 2 = false) : Gf r i seen f = 0 := by
  unfold Gf
  rw [h0, h1, h2, gg_f, gg_f, gg_f]
  decide
def seeE (seen : Nat → Nat → Bool) (e : Nat → Nat) : Nat → Nat → Bool := fun f v => seen f v || e f == v
theorem Gf_e {r : Nat → Int32} {i f : Nat} (hf : f < 8) (seen : Nat → Nat → Bool) {e : Nat → Nat} (he : e f < 3) : Gf r i (seeE seen e) f = Gf r i seen f ||| jshl 1 (rFl r i (dg (3 ^ f)) e) := by
  rw [word_eq hf e]
  have n0 := nV_ok (r := r) (i := i) hf 0
  have n1 := nV_ok (r := r) (i := i) hf 1
  have n2 := nV_ok (r := r) (i := i) hf 2
  unfold Gf seeE
  rcases lt3 he with h | h | h <;> rw [h]
  · rw [n0.2, show ((0 : Nat) == 0) = true from rfl, show ((0 : Nat) == 1) = false from rfl, show ((0 : Nat) == 2) = false from rfl, Bool.or_true, Bool.or_false, Bool.or_false, gg_t n0.1]
    cases seen f 0
    · rw [gg_f, Int32.zero_or, Int32.or_comm (_ ||| _) (jshl 1 _), ← Int32.or_assoc]
    · rw [gg_t n0.1]
      exact (or_a1 _ _ _).symm
  · rw [n1.2, show ((1 : Nat) == 0) = false from rfl, show ((1 : Nat) == 1) = true from rfl, show ((1 : Nat) == 2) = false from rfl, Bool.or_true, Bool.or_false, Bool.or_false, gg_t n1.1]
    cases seen f 1
    · rw [gg_f, Int32.or_zero, or_sw]
    · rw [gg_t n1.1, or_sw, or_a3]
  · rw [n2.2, show ((2 : Nat) == 0) = false from rfl, show ((2 : Nat) == 1) = false from rfl, show ((2 : Nat) == 2) = true from rfl, Bool.or_true, Bool.or_false, Bool.or_false, gg_t n2.1]
    cases seen f 2
    · rw [gg_f, Int32.or_zero]
    · rw [gg_t n2.1, or_a3]
theorem and_f (p q : Nat → Bool) {f : Nat} (hf : f < 8) : (eP p q &&& eP (fun g => g == f) (fun _ => false) = 0 ↔ p f = false) ∧ (eP p q &&& eP (fun _ => false) (fun g => g == f) = 0 ↔ q f = false) := by
  rw [eP_and, eP_and, eP_0]
  constructor
  · constructor
    · intro h
      have := (eP_inj h).1 f hf
      rw [beq_self_eq_true, Bool.and_true] at this
      exact this
    · intro h
      refine eP_congr (fun g _ => ?_) (fun g _ => Bool.and_false _)
      by_cases e : g = f
      · rw [e, h]; rfl
      · rw [beq_eq_false_iff_ne.mpr e, Bool.and_false]
  · constructor
    · intro h
      have := (eP_inj h).2 f hf
      rw [beq_self_eq_true, Bool.and_true] at this
      exact this
    · intro h
      refine eP_congr (fun g _ => Bool.and_false _) (fun g _ => ?_)
      by_cases e : g = f
      · rw [e, h]; rfl
      · rw [beq_eq_false_iff_ne.mpr e, Bool.and_false]
def fl (M : MS) (g : Nat → Int32) : MS := (fun c => if c = 11 then g else M.1 c, M.2)
section WORD
variable {RD : RDt} {S M : MS}
theorem fl_MK (g : Nat → Int32) : MK M (fl M g) := ⟨fun c hc => if_neg (by omega), fun _ _ => rfl⟩
theorem Rel.flo (R : Rel RD S M) (g : Nat → Int32) : Rel RD S (fl M g) := ⟨R.lf, R.xr.go SK.rf (fl_MK g), R.pow⟩
theorem fl_11 {e : Nat → Nat} {g : Nat → Int32} {N : MS} (T : Th (fl M g) e N) : N.1 11 = g := by
  obtain ⟨_, _, x, y, hM⟩ := T
  rw [hM.2.1 11 (by decide)]
  rfl
theorem fl_put {e : Nat → Nat} {g : Nat → Int32} {N : MS} (T : Th (fl M g) e N) (k : Nat) (v : Int32) : Th (fl M (upd g k v)) e (sA N 11 k v) := by
  have h11 := fl_11 T
  obtain ⟨he, hP, x, y, hM⟩ := T
  refine ⟨he, hP, x, y, hM.1, fun c hc => ?_, hM.2.2⟩
  show (if c = 11 then upd (N.1 11) k v else N.1 c) = (if c = 3 then M.1 1 else if c = 11 then upd g k v else M.1 c)
  by_cases h : c = 11
  · rw [if_pos h, h, h11]; rfl
  · rw [if_neg h, hM.2.1 c hc]
    show (if c = 3 then M.1 1 else if c = 11 then g else M.1 c) = _
    rw [if_neg h]
    by_cases h3 : c = 3
    · rw [if_pos h3, if_pos h3]
    · rw [if_neg h3, if_neg h3, if_neg h]
theorem unlike (R : Rel RD S M) {i f : Nat} (hi : i < 6) (hf : f < 8) (seen : Nat → Nat → Bool) : f_X11_unlikeFloors RD (nI i) (nI f) (eP (fun g => seen g 1) (fun g => seen g 2)) (eP (fun g => seen g 0) (fun _ => false)) S = some (nI (cn (ox (seen f 0) (nV (M.1 1) i f 0)) (ox (seen f 1) (nV (M.1 1) i f 1)) (ox (seen f 2) (nV (M.1 1) i f 2))), S) := by
  have L := R.lf
  have hW := L.wf
  have n0 := nV_ok (r := M.1 1) (i := i) hf 0
  have n1 := nV_ok (r := M.1 1) (i := i) hf 1
  have n2 := nV_ok (r := M.1 1) (i := i) hf 2
  have z3 : D3 (fun _ => 0) := fun _ _ => Nat.zero_lt_succ 2
  have o3 : D3 (fun g => if g = f then 2 else 0) := fun g _ => by
    show (if g = f then 2 else 0) < 3
    split <;> decide
  have e0 : eD (fun _ => 0) = 0 := by unfold eD; exact eP_0.symm
  have f0 := c_floor hW L.abc hi (dg_D3 (3 ^ f)) z3
  rw [e0, n0.2, ← story_eP hf] at f0
  have f1 := c_floor hW L.abc hi (dg_D3 (3 ^ f)) (dg_D3 (3 ^ f))
  rw [word_eq hf (dg (3 ^ f)), dg3 f hf f hf, if_pos rfl, n1.2, ← story_eP hf] at f1
  have f2 := c_floor hW L.abc hi (dg_D3 (3 ^ f)) o3
  rw [word_eq hf (fun g => if g = f then 2 else 0)] at f2
  rw [show (fun _ : Nat => if f = f then 2 else 0) = (fun _ => 2) from funext fun _ => if_pos rfl, n2.2, ← story_eP hf, ← opp_eP hf] at f2
  have hc := (cnt_all _ (ox_lt (s := seen f 0) n0.1) _ (ox_lt (s := seen f 1) n1.1) _ (ox_lt (s := seen f 2) n2.1)).1
  obtain ⟨a0, _⟩ := and_f (fun g => seen g 0) (fun _ => false) hf
  obtain ⟨a1, a2⟩ := and_f (fun g => seen g 1) (fun g => seen g 2) hf
  have h93 : ∀ x7 : Int32, x7 = (hh (ox (seen f 0) (nV (M.1 1) i f 0)) ||| hh (ox (seen f 1) (nV (M.1 1) i f 1))) ||| hh (ox (seen f 2) (nV (M.1 1) i f 2)) → f_X11_unlikeFloors_93 RD x7 S = some (nI (cn (ox (seen f 0) (nV (M.1 1) i f 0)) (ox (seen f 1) (nV (M.1 1) i f 1)) (ox (seen f 2) (nV (M.1 1) i f 2))), S) := fun x7 h => by
    rw [h]
    exact csE hc rfl
  have h67 : ∀ x7 : Int32, x7 = hh (ox (seen f 0) (nV (M.1 1) i f 0)) ||| hh (ox (seen f 1) (nV (M.1 1) i f 1)) → f_X11_unlikeFloors_67 RD (nI i) (eP (fun g => seen g 1) (fun g => seen g 2)) (eP (fun g => g == f) (fun _ => false)) (eP (fun _ => false) (fun g => g == f)) x7 S = some (nI (cn (ox (seen f 0) (nV (M.1 1) i f 0)) (ox (seen f 1) (nV (M.1 1) i f 1)) (ox (seen f 2) (nV (M.1 1) i f 2))), S) := fun x7 h => by
    unfold f_X11_unlikeFloors_67
    rcases Bool.eq_false_or_eq_true (seen f 2) with q | q
    · refine iteF (fun z => by have := a2.mp z; rw [q] at this; cases this) (cbE f2 (bIE ?_))
      rw [sL_self]
      exact h93 _ (by rw [h, q, hh_t n2.1])
    · exact iteT (a2.mpr q) (by exact h93 x7 (by rw [h, q, hh_f, Int32.or_zero]))
  have h41 : ∀ x7 : Int32, x7 = hh (ox (seen f 0) (nV (M.1 1) i f 0)) → f_X11_unlikeFloors_41 RD (nI i) (eP (fun g => seen g 1) (fun g => seen g 2)) (eP (fun g => g == f) (fun _ => false)) (eP (fun _ => false) (fun g => g == f)) x7 S = some (nI (cn (ox (seen f 0) (nV (M.1 1) i f 0)) (ox (seen f 1) (nV (M.1 1) i f 1)) (ox (seen f 2) (nV (M.1 1) i f 2))), S) := fun x7 h => by
    unfold f_X11_unlikeFloors_41
    rcases Bool.eq_false_or_eq_true (seen f 1) with q | q
    · refine iteF (fun z => by have := a1.mp z; rw [q] at this; cases this) (cbE f1 (bIE ?_))
      rw [sL_self]
      exact h67 _ (by rw [h, q, hh_t n1.1])
    · exact iteT (a1.mpr q) (by exact h67 x7 (by rw [h, q, hh_f, Int32.or_zero]))
  have e1 : f_X11_turned (eP (fun g => g == f) (fun _ => false)) = some (eP (fun _ => false) (fun g => g == f)) := v_turned _ _
  unfold f_X11_unlikeFloors
  refine bIE ?_
  rw [one_shl f hf]
  refine csE e1 ?_
  rcases Bool.eq_false_or_eq_true (seen f 0) with q | q
  · refine iteF (fun z => by have := a0.mp z; rw [q] at this; cases this) (cbE f0 (bIE ?_))
    rw [sL_self]
    exact h41 _ (by rw [q, hh_t n0.1, Int32.zero_or])
  · exact iteT (a0.mpr q) (by exact h41 0 (by rw [q, hh_f]))
theorem word_126 (R : Rel RD S M) {i : Nat} (hi : i < 6) (lp : Int32 → Int32 → Int32 → Int32 → MS → Option (Int32 × MS)) (x1 x3 x4 : Int32) {e : Nat → Nat} : ∀ (j k fu : Nat) (g : Nat → Int32) (N : MS), k + j = 8 → j < fu → Th (fl M g) e N → ∃ (N2 : MS) (g2 : Nat → Int32), Th (fl M g2) e N2 ∧ (∀ f, f < 8 → g2 f = if k ≤ f then g f ||| jshl 1 (rFl (M.1 1) i (dg (3 ^ f)) e) else g f) ∧ f_X12_word_126 lp fu x1 (nI i) x3 x4 (nI k) N = f_X12_word_163 lp x1 (nI i) x3 x4 N2 := by
  intro j
  induction j with
  | zero =>
    intro k fu g N hk hf T
    obtain rfl : k = 8 := by omega
    obtain ⟨fu, rfl⟩ : ∃ z, fu = z + 1 := ⟨fu - 1, by omega⟩
    refine ⟨N, g, T, fun f hf => (if_neg (by omega)).symm, ?_⟩
    simp only [f_X12_word_126]
    exact iteT (by decide) rfl
  | succ j ih =>
    intro k fu g N hk hf T
    obtain ⟨fu, rfl⟩ : ∃ z, fu = z + 1 := ⟨fu - 1, by omega⟩
    have hk8 : k < 8 := by omega
    obtain ⟨N1, T1, t1⟩ := th_floor (R.flo g) T hi (dg3p k hk8)
    have h11 := fl_11 T
    obtain ⟨N2, g2, T2, q1, q2⟩ := ih (k + 1) fu _ _ (by omega) (by omega) (fl_put T1 k (g k ||| jshl 1 (rFl (M.1 1) i (dg (3 ^ k)) e)))
    refine ⟨N2, g2, T2, fun f hf => ?_, ?_⟩
    · rw [q1 f hf]
      by_cases h : f = k
      · subst h
        rw [if_neg (by omega), if_pos (Nat.le_refl f), upd_eq]
      · rw [upd_ne h]
        by_cases h2 : k ≤ f
        · rw [if_pos h2, if_pos (by omega)]
        · rw [if_neg h2, if_neg (by omega)]
    · refine iteF (h8k hk8) (gixE k rfl hk8 (by decide) (gixE k rfl hk8 (by decide) ?_))
      rw [T.2.1 k hk8]
      refine cbE t1 (bIE (gixE k rfl hk8 (by decide) (bIE ?_)))
      rw [h11, nI_1]
      exact q2
theorem rcnt_eq {x : Int32} {v : Int32} (h : rcnt x = some v) : ∃ r, f_X12_bits x = some r ∧ (r + ((jshr x 8) &&& 1)) + ((jshr x 9) &&& 1) = v := by
  unfold rcnt at h
  cases hb : f_X12_bits x with
  | none => rw [hb] at h; cases h
  | some r =>
    rw [hb] at h
    exact ⟨r, rfl, Option.some.inj h⟩
/-- the last search: the first fact with most floors -/
theorem word_end (R : Rel RD S M) {i : Nat} (hi : i < 6) (a : Int32) (seen : Nat → Nat → Bool) (hg : ∀ f, f < 8 → M.1 11 f = Gf (M.1 1) i seen f) : ∀ (j k fu fv b : Nat) (y : Int32), k + j = 8 → j < fu → j < fv → b < 8 → Two RD M (f_X11_bestWord_9 RD fu (nI i) (eP (fun g => seen g 1) (fun g => seen g 2)) (eP (fun g => seen g 0) (fun _ => false)) a (nI b) y (nI k) S) (f_X12_word_190 fv a (nI b) y (nI k) M) := by
  intro j
  induction j with
  | zero =>
    intro k fu fv b y hk hf hg2 hb
    obtain rfl : k = 8 := by omega
    obtain ⟨fu, rfl⟩ : ∃ z, fu = z + 1 := ⟨fu - 1, by omega⟩
    obtain ⟨fv, rfl⟩ : ∃ z, fv = z + 1 := ⟨fv - 1, by omega⟩
    have hp : (0 : Int32) ≤ nI b := nI_pos' (by omega)
    by_cases h : a = 0
    · refine Two.same R (v := nI b) (M2 := M) ?_ ?_ ME.rf
      · simp only [f_X11_bestWord_9]
        exact iteT (by decide) (iteT h rfl)
      · simp only [f_X12_word_190]
        exact iteT (by decide) (iteT hp (iteT h rfl))
    · refine Two.same R (v := y) (M2 := M) ?_ ?_ ME.rf
      · simp only [f_X11_bestWord_9]
        exact iteT (by decide) (iteF h rfl)
      · simp only [f_X12_word_190]
        exact iteT (by decide) (iteT hp (iteF h rfl))
  | succ j ih =>
    intro k fu fv b y hk hf hg2 hb
    obtain ⟨fu, rfl⟩ : ∃ z, fu = z + 1 := ⟨fu - 1, by omega⟩
    obtain ⟨fv, rfl⟩ : ∃ z, fv = z + 1 := ⟨fv - 1, by omega⟩
    have hk8 : k < 8 := by omega
    have n0 := nV_ok (r := M.1 1) (i := i) hk8 0
    have n1 := nV_ok (r := M.1 1) (i := i) hk8 1
    have n2 := nV_ok (r := M.1 1) (i := i) hk8 2
    have hu := unlike R hi hk8 seen
    have hr := (cnt_all _ (ox_lt (s := seen k 0) n0.1) _ (ox_lt (s := seen k 1) n1.1) _ (ox_lt (s := seen k 2) n2.1)).2
    have hgk : M.1 11 k = (gg (ox (seen k 0) (nV (M.1 1) i k 0)) ||| gg (ox (seen k 1) (nV (M.1 1) i k 1))) ||| gg (ox (seen k 2) (nV (M.1 1) i k 2)) := hg k hk8
    rw [← hgk] at hr
    obtain ⟨r, r1, r2⟩ := rcnt_eq hr
    generalize hv : nI (cn (ox (seen k 0) (nV (M.1 1) i k 0)) (ox (seen k 1) (nV (M.1 1) i k 1)) (ox (seen k 2) (nV (M.1 1) i k 2))) = v at hu r2
    have cgo : ∀ u, (if (v ≤ y : Prop) then f_X11_bestWord_42 RD (f_X11_bestWord_9 RD fu) (nI i) (eP (fun g => seen g 1) (fun g => seen g 2)) (eP (fun g => seen g 0) (fun _ => false)) a (nI b) y (nI k) S else f_X11_bestWord_42 RD (f_X11_bestWord_9 RD fu) (nI i) (eP (fun g => seen g 1) (fun g => seen g 2)) (eP (fun g => seen g 0) (fun _ => false)) a (nI k) v (nI k) S) = u → f_X11_bestWord_9 RD (fu + 1) (nI i) (eP (fun g => seen g 1) (fun g => seen g 2)) (eP (fun g => seen g 0) (fun _ => false)) a (nI b) y (nI k) S = u := fun u h => iteF (h8k hk8) (cbE hu h)
    have rgo : ∀ u, (if (v ≤ y : Prop) then f_X12_word_249 (f_X12_word_190 fv) a y (nI k) v (nI b) M else f_X12_word_249 (f_X12_word_190 fv) a y (nI k) v (nI k) M) = u → f_X12_word_190 (fv + 1) a (nI b) y (nI k) M = u := fun u h => by
      refine iteF (h8k hk8) (gixE k rfl hk8 (by decide) (csE r1 (gixE k rfl hk8 (by decide) (gixE k rfl hk8 (by decide) (bIE ?_)))))
      rw [r2]
      exact h
    by_cases q : v ≤ y
    · refine Two.eqs (ih (k + 1) fu fv b y (by omega) (by omega) (by omega) hb) (fun u h => cgo _ (iteT q (bIE ?_))) (fun u h => rgo _ (iteT q (iteT q (bIE ?_))))
      · rw [nI_1]; exact h
      · rw [nI_1]; exact h
    · refine Two.eqs (ih (k + 1) fu fv k v (by omega) (by omega) (by omega) hk8) (fun u h => cgo _ (iteF q (bIE ?_))) (fun u h => rgo _ (iteF q (iteF q (bIE ?_))))
      · rw [nI_1]; exact h
      · rw [nI_1]; exact h
theorem bwE {RD : Nat → Nat × Int32 × Int32 × Int32} {n : Nat} {x1 : Int32} {x2 : Int32} {x3 : Int32} {x4 : Int32} {x5 : Int32} {x6 : Int32} {x7 : Int32} {N : MS} {u : Option (Int32 × MS)} (h : (if (8 ≤ x7 : Prop) then if (x4 = 0 : Prop) then some (x5, N) else some (x6, N) else cb (f_X11_unlikeFloors RD x1 x7 x2 x3 N) fun r5 S3 => if (r5 ≤ x6 : Prop) then f_X11_bestWord_42 RD (f_X11_bestWord_9 RD n) x1 x2 x3 x4 x5 x6 x7 S3 else f_X11_bestWord_42 RD (f_X11_bestWord_9 RD n) x1 x2 x3 x4 x7 r5 x7 S3) = u) : f_X11_bestWord_9 RD (n + 1) x1 x2 x3 x4 x5 x6 x7 N = u := h
theorem w190E  {n : Nat} {x3 : Int32} {x4 : Int32} {x5 : Int32} {x6 : Int32} {N : MS} {u : Option (Int32 × MS)} (h : (if (8 ≤ x6 : Prop) then if (0 ≤ x4 : Prop) then if (x3 = 0 : Prop) then some (x4, N) else some (x5, N) else cb (f_X12_errs (-1000000002) N) fun r28 S26 => some (r28, S26) else gix x6 8 fun k29 => cs (f_X12_bits (N.1 11 k29)) fun r30 => gix x6 8 fun k32 => gix x6 8 fun k33 => bI ((r30 + ((jshr (N.1 11 k32) 8) &&& 1)) + ((jshr (N.1 11 k33) 9) &&& 1)) fun v34 => if (v34 ≤ x5 : Prop) then f_X12_word_249 (f_X12_word_190 n) x3 x5 x6 v34 x4 N else f_X12_word_249 (f_X12_word_190 n) x3 x5 x6 v34 x6 N) = u) : f_X12_word_190  (n + 1) x3 x4 x5 x6 N = u := h
theorem word_first (R : Rel RD S M) {i : Nat} (hi : i < 6) (a : Int32) (seen : Nat → Nat → Bool) (hg : ∀ f, f < 8 → M.1 11 f = Gf (M.1 1) i seen f) (hs : ∃ v, v < 3 ∧ seen 0 v = true) : Two RD M (f_X11_bestWord RD (nI i) (eP (fun g => seen g 1) (fun g => seen g 2)) (eP (fun g => seen g 0) (fun _ => false)) a S) (f_X12_word_190 7000 a (-1) 0 0 M) := by
  have n0 := nV_ok (r := M.1 1) (i := i) (f := 0) (by decide) 0
  have n1 := nV_ok (r := M.1 1) (i := i) (f := 0) (by decide) 1
  have n2 := nV_ok (r := M.1 1) (i := i) (f := 0) (by decide) 2
  have hu := unlike R hi (f := 0) (by decide) seen
  have hr := (cnt_all _ (ox_lt (s := seen 0 0) n0.1) _ (ox_lt (s := seen 0 1) n1.1) _ (ox_lt (s := seen 0 2) n2.1)).2
  have hgk : M.1 11 0 = (gg (ox (seen 0 0) (nV (M.1 1) i 0 0)) ||| gg (ox (seen 0 1) (nV (M.1 1) i 0 1))) ||| gg (ox (seen 0 2) (nV (M.1 1) i 0 2)) := hg 0 (by decide)
  rw [← hgk] at hr
  obtain ⟨r, r1, r2⟩ := rcnt_eq hr
  have hpos : ∀ x y z : Nat, x ≤ 9 → y ≤ 9 → z ≤ 9 → 0 < cn (ox (seen 0 0) x) (ox (seen 0 1) y) (ox (seen 0 2) z) := fun x y z hx hy hz => by
    obtain ⟨v, hv, h⟩ := hs
    rcases lt3 hv with rfl | rfl | rfl
    · have e : ox (seen 0 0) x = x := by rw [h]; rfl
      rw [e]
      unfold cn
      rw [if_neg (by omega)]
      omega
    · have e : ox (seen 0 1) y = y := by rw [h]; rfl
      rw [e]
      unfold cn
      by_cases q : ox (seen 0 0) x = 10
      · rw [if_neg (show ¬ (y = 10 ∨ y = ox (seen 0 0) x) by omega)]
        omega
      · rw [if_neg q]; omega
    · have e : ox (seen 0 2) z = z := by rw [h]; rfl
      rw [e]
      unfold cn
      by_cases q : ox (seen 0 0) x = 10
      · by_cases q2 : ox (seen 0 1) y = 10
        · rw [if_neg (show ¬ (z = 10 ∨ z = ox (seen 0 0) x ∨ z = ox (seen 0 1) y) by omega)]
          omega
        · rw [if_neg (show ¬ (ox (seen 0 1) y = 10 ∨ ox (seen 0 1) y = ox (seen 0 0) x) by omega)]
          omega
      · rw [if_neg q]; omega
  have hp := hpos _ _ _ n0.1 n1.1 n2.1
  have hlt : ∀ x y z : Nat, cn x y z ≤ 3 := fun x y z => by
    unfold cn
    split <;> split <;> split <;> omega
  have hl := hlt (ox (seen 0 0) (nV (M.1 1) i 0 0)) (ox (seen 0 1) (nV (M.1 1) i 0 1)) (ox (seen 0 2) (nV (M.1 1) i 0 2))
  generalize cn (ox (seen 0 0) (nV (M.1 1) i 0 0)) (ox (seen 0 1) (nV (M.1 1) i 0 1)) (ox (seen 0 2) (nV (M.1 1) i 0 2)) = c at hu r2 hp hl
  have hn : ¬ nI c ≤ 0 := nI_nle hp (by omega)
  have cgo : ∀ (fu : Nat) u, f_X11_bestWord_9 RD fu (nI i) (eP (fun g => seen g 1) (fun g => seen g 2)) (eP (fun g => seen g 0) (fun _ => false)) a (nI 0) (nI c) (nI 1) S = u → f_X11_bestWord_9 RD (fu + 1) (nI i) (eP (fun g => seen g 1) (fun g => seen g 2)) (eP (fun g => seen g 0) (fun _ => false)) a 0 0 (nI 0) S = u := fun fu u h => bwE (iteF (h8k (k := 0) (by decide)) (cbE hu (iteF hn (bIE h))))
  have rgo : ∀ (fv : Nat) u, f_X12_word_190 fv a (nI 0) (nI c) (nI 1) M = u → f_X12_word_190 (fv + 1) a (-1) 0 (nI 0) M = u := fun fv u h => by
    refine w190E <| iteF (h8k (k := 0) (by decide)) (gixE 0 rfl (by decide) (by decide) (csE r1 (gixE 0 rfl (by decide) (by decide) (gixE 0 rfl (by decide) (by decide) (bIE ?_)))))
    rw [r2]
    exact iteF hn (iteF hn (bIE h))
  exact Two.eqs (word_end R hi a seen hg 7 1 99 6999 0 (nI c) (by decide) (by decide) (by decide) (by decide)) (fun u h => cgo 99 u h) (fun u h => rgo 6999 u h)
theorem word_none (R : Rel RD S M) {i : Nat} (a : Int32) (hg : ∀ f, f < 8 → M.1 11 f = 0) : ∀ (j k fv : Nat), k + j = 8 → j < fv → Two RD M (cb (f_X11_error RD 2 S) fun r26 S24 => some (r26, S24)) (f_X12_word_190 fv a (-1) 0 (nI k) M) := by
  have hb : f_X12_bits 0 = some 0 := by decide +kernel
  intro j
  induction j with
  | zero =>
    intro k fv hk hf
    obtain rfl : k = 8 := by omega
    obtain ⟨fv, rfl⟩ : ∃ z, fv = z + 1 := ⟨fv - 1, by omega⟩
    refine two_err R 2 2 (-1000000002) (by decide) rfl (by decide) (fun y T h => cbE h rfl) (fun y T h => ?_)
    simp only [f_X12_word_190]
    exact iteT (by decide) (iteF (by decide) (cbE h rfl))
  | succ j ih =>
    intro k fv hk hf
    obtain ⟨fv, rfl⟩ : ∃ z, fv = z + 1 := ⟨fv - 1, by omega⟩
    have hk8 : k < 8 := by omega
    refine Two.eqs (ih (k + 1) fv (by omega) (by omega)) (fun u h => h) (fun u h => iteF (h8k hk8) (gixE k rfl hk8 (by decide) ?_))
    rw [hg k hk8]
    refine csE hb (gixE k rfl hk8 (by decide) (gixE k rfl hk8 (by decide) (bIE ?_)))
    rw [hg k hk8]
    refine iteT (by decide) ?_
    unfold f_X12_word_249
    refine iteT (by decide) (bIE ?_)
    rw [nI_1]
    exact h
theorem word_loop (R : Rel RD S M) {s n i : Nat} (hs : s < 4) (hm : ¬ M.1 7 s = 0) (h8 : M.1 8 s = nI n) (hn : n ≤ rN (M.1 1)) (hi : i < 6) (a : Int32) : ∀ (j k fu fv : Nat) (e : Nat → Nat) (N : MS) (seen : Nat → Nat → Bool) (g : Nat → Int32), k + j = 6561 → j < fu → j < fv → Th (fl M g) e N → (∀ f, f < 8 → g f = Gf (M.1 1) i seen f) → ((∀ f v, f < 8 → seen f v = false) ∨ (∀ f, f < 8 → ∃ v, v < 3 ∧ seen f v = true)) → Two RD M (f_X11_word_65 RD fu (nI i) a s (eP (fun g => seen g 1) (fun g => seen g 2)) (eP (fun g => seen g 0) (fun _ => false)) (eD (dg k)) (nI k) S) (f_X12_word_101 fv (nI s) (nI i) a (nI k) N) := by
  intro j
  induction j with
  | zero =>
    intro k fu fv e N seen g hk hf hg T hG hseen
    obtain rfl : k = 6561 := by omega
    obtain ⟨fu, rfl⟩ : ∃ z, fu = z + 1 := ⟨fu - 1, by omega⟩
    obtain ⟨fv, rfl⟩ : ∃ z, fv = z + 1 := ⟨fv - 1, by omega⟩
    have hle : (6561 : Int32) ≤ nI 6561 := by decide
    obtain ⟨R2, b1, b2⟩ := th_back (R.flo g) T
    have h11 : (sM N 3 1).1 11 = g := (show N.1 11 = g from fl_11 T)
    have hrow : (sM N 3 1).1 1 = M.1 1 := by
      obtain ⟨_, _, x, y, hM⟩ := T
      exact hM.2.1 3 (by decide)
    have hr : ∀ u, f_X12_word_190 7000 a (-1) 0 0 (sM N 3 1) = u → f_X12_word_101 (fv + 1) (nI s) (nI i) a (nI 6561) N = u := fun u h => by
      have e2 : ∀ k : Nat, (6561 : Int32) ≤ nI k → f_X12_word_101 (fv + 1) (nI s) (nI i) a (nI k) N = f_X12_word_190 7000 a (-1) 0 0 (sM N 3 1) := fun k hk => iteT hk rfl
      exact (e2 6561 hle).trans h
    have hc : ∀ (x5 x6 : Int32) u, (if (x5 = 0 : Prop) then if (x6 = 0 : Prop) then cb (f_X11_error RD 2 S) fun r26 S24 => some (r26, S24) else f_X11_word_139 RD (nI i) a x5 x6 S else f_X11_word_139 RD (nI i) a x5 x6 S) = u → f_X11_word_65 RD (fu + 1) (nI i) a s x5 x6 (eD (dg 6561)) (nI 6561) S = u := fun x5 x6 u h => by
      have e2 : ∀ k : Nat, (6561 : Int32) ≤ nI k → f_X11_word_65 RD (fu + 1) (nI i) a s x5 x6 (eD (dg 6561)) (nI k) S = (if (x5 = 0 : Prop) then if (x6 = 0 : Prop) then cb (f_X11_error RD 2 S) fun r26 S24 => some (r26, S24) else f_X11_word_139 RD (nI i) a x5 x6 S else f_X11_word_139 RD (nI i) a x5 x6 S) := fun k hk => iteT hk rfl
      exact (e2 6561 hle).trans h
    rcases hseen with h0 | h1
    · have z1 : eP (fun g => seen g 1) (fun g => seen g 2) = 0 := by rw [eP_0]; exact eP_congr (fun f hf => h0 f 1 hf) (fun f hf => h0 f 2 hf)
      have z2 : eP (fun g => seen g 0) (fun _ => false) = 0 := by rw [eP_0]; exact eP_congr (fun f hf => h0 f 0 hf) (fun f hf => rfl)
      have hz : ∀ f, f < 8 → (sM N 3 1).1 11 f = 0 := fun f hf => by
        rw [h11, hG f hf]
        exact Gf_0 (h0 f 0 hf) (h0 f 1 hf) (h0 f 2 hf)
      exact Two.tr (M := M) (Two.eqs (word_none (i := i) R2 a hz 8 0 7000 (by decide) (by decide)) (fun u h => hc _ _ _ (iteT z1 (iteT z2 h))) (fun u h => hr _ h)) b1 b2
    · have hz : ∀ f, f < 8 → (sM N 3 1).1 11 f = Gf ((sM N 3 1).1 1) i seen f := fun f hf => by
        rw [h11, hrow]; exact hG f hf
      have hne : ¬ (eP (fun g => seen g 1) (fun g => seen g 2) = 0 ∧ eP (fun g => seen g 0) (fun _ => false) = 0) := fun z => by
        obtain ⟨v, hv, hv2⟩ := h1 0 (by decide)
        rw [eP_0] at z
        have z1 := eP_inj z.1
        have z2 := eP_inj z.2
        rcases lt3 hv with rfl | rfl | rfl
        · have := z2.1 0 (by decide); rw [hv2] at this; cases this
        · have := z1.1 0 (by decide); rw [hv2] at this; cases this
        · have := z1.2 0 (by decide); rw [hv2] at this; cases this
      refine Two.tr (M := M) (Two.eqs (word_first R2 hi a seen hz (h1 0 (by decide))) (fun u h => hc _ _ _ ?_) (fun u h => hr _ h)) b1 b2
      have h139 : f_X11_word_139 RD (nI i) a (eP (fun g => seen g 1) (fun g => seen g 2)) (eP (fun g => seen g 0) (fun _ => false)) S = u := by
        unfold f_X11_word_139
        rw [h]
        cases u <;> rfl
      by_cases y1 : eP (fun g => seen g 1) (fun g => seen g 2) = 0
      · exact iteT y1 (iteF (fun y2 => hne ⟨y1, y2⟩) h139)
      · exact iteF y1 h139
  | succ j ih =>
    intro k fu fv e N seen g hk hf hg T hG hseen
    obtain ⟨fu, rfl⟩ : ∃ z, fu = z + 1 := ⟨fu - 1, by omega⟩
    obtain ⟨fv, rfl⟩ : ∃ z, fv = z + 1 := ⟨fv - 1, by omega⟩
    have hk6 : k < 6561 := by omega
    have hle : ¬ (6561 : Int32) ≤ nI k := fun z => nI_ge (a := k) (b := 6561) hk6 (by decide) z
    have hnx := v_next hk6
    obtain ⟨N1, T1, t1⟩ := th_set T hk6
    obtain ⟨b, N2, T2, k1, k2⟩ := hasF (R.flo g) hs hm h8 hn T1
    have c110 : ∀ (x5 x6 : Int32) u, f_X11_word_65 RD fu (nI i) a s x5 x6 (eD (dg (k + 1))) (nI (k + 1)) S = u → f_X11_word_110 RD (f_X11_word_65 RD fu) (nI i) a s x5 x6 (eD (dg k)) (nI k) S = u := fun x5 x6 u h => by
      refine csE hnx (bIE ?_)
      rw [nI_1]; exact h
    cases b
    · refine Two.eqs (ih (k + 1) fu fv _ N2 seen g (by omega) (by omega) (by omega) T2 hG hseen) (fun u h => iteF hle (gkE hs (cbE k1 (iteT rfl ?_)))) (fun u h => iteF hle (cbE t1 (cbE k2 (iteT rfl (bIE ?_)))))
      · rw [sL_self]; exact c110 _ _ u h
      · rw [nI_1]; exact h
    · obtain ⟨N3, g3, T3, q1, q2⟩ := word_126 R hi (f_X12_word_101 fv) (nI s) a (nI k) 8 0 7000 g N2 (by decide) (by decide) T2
      have hG3 : ∀ f, f < 8 → g3 f = Gf (M.1 1) i (seeE seen (dg k)) f := fun f hf => by
        rw [q1 f hf, if_pos (Nat.zero_le f), Gf_e hf seen (dg_lt k f), hG f hf]
      have hseen3 : ∀ f, f < 8 → ∃ v, v < 3 ∧ seeE seen (dg k) f v = true := fun f hf => ⟨dg k f, dg_lt k f, by unfold seeE; rw [beq_self_eq_true, Bool.or_true]⟩
      have e5 : eP (fun g => seen g 1) (fun g => seen g 2) ||| eD (dg k) = eP (fun g => seeE seen (dg k) g 1) (fun g => seeE seen (dg k) g 2) := by
        unfold eD
        rw [eP_or]
        rfl
      have e6 : eP (fun g => seen g 0) (fun _ => false) ||| (255 &&& (eP (fun f => dg k f == 1 || dg k f == 2) (fun _ => false) ^^^ (-1))) = eP (fun g => seeE seen (dg k) g 0) (fun _ => false) := by
        rw [mask_255, eP_andn, eP_or]
        refine eP_congr (fun f _ => ?_) (fun f _ => rfl)
        unfold seeE
        rcases lt3 (dg_lt k f) with h | h | h <;> rw [h] <;> rfl
      have c3 : f_X11_factsOf (eD (dg k)) = some (eP (fun f => dg k f == 1 || dg k f == 2) (fun _ => false)) := v_factsOf _ _
      refine Two.eqs (ih (k + 1) fu fv _ N3 (seeE seen (dg k)) g3 (by omega) (by omega) (by omega) T3 hG3 (Or.inr hseen3)) (fun u h => iteF hle (gkE hs (cbE k1 (iteF (by decide) (bIE (csE c3 (bIE ?_))))))) (fun u h => iteF hle (cbE t1 (cbE k2 (iteF (by decide) (q2.trans (bIE ?_))))))
      · rw [sL_self, e5, e6]; exact c110 _ _ u h
      · rw [nI_1]; exact h
/-- the floors are nothing at first -/
theorem word_zero (R : Rel RD S M) (x1 x2 x3 : Int32) : ∀ (j k fu : Nat) (g : Nat → Int32), k + j = 8 → j < fu → (∀ f, f < k → g f = 0) → ∃ g2 : Nat → Int32, (∀ f, f < 8 → g2 f = 0) ∧ f_X12_word_65 fu x1 x2 x3 (nI k) (fl M g) = f_X12_word_101 7000 x1 x2 x3 0 (sM (fl M g2) 1 3) := by
  intro j
  induction j with
  | zero =>
    intro k fu g hk hf h
    obtain rfl : k = 8 := by omega
    obtain ⟨fu, rfl⟩ : ∃ z, fu = z + 1 := ⟨fu - 1, by omega⟩
    have e : ∀ k : Nat, (8 : Int32) ≤ nI k → f_X12_word_65 (fu + 1) x1 x2 x3 (nI k) (fl M g) = f_X12_word_101 7000 x1 x2 x3 0 (sM (fl M g) 1 3) := fun k hk => iteT hk rfl
    exact ⟨g, h, e 8 h88⟩
  | succ j ih =>
    intro k fu g hk hf h
    obtain ⟨fu, rfl⟩ : ∃ z, fu = z + 1 := ⟨fu - 1, by omega⟩
    have hk8 : k < 8 := by omega
    obtain ⟨g2, q1, q2⟩ := ih (k + 1) fu (upd g k 0) (by omega) (by omega) (fun f hf => by
      by_cases e : f = k
      · subst e; rw [upd_eq]
      · rw [upd_ne e]; exact h f (by omega))
    have e : sA (fl M g) 11 k 0 = fl M (upd g k 0) := by
      refine Prod.ext (funext fun c => ?_) rfl
      show (if c = 11 then upd (if 11 = 11 then g else M.1 11) k 0 else if c = 11 then g else M.1 c) = (if c = 11 then upd g k 0 else M.1 c)
      by_cases h : c = 11
      · rw [if_pos h, if_pos h, if_pos rfl]
      · rw [if_neg h, if_neg h, if_neg h]
    refine ⟨g2, q1, iteF (h8k hk8) (gixE k rfl hk8 (by decide) (bIE ?_))⟩
    rw [nI_1, e]
    exact q2
theorem fl_self : fl M (M.1 11) = M := by
  refine Prod.ext (funext fun c => ?_) rfl
  show (if c = 11 then M.1 11 else M.1 c) = M.1 c
  by_cases h : c = 11
  · rw [if_pos h, h]
  · rw [if_neg h]
theorem two_word (R : Rel RD S M) (a b c : Int32) : Two RD M (f_X11_word RD a b c S) (f_X12_word a b c M) := by
  cases h1 : inR a 4
  · exact two_err R 1 1 (-1000000001) (by decide) rfl (by decide) (fun y T h => csE (c_isSheet a) (iteT (b0 h1) (cbE h rfl))) (fun y T h => csE (r_isSheet a) (iteT (b0 h1) (cbE h rfl)))
  cases h2 : inR b (rN (M.1 1))
  · exact two_err R 1 1 (-1000000001) (by decide) rfl (by decide) (fun y T h => csE (c_isSheet a) (iteF (b1n h1) (cbE (R.cR b) (iteT (b0 h2) (cbE h rfl))))) (fun y T h => csE (r_isSheet a) (iteF (b1n h1) (cbE (R.rR b) (iteT (b0 h2) (cbE h rfl)))))
  cases h3 : inR c 2
  · refine two_err R 1 1 (-1000000001) (by decide) rfl (by decide) (fun y T h => ?_) (fun y T h => csE (r_isSheet a) (iteF (b1n h1) (cbE (R.rR b) (iteF (b1n h2) (csE (r_in (by decide)) (iteT (b0 h3) (cbE h rfl)))))))
    rcases rng_out h3 1 (by decide) with h0 | ⟨h0, h6⟩
    · exact csE (c_isSheet a) (iteF (b1n h1) (cbE (R.cR b) (iteF (b1n h2) (iteT h0 (cbE h rfl)))))
    · exact csE (c_isSheet a) (iteF (b1n h1) (cbE (R.cR b) (iteF (b1n h2) (iteF h0 (iteF h6 (cbE h rfl))))))
  · obtain ⟨s, hs, rfl, _⟩ := inR_t h1
    obtain ⟨i, hi, rfl, _⟩ := inR_t h2
    obtain ⟨h0, h6⟩ := rng_in h3
    have h6 := h6 1 (by decide)
    have hn7 := R.n7
    have ct := c_tells R hs
    have cgo : ∀ u, (if (tI (decide (¬ M.1 7 s = 0 ∧ M.1 8 s ≤ M.1 1 3)) = 0 : Prop) then cb (f_X11_error RD 2 S) fun r41 S39 => some (r41, S39) else f_X11_word_65 RD 7000 (nI i) c s 0 0 0 0 S) = u → f_X11_word RD (nI s) (nI i) c S = u := fun u h => csE (c_isSheet _) (iteF (b1n h1) (cbE (R.cR _) (iteF (b1n h2) (iteF h0 (iteT h6 (gixE s rfl hs (by decide) (cbE ct h)))))))
    have rgo : ∀ u, (if (M.1 7 s = 0 : Prop) then f_X12_word_55 M else gix (nI s) 4 fun k19 => if ((M.1 8 k19) ≤ (M.1 1 3) : Prop) then f_X12_word_65 7000 (nI s) (nI i) c 0 M else f_X12_word_55 M) = u → f_X12_word (nI s) (nI i) c M = u := fun u h => csE (r_isSheet _) (iteF (b1n h1) (cbE (R.rR _) (iteF (b1n h2) (csE (r_in (by decide)) (iteF (b1n h3) (gixE s rfl hs (by decide) h))))))
    rcases tells_cases R hs with hc | ⟨hm, hl, n, hn, h8⟩
    · rw [decide_eq_false hc] at cgo
      refine two_err R 2 2 (-1000000002) (by decide) rfl (by decide) (fun y T h => cgo _ (iteT rfl (cbE h rfl))) (fun y T h => rgo _ ?_)
      by_cases hm : M.1 7 s = 0
      · exact iteT hm (cbE h rfl)
      · exact iteF hm (gixE s rfl hs (by decide) (iteF (fun z => hc ⟨hm, z⟩) (cbE h rfl)))
    · rw [decide_eq_true (show ¬ M.1 7 s = 0 ∧ M.1 8 s ≤ M.1 1 3 from ⟨hm, hl⟩)] at cgo
      obtain ⟨g2, q1, q2⟩ := word_zero R (nI s) (nI i) c 8 0 7000 (M.1 11) (by decide) (by decide) (fun f hf => absurd hf (Nat.not_lt_zero f))
      rw [fl_self] at q2
      have T := th_0 (R.flo g2)
      have l := word_loop R hs hm h8 hn (i := i) (by omega) c 6561 0 7000 7000 _ _ (fun _ _ => false) g2 (by decide) (by decide) (by decide) T (fun f hf => (q1 f hf).trans (Gf_0 rfl rfl rfl).symm) (Or.inl (fun _ _ _ => rfl))
      refine Two.eqs l (fun u h => cgo _ (iteF (by decide) ?_)) (fun u h => rgo _ (iteF hm (gixE s rfl hs (by decide) (iteT hl (q2.trans h)))))
      rw [dg0, ← eP_0] at h
      exact h
end WORD

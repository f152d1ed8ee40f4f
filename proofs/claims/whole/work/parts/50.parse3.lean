/-! ===== product, sum, both, either ===== -/
theorem byte_ne {b c : Nat} (hb : b < 256) (hc : c < 128) (h : ¬ b = c) : ¬ ji2b (nI b) = nI c := fun q => h ((byte_eq b hb c hc).mp q)
theorem r_pk {u : Nat} {F : Nat → Int32} {B : Nat → Nat} {M : MS} {en o p : Nat} (hT : TX u F B M en) (hp : p ≤ en) (ok : Bool) : ∃ c : Int32, f_X12_byteAt ((RS M o p ok).2 6) (RS M o p ok) = some (c, RS M o p ok) ∧ ∀ x, x < 128 → c = nI x → p < en ∧ B p = x := by
  have h50 := hT.1
  by_cases hpe : p < en
  · refine ⟨nI (B p), r_at hT ok hpe, fun x hx h => ⟨hpe, ?_⟩⟩
    have := (hT.2.2.2.2 p hpe).2.1
    exact (nI_eq (by omega) (by omega)).mp h
  · refine ⟨-1, r_end hT ok (by omega) (by omega), fun x hx h => ?_⟩
    have h2 := nI_pos' (n := x) (by omega)
    rw [← h] at h2
    exact absurd h2 (by decide)
def opP (b : Nat) : Bool := decide (b = 42) || decide (b = 47) || decide (b = 37)
def opS (b : Nat) : Bool := decide (b = 43) || decide (b = 45)
def opB (b : Nat) : Bool := decide (b = 38)
def opE (b : Nat) : Bool := decide (b = 124)
def fP (b : Nat) (v r : Int32) : Int32 := if b = 42 then v * r else if r = 0 then 0 else if b = 47 then v / r else jrem v r
def fS (b : Nat) (v r : Int32) : Int32 := if b = 43 then v + r else v - r
def fB (_ : Nat) (v r : Int32) : Int32 := if v = 0 then 0 else if r = 0 then 0 else 1
def fE (_ : Nat) (v r : Int32) : Int32 := if v = 0 then (if r = 0 then 0 else 1) else 1
theorem opP_f {b : Nat} (h : opP b = false) : ¬ b = 42 ∧ ¬ b = 47 ∧ ¬ b = 37 := by
  unfold opP at h
  simp only [Bool.or_eq_false_iff, decide_eq_false_iff_not] at h
  exact ⟨h.1.1, h.1.2, h.2⟩
theorem opP_t {b : Nat} (h : opP b = true) : b = 42 ∨ b = 47 ∨ b = 37 := by
  unfold opP at h
  simp only [Bool.or_eq_true, decide_eq_true_eq] at h
  rcases h with (h | h) | h
  · exact Or.inl h
  · exact Or.inr (Or.inl h)
  · exact Or.inr (Or.inr h)
theorem opS_f {b : Nat} (h : opS b = false) : ¬ b = 43 ∧ ¬ b = 45 := by
  unfold opS at h
  simp only [Bool.or_eq_false_iff, decide_eq_false_iff_not] at h
  exact h
theorem opS_t {b : Nat} (h : opS b = true) : b = 43 ∨ b = 45 := by
  unfold opS at h
  simp only [Bool.or_eq_true, decide_eq_true_eq] at h
  exact h
section CHAINS
variable {i u : Nat} {F : Nat → Int32} {B : Nat → Nat} {S M : MS} {en o : Nat} {V : Prop} {fc : Int32 → MS → Option (Int32 × MS)} {fr : MS → Option (Int32 × MS)} {x1 : Int32}
theorem c_product_59 (hT : TX u F B M en) {lp : Int32 → Int32 → MS → Option (Int32 × MS)} {v r : Int32} {p p2 : Nat} {ok2 : Bool} (hp : p < en) (hop : opP (B p) = true) (h : fc x1 (CS S en (p + 1) true) = some (r, CS S en p2 ok2)) : f_X2_product_59 i F lp fc x1 v (CS S en p true) = lp x1 (fP (B p) v r) (CS S en p2 ok2) := by
  have h50 := hT.1
  obtain ⟨_, hb, hF⟩ := hT.2.2.2.2 p hp
  refine gixE p rfl (show p < 50 by omega) (by decide) (bIE (bIE ?_))
  rw [CS_p1]
  refine cbE h ?_
  rcases opP_t hop with q | q | q
  · rw [q] at hF
    rw [q]
    exact iteT (hF.trans (lo_eq 42 (by decide))) rfl
  · rw [q] at hF
    rw [q]
    refine iteF (by rw [hF]; exact byte_ne (c := 42) (by decide) (by decide) (by decide)) ?_
    by_cases hr : r = 0
    · refine iteT hr ?_
      have e : fP 47 v r = 0 := by unfold fP; rw [if_neg (by decide), if_pos hr]
      rw [e]; rfl
    · refine iteF hr (iteT (hF.trans (lo_eq 47 (by decide))) (gnzE hr ?_))
      have e : fP 47 v r = v / r := by unfold fP; rw [if_neg (by decide), if_neg hr, if_pos rfl]
      rw [e]; rfl
  · rw [q] at hF
    rw [q]
    refine iteF (by rw [hF]; exact byte_ne (c := 42) (by decide) (by decide) (by decide)) ?_
    by_cases hr : r = 0
    · refine iteT hr ?_
      have e : fP 37 v r = 0 := by unfold fP; rw [if_neg (by decide), if_pos hr]
      rw [e]; rfl
    · refine iteF hr (iteF (by rw [hF]; exact byte_ne (c := 47) (by decide) (by decide) (by decide)) (gnzE hr ?_))
      have e : fP 37 v r = jrem v r := by unfold fP; rw [if_neg (by decide), if_neg hr, if_neg (by decide)]
      rw [e]; rfl
theorem r_product_51 (hT : TX u F B M en) {lp : Int32 → MS → Option (Int32 × MS)} {v r : Int32} {p p2 : Nat} {ok2 : Bool} (hp : p < en) (hop : opP (B p) = true) (h : fr (RS M o (p + 1) true) = some (r, RS M o p2 ok2)) : f_X12_product_51 lp fr v (RS M o p true) = lp (fP (B p) v r) (RS M o p2 ok2) := by
  refine cbE (r_at hT true hp) (bIE ?_)
  rw [RS_p1]
  refine cbE h ?_
  rcases opP_t hop with q | q | q
  · rw [q]
    exact iteT (by decide) rfl
  · rw [q]
    refine iteF (by decide) ?_
    by_cases hr : r = 0
    · refine iteT hr ?_
      have e : fP 47 v r = 0 := by unfold fP; rw [if_neg (by decide), if_pos hr]
      rw [e]; rfl
    · refine iteF hr (iteT (by decide) (gnzE hr ?_))
      have e : fP 47 v r = v / r := by unfold fP; rw [if_neg (by decide), if_neg hr, if_pos rfl]
      rw [e]; rfl
  · rw [q]
    refine iteF (by decide) ?_
    by_cases hr : r = 0
    · refine iteT hr ?_
      have e : fP 37 v r = 0 := by unfold fP; rw [if_neg (by decide), if_pos hr]
      rw [e]; rfl
    · refine iteF hr (iteF (by decide) (gnzE hr ?_))
      have e : fP 37 v r = jrem v r := by unfold fP; rw [if_neg (by decide), if_neg hr, if_neg (by decide)]
      rw [e]; rfl
theorem r1_product (hT : TX u F B M en) (n : Nat) (v : Int32) (p : Nat) (ok : Bool) (hp : p ≤ en) (h : ok = true → p < en → opP (B p) = false) : f_X12_product_5 fr (n + 1) v (RS M o p ok) = some (v, RS M o p ok) := by
  simp only [f_X12_product_5]
  cases ok
  · exact iteT rfl rfl
  · obtain ⟨c, hc, hx⟩ := r_pk (o := o) hT hp true
    have hn : ∀ x, x < 128 → opP x = true → ¬ c = nI x := fun x h1 h2 h3 => by
      obtain ⟨y1, y2⟩ := hx x h1 h3
      have := h rfl y1
      rw [y2, h2] at this
      cases this
    exact iteF ne10 (cbE hc (iteF (hn 42 (by decide) (by decide)) (cbE hc (iteF (hn 47 (by decide) (by decide)) (cbE hc (iteF (hn 37 (by decide) (by decide)) rfl))))))
theorem r2_product (hT : TX u F B M en) (n : Nat) (v : Int32) (p : Nat) (r : Int32) (p2 : Nat) (ok2 : Bool) (hp : p < en) (hop : opP (B p) = true) (h : fr (RS M o (p + 1) true) = some (r, RS M o p2 ok2)) : f_X12_product_5 fr (n + 1) v (RS M o p true) = f_X12_product_5 fr n (fP (B p) v r) (RS M o p2 ok2) := by
  simp only [f_X12_product_5]
  have h5 := r_product_51 (v := v) (lp := f_X12_product_5 fr n) hT hp hop h
  refine iteF ne10 (cbE (r_at hT true hp) ?_)
  rcases opP_t hop with q | q | q
  · refine iteT (by rw [q]; rfl) h5
  · refine iteF (by rw [q]; decide) (cbE (r_at hT true hp) (iteT (by rw [q]; rfl) h5))
  · refine iteF (by rw [q]; decide) (cbE (r_at hT true hp) (iteF (by rw [q]; decide) (cbE (r_at hT true hp) (iteT (by rw [q]; rfl) h5))))
theorem sim_product (hT : TX u F B M en) (hS : Sim V S M en o (fc x1) fr) : Sim V S M en o (f_X2_product i F fc x1) (f_X12_product fr) := by
  have h50 := hT.1
  refine sim_chain (lc := fun n v S => f_X2_product_6 i F fc n x1 v S) (lr := fun n v S => f_X12_product_5 fr n v S) B opP fP h50 hS ?_ ?_ ?_ ?_
  · intro n v p ok hp h
    by_cases q : ok = true ∧ p < en
    · obtain ⟨rfl, hpe⟩ := q
      obtain ⟨_, hb, hF⟩ := hT.2.2.2.2 p hpe
      obtain ⟨n1, n2, n3⟩ := opP_f (h rfl hpe)
      have m1 : ¬ F p = 42 := by rw [hF]; exact byte_ne (c := 42) hb (by decide) n1
      have m2 : ¬ F p = 47 := by rw [hF]; exact byte_ne (c := 47) hb (by decide) n2
      have m3 : ¬ F p = 37 := by rw [hF]; exact byte_ne (c := 37) hb (by decide) n3
      exact iteF (CS_nle hpe (by omega)) (gixE p rfl (show p < 50 by omega) (by decide) (iteF m1 (gixE p rfl (show p < 50 by omega) (by decide) (iteF m2 (gixE p rfl (show p < 50 by omega) (by decide) (iteF m3 rfl))))))
    · exact iteT (CS_le (fun z => by have : ¬ p < en := fun y => q ⟨z, y⟩; omega) (by omega) (by omega)) rfl
  · exact r1_product hT
  · intro n v p r p2 ok2 hp hop h
    obtain ⟨_, hb, hF⟩ := hT.2.2.2.2 p hp
    have h5 := c_product_59 (i := i) (v := v) (lp := f_X2_product_6 i F fc n) hT hp hop h
    refine iteF (CS_nle hp (by omega)) (gixE p rfl (show p < 50 by omega) (by decide) ?_)
    by_cases a1 : F p = 42
    · exact iteT a1 h5
    · refine iteF a1 (gixE p rfl (show p < 50 by omega) (by decide) ?_)
      by_cases a2 : F p = 47
      · exact iteT a2 h5
      · refine iteF a2 (gixE p rfl (show p < 50 by omega) (by decide) ?_)
        have a3 : F p = 37 := by
          rcases opP_t hop with q | q | q
          · rw [q] at hF; exact absurd (hF.trans (lo_eq 42 (by decide))) a1
          · rw [q] at hF; exact absurd (hF.trans (lo_eq 47 (by decide))) a2
          · rw [q] at hF; exact hF.trans (lo_eq 37 (by decide))
        exact iteT a3 h5
  · exact r2_product hT
theorem c_sum_45 (hT : TX u F B M en) {lp : Int32 → Int32 → MS → Option (Int32 × MS)} {v r : Int32} {p p2 : Nat} {ok2 : Bool} (hp : p < en) (hop : opS (B p) = true) (h : f_X2_product i F fc x1 (CS S en (p + 1) true) = some (r, CS S en p2 ok2)) : f_X2_sum_45 i F lp fc x1 v (CS S en p true) = lp x1 (fS (B p) v r) (CS S en p2 ok2) := by
  have h50 := hT.1
  obtain ⟨_, hb, hF⟩ := hT.2.2.2.2 p hp
  refine gixE p rfl (show p < 50 by omega) (by decide) (bIE (bIE ?_))
  rw [CS_p1]
  refine cbE h ?_
  rcases opS_t hop with q | q
  · rw [q] at hF
    rw [q]
    exact iteT (hF.trans (lo_eq 43 (by decide))) rfl
  · rw [q] at hF
    rw [q]
    exact iteF (by rw [hF]; exact byte_ne (c := 43) (by decide) (by decide) (by decide)) rfl
theorem r_sum_38 (hT : TX u F B M en) {lp : Int32 → MS → Option (Int32 × MS)} {v r : Int32} {p p2 : Nat} {ok2 : Bool} (hp : p < en) (hop : opS (B p) = true) (h : f_X12_product fr (RS M o (p + 1) true) = some (r, RS M o p2 ok2)) : f_X12_sum_38 lp fr v (RS M o p true) = lp (fS (B p) v r) (RS M o p2 ok2) := by
  refine cbE (r_at hT true hp) (bIE ?_)
  rw [RS_p1]
  refine cbE h ?_
  rcases opS_t hop with q | q
  · rw [q]
    exact iteT (by decide) rfl
  · rw [q]
    exact iteF (by decide) rfl
theorem r1_sum (hT : TX u F B M en) (n : Nat) (v : Int32) (p : Nat) (ok : Bool) (hp : p ≤ en) (h : ok = true → p < en → opS (B p) = false) : f_X12_sum_5 fr (n + 1) v (RS M o p ok) = some (v, RS M o p ok) := by
  simp only [f_X12_sum_5]
  cases ok
  · exact iteT rfl rfl
  · obtain ⟨c, hc, hx⟩ := r_pk (o := o) hT hp true
    have hn : ∀ x, x < 128 → opS x = true → ¬ c = nI x := fun x h1 h2 h3 => by
      obtain ⟨y1, y2⟩ := hx x h1 h3
      have := h rfl y1
      rw [y2, h2] at this
      cases this
    exact iteF ne10 (cbE hc (iteF (hn 43 (by decide) (by decide)) (cbE hc (iteF (hn 45 (by decide) (by decide)) rfl))))
theorem r2_sum (hT : TX u F B M en) (n : Nat) (v : Int32) (p : Nat) (r : Int32) (p2 : Nat) (ok2 : Bool) (hp : p < en) (hop : opS (B p) = true) (h : f_X12_product fr (RS M o (p + 1) true) = some (r, RS M o p2 ok2)) : f_X12_sum_5 fr (n + 1) v (RS M o p true) = f_X12_sum_5 fr n (fS (B p) v r) (RS M o p2 ok2) := by
  simp only [f_X12_sum_5]
  have h5 := r_sum_38 (v := v) (lp := f_X12_sum_5 fr n) hT hp hop h
  refine iteF ne10 (cbE (r_at hT true hp) ?_)
  rcases opS_t hop with q | q
  · refine iteT (by rw [q]; rfl) h5
  · refine iteF (by rw [q]; decide) (cbE (r_at hT true hp) (iteT (by rw [q]; rfl) h5))
theorem sim_sum (hT : TX u F B M en) (hS : Sim V S M en o (f_X2_product i F fc x1) (f_X12_product fr)) : Sim V S M en o (f_X2_sum i F fc x1) (f_X12_sum fr) := by
  have h50 := hT.1
  refine sim_chain (lc := fun n v S => f_X2_sum_6 i F fc n x1 v S) (lr := fun n v S => f_X12_sum_5 fr n v S) B opS fS h50 hS ?_ ?_ ?_ ?_
  · intro n v p ok hp h
    by_cases q : ok = true ∧ p < en
    · obtain ⟨rfl, hpe⟩ := q
      obtain ⟨_, hb, hF⟩ := hT.2.2.2.2 p hpe
      obtain ⟨n1, n2⟩ := opS_f (h rfl hpe)
      have m1 : ¬ F p = 43 := by rw [hF]; exact byte_ne (c := 43) hb (by decide) n1
      have m2 : ¬ F p = 45 := by rw [hF]; exact byte_ne (c := 45) hb (by decide) n2
      exact iteF (CS_nle hpe (by omega)) (gixE p rfl (show p < 50 by omega) (by decide) (iteF m1 (gixE p rfl (show p < 50 by omega) (by decide) (iteF m2 rfl))))
    · exact iteT (CS_le (fun z => by have : ¬ p < en := fun y => q ⟨z, y⟩; omega) (by omega) (by omega)) rfl
  · exact r1_sum hT
  · intro n v p r p2 ok2 hp hop h
    obtain ⟨_, hb, hF⟩ := hT.2.2.2.2 p hp
    have h5 := c_sum_45 (i := i) (v := v) (lp := f_X2_sum_6 i F fc n) hT hp hop h
    refine iteF (CS_nle hp (by omega)) (gixE p rfl (show p < 50 by omega) (by decide) ?_)
    by_cases a1 : F p = 43
    · exact iteT a1 h5
    · refine iteF a1 (gixE p rfl (show p < 50 by omega) (by decide) ?_)
      have a3 : F p = 45 := by
        rcases opS_t hop with q | q
        · rw [q] at hF; exact absurd (hF.trans (lo_eq 43 (by decide))) a1
        · rw [q] at hF; exact hF.trans (lo_eq 45 (by decide))
      exact iteT a3 h5
  · exact r2_sum hT
/-! a sign of comparison -/
def opC (b : Nat) : Bool := decide (b = 60) || decide (b = 61) || decide (b = 62)
def fC (b : Nat) (v r : Int32) : Int32 := if b = 60 then (if r ≤ v then 0 else 1) else if b = 61 then (if v = r then 1 else 0) else (if v ≤ r then 0 else 1)
theorem opC_f {b : Nat} (h : opC b = false) : ¬ b = 60 ∧ ¬ b = 61 ∧ ¬ b = 62 := by
  unfold opC at h
  simp only [Bool.or_eq_false_iff, decide_eq_false_iff_not] at h
  exact ⟨h.1.1, h.1.2, h.2⟩
theorem opC_t {b : Nat} (h : opC b = true) : b = 60 ∨ b = 61 ∨ b = 62 := by
  unfold opC at h
  simp only [Bool.or_eq_true, decide_eq_true_eq] at h
  rcases h with (h | h) | h
  · exact Or.inl h
  · exact Or.inr (Or.inl h)
  · exact Or.inr (Or.inr h)
theorem c_cmp (b : Nat) (hb : opC b = true) (v r : Int32) (T : MS) : (if (nI b = 60 : Prop) then if (r ≤ v : Prop) then f_X2_compared_117 i F fc 0 T else f_X2_compared_117 i F fc 1 T else if (nI b = 61 : Prop) then if (v = r : Prop) then f_X2_compared_117 i F fc 1 T else f_X2_compared_117 i F fc 0 T else if (v ≤ r : Prop) then f_X2_compared_117 i F fc 0 T else f_X2_compared_117 i F fc 1 T) = some (fC b v r, T) := by
  rcases opC_t hb with q | q | q
  · subst q
    refine iteT rfl ?_
    by_cases h : r ≤ v
    · have e : fC 60 v r = 0 := by unfold fC; rw [if_pos rfl, if_pos h]
      rw [e]; exact iteT h (iteT rfl rfl)
    · have e : fC 60 v r = 1 := by unfold fC; rw [if_pos rfl, if_neg h]
      rw [e]; exact iteF h (iteF (by decide) rfl)
  · subst q
    refine iteF (by decide) (iteT rfl ?_)
    by_cases h : v = r
    · have e : fC 61 v r = 1 := by unfold fC; rw [if_neg (by decide), if_pos rfl, if_pos h]
      rw [e]; exact iteT h (iteF (by decide) rfl)
    · have e : fC 61 v r = 0 := by unfold fC; rw [if_neg (by decide), if_pos rfl, if_neg h]
      rw [e]; exact iteF h (iteT rfl rfl)
  · subst q
    refine iteF (by decide) (iteF (by decide) ?_)
    by_cases h : v ≤ r
    · have e : fC 62 v r = 0 := by unfold fC; rw [if_neg (by decide), if_neg (by decide), if_pos h]
      rw [e]; exact iteT h (iteT rfl rfl)
    · have e : fC 62 v r = 1 := by unfold fC; rw [if_neg (by decide), if_neg (by decide), if_neg h]
      rw [e]; exact iteF h (iteF (by decide) rfl)
theorem r_cmp (b : Nat) (hb : opC b = true) (v r : Int32) (T : MS) : (if (nI b = 60 : Prop) then if (r ≤ v : Prop) then f_X12_compared_108 fr 0 T else f_X12_compared_108 fr 1 T else if (nI b = 61 : Prop) then if (v = r : Prop) then f_X12_compared_108 fr 1 T else f_X12_compared_108 fr 0 T else if (v ≤ r : Prop) then f_X12_compared_108 fr 0 T else f_X12_compared_108 fr 1 T) = some (fC b v r, T) := by
  rcases opC_t hb with q | q | q
  · subst q
    refine iteT rfl ?_
    by_cases h : r ≤ v
    · have e : fC 60 v r = 0 := by unfold fC; rw [if_pos rfl, if_pos h]
      rw [e]; exact iteT h (iteT rfl rfl)
    · have e : fC 60 v r = 1 := by unfold fC; rw [if_pos rfl, if_neg h]
      rw [e]; exact iteF h (iteF (by decide) rfl)
  · subst q
    refine iteF (by decide) (iteT rfl ?_)
    by_cases h : v = r
    · have e : fC 61 v r = 1 := by unfold fC; rw [if_neg (by decide), if_pos rfl, if_pos h]
      rw [e]; exact iteT h (iteF (by decide) rfl)
    · have e : fC 61 v r = 0 := by unfold fC; rw [if_neg (by decide), if_pos rfl, if_neg h]
      rw [e]; exact iteF h (iteT rfl rfl)
  · subst q
    refine iteF (by decide) (iteF (by decide) ?_)
    by_cases h : v ≤ r
    · have e : fC 62 v r = 0 := by unfold fC; rw [if_neg (by decide), if_neg (by decide), if_pos h]
      rw [e]; exact iteT h (iteT rfl rfl)
    · have e : fC 62 v r = 1 := by unfold fC; rw [if_neg (by decide), if_neg (by decide), if_neg h]
      rw [e]; exact iteF h (iteF (by decide) rfl)
theorem sim_compared (hT : TX u F B M en) (hS : Sim V S M en o (f_X2_sum i F fc x1) (f_X12_sum fr)) : Sim V S M en o (f_X2_compared i F fc x1) (f_X12_compared fr) := by
  have h50 := hT.1
  intro p hp
  obtain ⟨p1, ok1, a, b, h1, h2, h3, h4, h5, h6⟩ := hS p hp
  by_cases hgo : ok1 = true ∧ p1 < en ∧ opC (B p1) = true
  · obtain ⟨rfl, hpe, hop⟩ := hgo
    obtain ⟨_, hb, hF⟩ := hT.2.2.2.2 p1 hpe
    have hF2 : F p1 = nI (B p1) := by
      rcases opC_t hop with q | q | q <;> rw [q] at hF <;> rw [q] <;> exact hF.trans (lo_eq _ (by decide))
    obtain ⟨p2, ok2, a2, b2, g1, g2, g3, g4, g5, g6⟩ := hS (p1 + 1) hpe
    refine ⟨p2, ok2, fC (B p1) a a2, fC (B p1) b b2, g1, by omega, fun _ => by omega, fun hV => by rw [h4 hV, g4 hV], ?_, ?_⟩
    · have k49 : f_X2_compared_49 i F fc x1 a (nI (B p1)) (CS S en p1 true) = some (fC (B p1) a a2, CS S en p2 ok2) := by
        refine bIE ?_
        rw [CS_p1]
        exact cbE g5 (c_cmp (B p1) hop a a2 _)
      refine cbE h5 (iteT (CS_lt hpe (by omega)) (gixE p1 rfl (show p1 < 50 by omega) (by decide) (bIE ?_)))
      rw [hF2]
      rcases opC_t hop with q | q | q
      · exact iteT (by rw [q]; rfl) k49
      · exact iteF (by rw [q]; decide) (iteT (by rw [q]; rfl) k49)
      · exact iteF (by rw [q]; decide) (iteF (by rw [q]; decide) (iteT (by rw [q]; rfl) k49))
    · have k45 : f_X12_compared_45 fr b (nI (B p1)) (RS M o p1 true) = some (fC (B p1) b b2, RS M o p2 ok2) := by
        refine bIE ?_
        rw [RS_p1]
        exact cbE g6 (r_cmp (B p1) hop b b2 _)
      refine cbE h6 (iteF ne10 (cbE (r_at hT true hpe) ?_))
      rcases opC_t hop with q | q | q
      · exact iteT (by rw [q]; rfl) k45
      · exact iteF (by rw [q]; decide) (iteT (by rw [q]; rfl) k45)
      · exact iteF (by rw [q]; decide) (iteF (by rw [q]; decide) (iteT (by rw [q]; rfl) k45))
  · refine ⟨p1, ok1, a, b, h1, h2, h3, h4, ?_, ?_⟩
    · refine cbE h5 ?_
      by_cases q : ok1 = true ∧ p1 < en
      · obtain ⟨rfl, hpe⟩ := q
        obtain ⟨_, hb, hF⟩ := hT.2.2.2.2 p1 hpe
        have hop : opC (B p1) = false := by
          cases z : opC (B p1)
          · rfl
          · exact absurd ⟨rfl, hpe, z⟩ hgo
        obtain ⟨n1, n2, n3⟩ := opC_f hop
        have m1 : ¬ F p1 = 60 := by rw [hF]; exact byte_ne (c := 60) hb (by decide) n1
        have m2 : ¬ F p1 = 61 := by rw [hF]; exact byte_ne (c := 61) hb (by decide) n2
        have m3 : ¬ F p1 = 62 := by rw [hF]; exact byte_ne (c := 62) hb (by decide) n3
        exact iteT (CS_lt hpe (by omega)) (gixE p1 rfl (show p1 < 50 by omega) (by decide) (bIE (iteF m1 (iteF m2 (iteF m3 rfl)))))
      · exact iteF (CS_nlt (fun z => by have : ¬ p1 < en := fun y => q ⟨z, y⟩; omega) (by omega) (by omega)) rfl
    · refine cbE h6 ?_
      cases ok1
      · exact iteT rfl (iteF (by decide) (iteF (by decide) (iteF (by decide) rfl)))
      · obtain ⟨c, hc, hx⟩ := r_pk (o := o) hT h1 true
        have hn : ∀ x, x < 128 → opC x = true → ¬ c = nI x := fun x y1 y2 y3 => by
          obtain ⟨z1, z2⟩ := hx x y1 y3
          exact hgo ⟨rfl, z1, by rw [z2]; exact y2⟩
        exact iteF ne10 (cbE hc (iteF (hn 60 (by decide) (by decide)) (iteF (hn 61 (by decide) (by decide)) (iteF (hn 62 (by decide) (by decide)) rfl))))
theorem r1_both (hT : TX u F B M en) (n : Nat) (v : Int32) (p : Nat) (ok : Bool) (hp : p ≤ en) (h : ok = true → p < en → opB (B p) = false) : f_X12_both_5 fr (n + 1) v (RS M o p ok) = some (v, RS M o p ok) := by
  simp only [f_X12_both_5]
  cases ok
  · exact iteT rfl rfl
  · obtain ⟨c, hc, hx⟩ := r_pk (o := o) hT hp true
    have hn : ¬ c = 38 := fun h3 => by
      obtain ⟨y1, y2⟩ := hx 38 (by decide) h3
      exact absurd y2 (of_decide_eq_false (h rfl y1))
    exact iteF ne10 (cbE hc (iteF hn rfl))
theorem r2_both (hT : TX u F B M en) (n : Nat) (v : Int32) (p : Nat) (r : Int32) (p2 : Nat) (ok2 : Bool) (hp : p < en) (hop : opB (B p) = true) (h : f_X12_compared fr (RS M o (p + 1) true) = some (r, RS M o p2 ok2)) : f_X12_both_5 fr (n + 1) v (RS M o p true) = f_X12_both_5 fr n (fB (B p) v r) (RS M o p2 ok2) := by
  simp only [f_X12_both_5]
  have q : B p = 38 := of_decide_eq_true hop
  refine iteF ne10 (cbE (r_at hT true hp) (iteT (by rw [q]; rfl) (bIE ?_)))
  rw [RS_p1]
  refine cbE h ?_
  by_cases h1 : v = 0
  · have e : fB (B p) v r = 0 := by unfold fB; rw [if_pos h1]
    rw [e]; exact iteT h1 rfl
  · refine iteF h1 ?_
    by_cases h2 : r = 0
    · have e : fB (B p) v r = 0 := by unfold fB; rw [if_neg h1, if_pos h2]
      rw [e]; exact iteT h2 rfl
    · have e : fB (B p) v r = 1 := by unfold fB; rw [if_neg h1, if_neg h2]
      rw [e]; exact iteF h2 rfl
theorem sim_both (hT : TX u F B M en) (hS : Sim V S M en o (f_X2_compared i F fc x1) (f_X12_compared fr)) : Sim V S M en o (f_X2_both i F fc x1) (f_X12_both fr) := by
  have h50 := hT.1
  refine sim_chain (lc := fun n v S => f_X2_both_6 i F fc n x1 v S) (lr := fun n v S => f_X12_both_5 fr n v S) B opB fB h50 hS ?_ ?_ ?_ ?_
  · intro n v p ok hp h
    by_cases q : ok = true ∧ p < en
    · obtain ⟨rfl, hpe⟩ := q
      obtain ⟨_, hb, hF⟩ := hT.2.2.2.2 p hpe
      have n1 : ¬ B p = 38 := of_decide_eq_false (h rfl hpe)
      have m1 : ¬ F p = 38 := by rw [hF]; exact byte_ne (c := 38) hb (by decide) n1
      exact iteF (CS_nle hpe (by omega)) (gixE p rfl (show p < 50 by omega) (by decide) (iteF m1 rfl))
    · exact iteT (CS_le (fun z => by have : ¬ p < en := fun y => q ⟨z, y⟩; omega) (by omega) (by omega)) rfl
  · exact r1_both hT
  · intro n v p r p2 ok2 hp hop h
    obtain ⟨_, hb, hF⟩ := hT.2.2.2.2 p hp
    have q : B p = 38 := of_decide_eq_true hop
    rw [q] at hF
    refine iteF (CS_nle hp (by omega)) (gixE p rfl (show p < 50 by omega) (by decide) (iteT (hF.trans (lo_eq 38 (by decide))) (bIE ?_)))
    rw [CS_p1]
    refine cbE h ?_
    by_cases h1 : v = 0
    · have e : fB (B p) v r = 0 := by unfold fB; rw [if_pos h1]
      rw [e]; exact iteT h1 rfl
    · refine iteF h1 ?_
      by_cases h2 : r = 0
      · have e : fB (B p) v r = 0 := by unfold fB; rw [if_neg h1, if_pos h2]
        rw [e]; exact iteT h2 rfl
      · have e : fB (B p) v r = 1 := by unfold fB; rw [if_neg h1, if_neg h2]
        rw [e]; exact iteF h2 rfl
  · exact r2_both hT
theorem r1_either (hT : TX u F B M en) (n : Nat) (v : Int32) (p : Nat) (ok : Bool) (hp : p ≤ en) (h : ok = true → p < en → opE (B p) = false) : f_X12_whole_5 fr (n + 1) v (RS M o p ok) = some (v, RS M o p ok) := by
  simp only [f_X12_whole_5]
  cases ok
  · exact iteT rfl rfl
  · obtain ⟨c, hc, hx⟩ := r_pk (o := o) hT hp true
    have hn : ¬ c = 124 := fun h3 => by
      obtain ⟨y1, y2⟩ := hx 124 (by decide) h3
      exact absurd y2 (of_decide_eq_false (h rfl y1))
    exact iteF ne10 (cbE hc (iteF hn rfl))
theorem r2_either (hT : TX u F B M en) (n : Nat) (v : Int32) (p : Nat) (r : Int32) (p2 : Nat) (ok2 : Bool) (hp : p < en) (hop : opE (B p) = true) (h : f_X12_both fr (RS M o (p + 1) true) = some (r, RS M o p2 ok2)) : f_X12_whole_5 fr (n + 1) v (RS M o p true) = f_X12_whole_5 fr n (fE (B p) v r) (RS M o p2 ok2) := by
  simp only [f_X12_whole_5]
  have q : B p = 124 := of_decide_eq_true hop
  refine iteF ne10 (cbE (r_at hT true hp) (iteT (by rw [q]; rfl) (bIE ?_)))
  rw [RS_p1]
  refine cbE h ?_
  by_cases h1 : v = 0
  · refine iteT h1 ?_
    by_cases h2 : r = 0
    · have e : fE (B p) v r = 0 := by unfold fE; rw [if_pos h1, if_pos h2]
      rw [e]; exact iteT h2 rfl
    · have e : fE (B p) v r = 1 := by unfold fE; rw [if_pos h1, if_neg h2]
      rw [e]; exact iteF h2 rfl
  · have e : fE (B p) v r = 1 := by unfold fE; rw [if_neg h1]
    rw [e]; exact iteF h1 rfl
theorem sim_either (hT : TX u F B M en) (hS : Sim V S M en o (f_X2_both i F fc x1) (f_X12_both fr)) : Sim V S M en o (f_X2_either i F fc x1) (f_X12_whole fr) := by
  have h50 := hT.1
  refine sim_chain (lc := fun n v S => f_X2_either_6 i F fc n x1 v S) (lr := fun n v S => f_X12_whole_5 fr n v S) B opE fE h50 hS ?_ ?_ ?_ ?_
  · intro n v p ok hp h
    by_cases q : ok = true ∧ p < en
    · obtain ⟨rfl, hpe⟩ := q
      obtain ⟨_, hb, hF⟩ := hT.2.2.2.2 p hpe
      have n1 : ¬ B p = 124 := of_decide_eq_false (h rfl hpe)
      have m1 : ¬ F p = 124 := by rw [hF]; exact byte_ne (c := 124) hb (by decide) n1
      exact iteF (CS_nle hpe (by omega)) (gixE p rfl (show p < 50 by omega) (by decide) (iteF m1 rfl))
    · exact iteT (CS_le (fun z => by have : ¬ p < en := fun y => q ⟨z, y⟩; omega) (by omega) (by omega)) rfl
  · exact r1_either hT
  · intro n v p r p2 ok2 hp hop h
    obtain ⟨_, hb, hF⟩ := hT.2.2.2.2 p hp
    have q : B p = 124 := of_decide_eq_true hop
    rw [q] at hF
    refine iteF (CS_nle hp (by omega)) (gixE p rfl (show p < 50 by omega) (by decide) (iteT (hF.trans (lo_eq 124 (by decide))) (bIE ?_)))
    rw [CS_p1]
    refine cbE h ?_
    by_cases h1 : v = 0
    · refine iteT h1 ?_
      by_cases h2 : r = 0
      · have e : fE (B p) v r = 0 := by unfold fE; rw [if_pos h1, if_pos h2]
        rw [e]; exact iteT h2 rfl
      · have e : fE (B p) v r = 1 := by unfold fE; rw [if_pos h1, if_neg h2]
        rw [e]; exact iteF h2 rfl
    · have e : fE (B p) v r = 1 := by unfold fE; rw [if_neg h1]
      rw [e]; exact iteF h1 rfl
  · exact r2_either hT
theorem sim_up (hT : TX u F B M en) (hS : Sim V S M en o (fc x1) fr) : Sim V S M en o (f_X2_either i F fc x1) (f_X12_whole fr) := sim_either hT (sim_both hT (sim_compared hT (sim_sum hT (sim_product hT hS))))
end CHAINS

/-! ===== numbers ===== -/
def isDg (b : Nat) : Bool := decide (48 ≤ b) && decide (b ≤ 57)
theorem c_isDg : ∀ b, b < 256 → f_X2_isDigit (ji2b (nI b)) = some (bif isDg b then 1 else 0) := by decide +kernel
theorem r_isDg : ∀ b, b < 256 → f_X12_isDigit (nI b) = some (bif isDg b then 1 else 0) := by decide +kernel
theorem r_isDgE : f_X12_isDigit (-1) = some 0 := by decide +kernel
theorem lo_dg : ∀ b, b < 256 → isDg b = true → ji2b (nI b) = nI b := by decide +kernel
theorem lo_eq : ∀ b, b < 128 → ji2b (nI b) = nI b := by decide +kernel
theorem ne10 : ¬ (1 : Int32) = 0 := by decide
theorem CS_le {S : MS} {en p : Nat} {ok : Bool} (h : ok = true → en ≤ p) (h2 : p < 100) (h3 : en < 100) : (CS S en p ok).2 1 ≤ (CS S en p ok).2 2 := by
  cases ok
  · show nI p ≤ nI p
    exact nI_le (Nat.le_refl p) (by omega)
  · show nI en ≤ nI p
    exact nI_le (h rfl) (by omega)
theorem CS_nle {S : MS} {en p : Nat} (h : p < en) (h3 : en < 100) : ¬ (CS S en p true).2 1 ≤ (CS S en p true).2 2 := by
  show ¬ nI en ≤ nI p
  exact nI_ge h (by omega)
theorem CS_lt {S : MS} {en p : Nat} (h : p < en) (h3 : en < 100) : (CS S en p true).2 2 < (CS S en p true).2 1 := by
  show nI p < nI en
  exact Int32.not_le.mp (nI_ge h (by omega))
theorem CS_nlt {S : MS} {en p : Nat} {ok : Bool} (h : ok = true → en ≤ p) (h2 : p < 100) (h3 : en < 100) : ¬ (CS S en p ok).2 2 < (CS S en p ok).2 1 := Int32.not_lt.mpr (CS_le h h2 h3)
theorem CS_p1 (S : MS) (en p : Nat) : sF (CS S en p true) 2 ((CS S en p true).2 2 + 1) = CS S en (p + 1) true := by
  have e : (CS S en p true).2 2 + 1 = nI (p + 1) := nI_1 p
  rw [e, CS_p]
theorem RS_p1 (M : MS) (o p : Nat) (ok : Bool) : sF (RS M o p ok) 6 ((RS M o p ok).2 6 + 1) = RS M o (p + 1) ok := by
  have e : (RS M o p ok).2 6 + 1 = nI (p + 1) := nI_1 p
  rw [e, RS_p]
theorem sim_num {i u : Nat} {F : Nat → Int32} {B : Nat → Nat} {S M : MS} {en o : Nat} (hT : TX u F B M en) : ∀ (j k fu p : Nat) (x : Int32), k + j = 4 → j < fu → p ≤ en → ∃ (p' : Nat) (v : Int32), p' ≤ en ∧ p ≤ p' ∧ (p < en → isDg (B p) = true → 0 < j → p < p') ∧ f_X2_number_4 i F fu x (nI k) (CS S en p true) = some (v, CS S en p' true) ∧ f_X12_number_4 fu x (nI k) (RS M o p true) = some (v, RS M o p' true) := by
  intro j
  induction j with
  | zero =>
    intro k fu p x hk hf hp
    obtain rfl : k = 4 := by omega
    obtain ⟨fu, rfl⟩ : ∃ z, fu = z + 1 := ⟨fu - 1, by omega⟩
    have h4 : (4 : Int32) ≤ nI 4 := by decide +kernel
    exact ⟨p, x, hp, Nat.le_refl _, fun _ _ h => absurd h (Nat.lt_irrefl 0), by simp only [f_X2_number_4, if_pos h4], by simp only [f_X12_number_4, if_pos h4]⟩
  | succ j ih =>
    intro k fu p x hk hf hp
    have h50 := hT.1
    obtain ⟨fu, rfl⟩ : ∃ z, fu = z + 1 := ⟨fu - 1, by omega⟩
    have h4 : ¬ (4 : Int32) ≤ nI k := fun c => nI_ge (a := k) (b := 4) (by omega) (by decide) c
    by_cases hpe : p < en
    · obtain ⟨_, hb, hF⟩ := hT.2.2.2.2 p hpe
      have hp50 : p < 50 := by omega
      have cd := c_isDg (B p) hb
      have rd := r_isDg (B p) hb
      rw [← hF] at cd
      cases hd : isDg (B p)
      · rw [hd] at cd rd
        refine ⟨p, x, hp, Nat.le_refl _, fun _ h => (nomatch h), ?_, ?_⟩
        · exact iteF h4 (iteF (CS_nle hpe (by omega)) (gixE p rfl hp50 (by decide) (csE cd (iteT rfl rfl))))
        · exact iteF h4 (cbE (r_at hT true hpe) (csE rd (iteT rfl rfl)))
      · rw [hd] at cd rd
        have hF2 : F p = nI (B p) := hF.trans (lo_dg (B p) hb hd)
        obtain ⟨p', v, g1, g2, g3, g4, g5⟩ := ih (k + 1) fu (p + 1) (((x * 10) + nI (B p)) - 48) (by omega) (by omega) (by omega)
        refine ⟨p', v, g1, by omega, fun _ _ _ => by omega, ?_, ?_⟩
        · refine iteF h4 (iteF (CS_nle hpe (by omega)) (gixE p rfl hp50 (by decide) (csE cd (iteF ne10 (gixE p rfl hp50 (by decide) ?_)))))
          refine bIE (bIE (bIE ?_))
          rw [hF2, CS_p1, nI_1]
          exact g4
        · refine iteF h4 (cbE (r_at hT true hpe) (csE rd (iteF ne10 (cbE (r_at hT true hpe) ?_))))
          refine bIE (bIE (bIE ?_))
          rw [RS_p1, nI_1, Int32.mul_comm 10 x]
          exact g5
    · have he : p = en := by omega
      subst he
      refine ⟨p, x, hp, Nat.le_refl _, fun h => absurd h hpe, ?_, ?_⟩
      · exact iteF h4 (iteT (CS_le (fun _ => Nat.le_refl _) (by omega) (by omega)) rfl)
      · exact iteF h4 (cbE (r_end hT true (Nat.le_refl _) (by omega)) (csE r_isDgE (iteT rfl rfl)))
theorem sim_number {i u : Nat} {F : Nat → Int32} {B : Nat → Nat} {S M : MS} {en o p : Nat} (hT : TX u F B M en) (hp : p < en) (hd : isDg (B p) = true) : ∃ (p' : Nat) (v : Int32), p' ≤ en ∧ p < p' ∧ f_X2_number i F (CS S en p true) = some (v, CS S en p' true) ∧ f_X12_number (RS M o p true) = some (v, RS M o p' true) := by
  obtain ⟨p', v, g1, g2, g3, g4, g5⟩ := sim_num (i := i) (S := S) (o := o) hT 4 0 100 p 0 (by omega) (by omega) (by omega)
  exact ⟨p', v, g1, g3 hp hd (by omega), g4, g5⟩
/-! ===== a chain of parts with signs between ===== -/
theorem sim_loop {V : Prop} {S M : MS} {en o : Nat} {fc fr : MS → Option (Int32 × MS)} {lc lr : Nat → Int32 → MS → Option (Int32 × MS)} (B : Nat → Nat) (op : Nat → Bool) (f : Nat → Int32 → Int32 → Int32) (hen : en ≤ 50) (hS : Sim V S M en o fc fr)
    (c1 : ∀ n v p ok, p ≤ en → (ok = true → p < en → op (B p) = false) → lc (n + 1) v (CS S en p ok) = some (v, CS S en p ok))
    (r1 : ∀ n v p ok, p ≤ en → (ok = true → p < en → op (B p) = false) → lr (n + 1) v (RS M o p ok) = some (v, RS M o p ok))
    (c2 : ∀ n v p r p2 ok2, p < en → op (B p) = true → fc (CS S en (p + 1) true) = some (r, CS S en p2 ok2) → lc (n + 1) v (CS S en p true) = lc n (f (B p) v r) (CS S en p2 ok2))
    (r2 : ∀ n v p r p2 ok2, p < en → op (B p) = true → fr (RS M o (p + 1) true) = some (r, RS M o p2 ok2) → lr (n + 1) v (RS M o p true) = lr n (f (B p) v r) (RS M o p2 ok2)) :
    ∀ (j n p : Nat) (ok : Bool) (v w : Int32), p ≤ en → en ≤ p + j → j < n → (V → v = w) → ∃ (p' : Nat) (ok' : Bool) (v' w' : Int32), p' ≤ en ∧ p ≤ p' ∧ (ok' = true → ok = true) ∧ (V → v' = w') ∧ lc n v (CS S en p ok) = some (v', CS S en p' ok') ∧ lr n w (RS M o p ok) = some (w', RS M o p' ok') := by
  intro j
  induction j with
  | zero =>
    intro n p ok v w hp hj hn hv
    obtain ⟨n, rfl⟩ : ∃ z, n = z + 1 := ⟨n - 1, by omega⟩
    exact ⟨p, ok, v, w, hp, Nat.le_refl _, id, hv, c1 n v p ok hp (fun _ h => by omega), r1 n w p ok hp (fun _ h => by omega)⟩
  | succ j ih =>
    intro n p ok v w hp hj hn hv
    obtain ⟨n, rfl⟩ : ∃ z, n = z + 1 := ⟨n - 1, by omega⟩
    by_cases hgo : ok = true ∧ p < en ∧ op (B p) = true
    · obtain ⟨rfl, hpe, hop⟩ := hgo
      obtain ⟨p2, ok2, a, b, h1, h2, h3, h4, h5, h6⟩ := hS (p + 1) hpe
      obtain ⟨p', ok', v', w', g1, g2, g3, g4, g5, g6⟩ := ih n p2 ok2 (f (B p) v a) (f (B p) w b) h1 (by omega) (by omega) (fun hV => by rw [hv hV, h4 hV])
      exact ⟨p', ok', v', w', g1, by omega, fun _ => rfl, g4, (c2 n v p a p2 ok2 hpe hop h5).trans g5, (r2 n w p b p2 ok2 hpe hop h6).trans g6⟩
    · have hs : ok = true → p < en → op (B p) = false := fun h1 h2 => by
        cases h3 : op (B p)
        · rfl
        · exact absurd ⟨h1, h2, h3⟩ hgo
      exact ⟨p, ok, v, w, hp, Nat.le_refl _, id, hv, c1 n v p ok hp hs, r1 n w p ok hp hs⟩
theorem sim_chain {V : Prop} {S M : MS} {en o : Nat} {fc fr : MS → Option (Int32 × MS)} {lc lr : Nat → Int32 → MS → Option (Int32 × MS)} (B : Nat → Nat) (op : Nat → Bool) (f : Nat → Int32 → Int32 → Int32) (hen : en ≤ 50) (hS : Sim V S M en o fc fr)
    (c1 : ∀ n v p ok, p ≤ en → (ok = true → p < en → op (B p) = false) → lc (n + 1) v (CS S en p ok) = some (v, CS S en p ok))
    (r1 : ∀ n v p ok, p ≤ en → (ok = true → p < en → op (B p) = false) → lr (n + 1) v (RS M o p ok) = some (v, RS M o p ok))
    (c2 : ∀ n v p r p2 ok2, p < en → op (B p) = true → fc (CS S en (p + 1) true) = some (r, CS S en p2 ok2) → lc (n + 1) v (CS S en p true) = lc n (f (B p) v r) (CS S en p2 ok2))
    (r2 : ∀ n v p r p2 ok2, p < en → op (B p) = true → fr (RS M o (p + 1) true) = some (r, RS M o p2 ok2) → lr (n + 1) v (RS M o p true) = lr n (f (B p) v r) (RS M o p2 ok2)) :
    Sim V S M en o (fun S => cb (fc S) fun r S1 => lc 100 r S1) (fun S => cb (fr S) fun r S1 => lr 100 r S1) := by
  intro p hp
  obtain ⟨p2, ok2, a, b, h1, h2, h3, h4, h5, h6⟩ := hS p hp
  obtain ⟨p', ok', v', w', g1, g2, g3, g4, g5, g6⟩ := sim_loop B op f hen hS c1 r1 c2 r2 50 100 p2 ok2 a b h1 (by omega) (by omega) h4
  exact ⟨p', ok', v', w', g1, by omega, fun h => by have := h3 (g3 h); omega, g4, cbE h5 g5, cbE h6 g6⟩

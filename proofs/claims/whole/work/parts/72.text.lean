/-! ===== the calls, both sides: the table of worth, texts ===== -/
theorem ji2b_ji2b (x : Int32) : ji2b (ji2b x) = ji2b x := by
  unfold ji2b
  rw [Int8.toInt8_toInt32]
def TxEq1 (r r2 : Nat → Int32) (u : Nat) : Prop := r2 (6 + u) = r (6 + u) ∧ ∀ k, k < 50 → r2 (106 + 50 * u + k) = r (106 + 50 * u + k)
theorem TxOk.cg1 {r r2 : Nat → Int32} {u : Nat} (h : TxEq1 r r2 u) (g : TxOk r u) : TxOk r2 u := by
  rcases g with g | g
  · exact Or.inl (h.1.trans g)
  · have hen : tL r u < 51 := g.1.2
    have eL : tL r2 u = tL r u := by unfold tL; rw [h.1]
    have eB : ∀ k, k < tL r u → r2 (106 + 50 * u + k) = r (106 + 50 * u + k) := fun k hk => h.2 k (by omega)
    refine Or.inr ⟨by rw [h.1]; exact g.1, fun k hk => ?_, ?_⟩
    · rw [eL] at hk
      rw [eB k hk]; exact g.2.1 k hk
    · rw [eL]
      exact GoodT_cg (fun k hk => by unfold tB; rw [eB k hk]) g.2.2
theorem rLw_cg1 {r r2 : Nat → Int32} {u : Nat} (h : TxEq1 r r2 u) (hu : u < 2) (g : TxOk r u) (a b c : Int32) : rLw r2 u a b c = rLw r u a b c := by
  rcases g with g | g
  · have h1 : r (6 + u) < 0 := by rw [g]; exact neg1
    have h2 : r2 (6 + u) < 0 := by rw [h.1]; exact h1
    exact (if_pos h2).trans (if_pos h1).symm
  · have hp : ¬ r (6 + u) < 0 := g.1.pos (by decide)
    have hp2 : ¬ r2 (6 + u) < 0 := by rw [h.1]; exact hp
    have hen : tL r u ≤ 50 := Nat.le_of_lt_succ g.1.2
    have hM : TXr (fun _ => r, fun _ => 0) u (tL r u) (tB r u) := ⟨g.1.1, fun k hk => ⟨(g.2.1 k hk).1, (g.2.1 k hk).2⟩⟩
    have hM2 : TXr (fun _ => r2, fun _ => 0) u (tL r u) (tB r u) := ⟨h.1.trans g.1.1, fun k hk => ⟨(h.2 k (by omega)).trans (g.2.1 k hk).1, (g.2.1 k hk).2⟩⟩
    obtain ⟨w, h1, h2⟩ := walk_eq hu hen g.2.2 hM hM2 a b c
    refine (if_neg hp2).trans (Eq.trans ?_ (if_neg hp).symm)
    rw [h1, h2]
    rfl
theorem ClT.cg1 {r r2 : Nat → Int32} {u : Nat} (h : TxEq1 r r2 u) {a : Nat → Int32} {l : Int32} (g : ClT r u a l) : ClT r2 u a l := by
  rcases g with g | g
  · exact Or.inl ⟨h.1.trans g.1, g.2⟩
  · have hen : tL r u < 51 := g.1.2
    have eL : tL r2 u = tL r u := by unfold tL; rw [h.1]
    refine Or.inr ⟨by rw [h.1]; exact g.1, by rw [h.1]; exact g.2.1, fun k hk => ?_⟩
    rw [eL] at hk
    rw [g.2.2 k hk]
    unfold tB
    rw [h.2 k (by omega)]
/-! the table -/
def Wo (r : Nat → Int32) (T : MS) (h c n : Nat) : Prop := ∀ h' c' n', h' + c' + n' ≤ 8 → (h' < h ∨ (h' = h ∧ (c' < c ∨ (c' = c ∧ n' < n)))) → T.1 4 ((h' * 9 + c') * 9 + n') = rLw r 0 (nI h') (nI c') (nI n')
def WSk (S T : MS) : Prop := (∀ c, ¬ c = 4 → T.1 c = S.1 c) ∧ (∀ k, ¬ (20 ≤ k ∧ k ≤ 27) → T.2 k = S.2 k) ∧ T.2 20 = S.2 20
theorem nI_sub {a b : Nat} (h : a ≤ b) : nI b - nI a = nI (b - a) := by
  have e := nI_subK (b - a) a
  rw [Nat.sub_add_cancel h] at e
  exact e
theorem w20E {RD : Nat → Nat × Int32 × Int32 × Int32} {lp2 : Int32 → MS → Option (Int32 × MS)} {lp10 : Int32 → Int32 → MS → Option (Int32 × MS)} {n : Nat} {x1 : Int32} {x2 : Int32} {x3 : Int32} {N : MS} {u : Option (Int32 × MS)} (h : (if (((8 - x1) - x2) < x3 : Prop) then bI (x2 + 1) fun v5 => lp10 x1 v5 N else cs (f_X11_placeOf x1 x2 x3) fun r6 => cb (f_X2_gives 0 (lvF 0 N) x1 x2 x3 (lvS 0 N)) fun r8 S10 => gix r6 729 fun k11 => bI (x3 + 1) fun v12 => (f_X4_workOutWorth_20 RD lp2 lp10 n) x1 x2 v12 (sA (lvJ 0 N S10) 4 k11 r8)) = u) : f_X4_workOutWorth_20 RD lp2 lp10 (n + 1) x1 x2 x3 N = u := h
theorem w10E {RD : Nat → Nat × Int32 × Int32 × Int32} {lp2 : Int32 → MS → Option (Int32 × MS)} {n : Nat} {x1 : Int32} {x2 : Int32} {N : MS} {u : Option (Int32 × MS)} (h : (if ((8 - x1) < x2 : Prop) then bI (x1 + 1) fun v3 => lp2 v3 N else f_X4_workOutWorth_20 RD lp2 (f_X4_workOutWorth_10 RD lp2 n) 100 x1 x2 0 N) = u) : f_X4_workOutWorth_10 RD lp2 (n + 1) x1 x2 N = u := h
theorem w2E {RD : Nat → Nat × Int32 × Int32 × Int32} {n : Nat} {x1 : Int32} {N : MS} {u : Option (Int32 × MS)} (h : (if (8 < x1 : Prop) then some (0, N) else f_X4_workOutWorth_10 RD (f_X4_workOutWorth_2 RD n) 100 x1 0 N) = u) : f_X4_workOutWorth_2 RD (n + 1) x1 N = u := h
section WORTH
variable {RD : RDt} {r : Nat → Int32} {S : MS}
theorem wo_20 (hT : TxOk r 0) (hC : ClT r 0 (S.1 5) (S.2 20)) (lp2 : Int32 → MS → Option (Int32 × MS)) (lp10 : Int32 → Int32 → MS → Option (Int32 × MS)) {h c : Nat} (hhc : h + c ≤ 8) : ∀ (j n fu : Nat) (T : MS), n + j = 9 - h - c → j < fu → WSk S T → Wo r T h c n → ∃ T2 : MS, WSk S T2 ∧ Wo r T2 h (c + 1) 0 ∧ f_X4_workOutWorth_20 RD lp2 lp10 fu (nI h) (nI c) (nI n) T = lp10 (nI h) (nI (c + 1)) T2 := by
  have e8 : ((8 : Int32) - nI h) - nI c = nI (8 - h - c) := by rw [show (8 : Int32) = nI 8 by decide +kernel, nI_sub (by omega), nI_sub (by omega)]
  intro j
  induction j with
  | zero =>
    intro n fu T hn hf hS hW
    obtain ⟨fu, rfl⟩ : ∃ z, fu = z + 1 := ⟨fu - 1, by omega⟩
    refine ⟨T, hS, fun h' c' n' h1 h2 => hW h' c' n' h1 (by omega), w20E (iteT ?_ (bIE ?_))⟩
    · rw [e8]; exact nI_lt (by omega) (by omega)
    · rw [nI_1]
  | succ j ih =>
    intro n fu T hn hf hS hW
    obtain ⟨fu, rfl⟩ : ∃ z, fu = z + 1 := ⟨fu - 1, by omega⟩
    have hC2 : ClT r 0 (T.1 (5 + 0)) (T.2 (20 + 10 * 0)) := by
      rw [show T.1 (5 + 0) = S.1 5 from hS.1 5 (by decide), show T.2 (20 + 10 * 0) = S.2 20 from hS.2.2]
      exact hC
    obtain ⟨U, u1, u2⟩ := c_gives (S := T) (u := 0) (by decide) hT hC2 (nI h) (nI c) (nI n)
    have hp : ((nI h * 9 + nI c) * 9) + nI n = nI ((h * 9 + c) * 9 + n) := by
      rw [show (9 : Int32) = nI 9 by decide +kernel, nI_mul, nI_add, nI_mul, nI_add]
    have hlv : ∀ k, ¬ (20 ≤ k ∧ k ≤ 27) → (lvJ 0 T U).2 k = T.2 k := fun k hk => by
      show (if 20 + 10 * 0 ≤ k ∧ k < 27 + 10 * 0 then _ else if k = 27 + 10 * 0 then _ else T.2 k) = T.2 k
      rw [if_neg (by omega), if_neg (by omega)]
    have hS2 : WSk S (sA (lvJ 0 T U) 4 ((h * 9 + c) * 9 + n) (rLw r 0 (nI h) (nI c) (nI n))) := by
      refine ⟨fun c hc => (if_neg hc).trans (hS.1 c hc), fun k hk => (hlv k hk).trans (hS.2.1 k hk), ?_⟩
      show (lvJ 0 T U).2 20 = S.2 20
      show U.2 (20 - (20 + 10 * 0)) = S.2 20
      exact u1.trans hS.2.2
    have hW2 : Wo r (sA (lvJ 0 T U) 4 ((h * 9 + c) * 9 + n) (rLw r 0 (nI h) (nI c) (nI n))) h c (n + 1) := fun h' c' n' h1 h2 => by
      show upd (T.1 4) ((h * 9 + c) * 9 + n) (rLw r 0 (nI h) (nI c) (nI n)) ((h' * 9 + c') * 9 + n') = _
      by_cases e : h' = h ∧ c' = c ∧ n' = n
      · obtain ⟨rfl, rfl, rfl⟩ := e
        rw [upd_eq]
      · rw [upd_ne (by omega)]
        exact hW h' c' n' h1 (by omega)
    obtain ⟨T2, k1, k2, k3⟩ := ih (n + 1) fu _ (by omega) (by omega) hS2 hW2
    refine ⟨T2, k1, k2, w20E (iteF ?_ (csE rfl (cbE u2 (gixE _ hp (by omega) (by decide) (bIE ?_)))))⟩
    · rw [e8]; exact nI_nlt (by omega) (by omega)
    · rw [nI_1]; exact k3
theorem wo_10 (hT : TxOk r 0) (hC : ClT r 0 (S.1 5) (S.2 20)) (lp2 : Int32 → MS → Option (Int32 × MS)) {h : Nat} (hh : h ≤ 8) : ∀ (j c fu : Nat) (T : MS), c + j = 9 - h → j < fu → WSk S T → Wo r T h c 0 → ∃ T2 : MS, WSk S T2 ∧ Wo r T2 (h + 1) 0 0 ∧ f_X4_workOutWorth_10 RD lp2 fu (nI h) (nI c) T = lp2 (nI (h + 1)) T2 := by
  have e8 : (8 : Int32) - nI h = nI (8 - h) := by rw [show (8 : Int32) = nI 8 by decide +kernel, nI_sub (by omega)]
  intro j
  induction j with
  | zero =>
    intro c fu T hc hf hS hW
    obtain ⟨fu, rfl⟩ : ∃ z, fu = z + 1 := ⟨fu - 1, by omega⟩
    refine ⟨T, hS, fun h' c' n' h1 h2 => hW h' c' n' h1 (by omega), w10E (iteT ?_ (bIE ?_))⟩
    · rw [e8]; exact nI_lt (by omega) (by omega)
    · rw [nI_1]
  | succ j ih =>
    intro c fu T hc hf hS hW
    obtain ⟨fu, rfl⟩ : ∃ z, fu = z + 1 := ⟨fu - 1, by omega⟩
    obtain ⟨T1, k1, k2, k3⟩ := wo_20 (RD := RD) hT hC lp2 (f_X4_workOutWorth_10 RD lp2 fu) (h := h) (c := c) (by omega) (9 - h - c) 0 100 T (by omega) (by omega) hS hW
    obtain ⟨T2, g1, g2, g3⟩ := ih (c + 1) fu T1 (by omega) (by omega) k1 k2
    refine ⟨T2, g1, g2, w10E (iteF ?_ (k3.trans g3))⟩
    rw [e8]; exact nI_nlt (by omega) (by omega)
theorem wo_2 (hT : TxOk r 0) (hC : ClT r 0 (S.1 5) (S.2 20)) : ∀ (j h fu : Nat) (T : MS), h + j = 9 → j < fu → WSk S T → Wo r T h 0 0 → ∃ T2 : MS, WSk S T2 ∧ Wo r T2 9 0 0 ∧ f_X4_workOutWorth_2 RD fu (nI h) T = some (0, T2) := by
  intro j
  induction j with
  | zero =>
    intro h fu T hh hf hS hW
    obtain rfl : h = 9 := by omega
    obtain ⟨fu, rfl⟩ : ∃ z, fu = z + 1 := ⟨fu - 1, by omega⟩
    exact ⟨T, hS, hW, w2E (iteT (by decide) rfl)⟩
  | succ j ih =>
    intro h fu T hh hf hS hW
    obtain ⟨fu, rfl⟩ : ∃ z, fu = z + 1 := ⟨fu - 1, by omega⟩
    obtain ⟨T1, k1, k2, k3⟩ := wo_10 (RD := RD) hT hC (f_X4_workOutWorth_2 RD fu) (h := h) (by omega) (9 - h) 0 100 T (by omega) (by omega) hS hW
    obtain ⟨T2, g1, g2, g3⟩ := ih (h + 1) fu T1 (by omega) (by omega) k1 k2
    exact ⟨T2, g1, g2, w2E (iteF (nI_nlt (a := 8) (b := h) (by omega) (by decide)) (k3.trans g3))⟩
theorem c_worth (hT : TxOk r 0) (hC : ClT r 0 (S.1 5) (S.2 20)) : ∃ T : MS, WSk S T ∧ (∀ h c n, h + c + n ≤ 8 → T.1 4 ((h * 9 + c) * 9 + n) = rLw r 0 (nI h) (nI c) (nI n)) ∧ f_X4_workOutWorth RD S = some (0, T) := by
  obtain ⟨T, k1, k2, k3⟩ := wo_2 (RD := RD) hT hC 9 0 100 S (by decide) (by decide) ⟨fun _ _ => rfl, fun _ _ => rfl, rfl⟩ (fun h' c' n' h1 h2 => by omega)
  exact ⟨T, k1, fun h c n hs => k2 h c n hs (by omega), k3⟩
end WORTH
/-! texts -/
def rwS (N : MS) (r : Nat → Int32) : MS := (fun c => if c = 1 then r else N.1 c, N.2)
theorem sA_rw (N : MS) (r : Nat → Int32) (j : Nat) (v : Int32) : sA (rwS N r) 1 j v = rwS N (upd r j v) := by
  refine Prod.ext (funext fun c => ?_) rfl
  show (if c = 1 then upd (if 1 = 1 then r else N.1 1) j v else if c = 1 then r else N.1 c) = (if c = 1 then upd r j v else N.1 c)
  by_cases h : c = 1
  · rw [if_pos h, if_pos h, if_pos rfl]
  · rw [if_neg h, if_neg h, if_neg h]
theorem rw_self (N : MS) : rwS N (N.1 1) = N := by
  refine Prod.ext (funext fun c => ?_) rfl
  show (if c = 1 then N.1 1 else N.1 c) = N.1 c
  by_cases h : c = 1
  · rw [if_pos h, h]
  · rw [if_neg h]
/-- the tape laid to a use's place, its first k bytes -/
def cpR (r : Nat → Int32) (u k : Nat) : Nat → Int32 := fun j => if 106 + 50 * u ≤ j ∧ j < 106 + 50 * u + k then r (j - (106 + 50 * u) + 36) else r j
theorem cpR_0 (r : Nat → Int32) (u : Nat) : cpR r u 0 = r := by
  funext j
  exact if_neg (by omega)
theorem cpR_s (r : Nat → Int32) (u k : Nat) : upd (cpR r u k) (106 + 50 * u + k) (r (36 + k)) = cpR r u (k + 1) := by
  funext j
  unfold cpR
  by_cases h : j = 106 + 50 * u + k
  · subst h
    rw [upd_eq, if_pos (by omega)]
    exact congrArg r (by omega)
  · rw [upd_ne h]
    by_cases h2 : 106 + 50 * u ≤ j ∧ j < 106 + 50 * u + k
    · rw [if_pos h2, if_pos (by omega)]
    · rw [if_neg h2, if_neg (by omega)]
theorem cpR_lo (r : Nat → Int32) (u k : Nat) {j : Nat} (h : j < 106) : cpR r u k j = r j := if_neg (by omega)
theorem t30E  {n : Nat} {x1 : Int32} {x2 : Int32} {N : MS} {u : Option (Int32 × MS)} (h : (if (50 ≤ x2 : Prop) then bI (N.1 1 4) fun v5 => gix (6 + x1) 206 fun k6 => cb (f_X12_walks x1 1 1 1 (sA N 1 k6 v5)) fun r9 S7 => if ((S7.2 12) = 0 : Prop) then f_X12_text_105 S7 else if (r9 = r9 : Prop) then f_X12_text_106 1 S7 else f_X12_text_105 S7 else gix (36 + x2) 206 fun k15 => bI (N.1 1 k15) fun v16 => gix ((106 + (50 * x1)) + x2) 206 fun k17 => bI (x2 + 1) fun v18 => (f_X12_text_30 n) x1 v18 (sA N 1 k17 v16)) = u) : f_X12_text_30  (n + 1) x1 x2 N = u := h
theorem r_text_30 {N : MS} {r : Nat → Int32} {u : Nat} (hu : u < 2) : ∀ (j k fu : Nat), k + j = 50 → j < fu → ∀ x : Option (Int32 × MS), (bI (r 4) fun v5 => gix (6 + nI u) 206 fun k6 => cb (f_X12_walks (nI u) 1 1 1 (sA (rwS N (cpR r u 50)) 1 k6 v5)) fun r9 S7 => if ((S7.2 12) = 0 : Prop) then f_X12_text_105 S7 else if (r9 = r9 : Prop) then f_X12_text_106 1 S7 else f_X12_text_105 S7) = x → f_X12_text_30 fu (nI u) (nI k) (rwS N (cpR r u k)) = x := by
  intro j
  induction j with
  | zero =>
    intro k fu hk hf x hx
    obtain rfl : k = 50 := by omega
    obtain ⟨fu, rfl⟩ : ∃ z, fu = z + 1 := ⟨fu - 1, by omega⟩
    have e4 : (rwS N (cpR r u 50)).1 1 4 = r 4 := cpR_lo r u 50 (by decide)
    refine t30E (iteT (by decide) ?_)
    rw [e4]
    exact hx
  | succ j ih =>
    intro k fu hk hf x hx
    obtain ⟨fu, rfl⟩ : ∃ z, fu = z + 1 := ⟨fu - 1, by omega⟩
    have hle : ¬ (50 : Int32) ≤ nI k := fun z => nI_ge (a := k) (b := 50) (by omega) (by decide) z
    have e36 : (36 : Int32) + nI k = nI (36 + k) := by rw [show (36 : Int32) = nI 36 by decide +kernel, nI_add]
    have e106 : (106 + (50 * nI u)) + nI k = nI (106 + 50 * u + k) := by rw [show (106 : Int32) = nI 106 by decide +kernel, show (50 : Int32) = nI 50 by decide +kernel, nI_mul, nI_add, nI_add]
    have ev : (rwS N (cpR r u k)).1 1 (36 + k) = r (36 + k) := cpR_lo r u k (by omega)
    refine t30E (iteF hle (gixE _ e36 (by omega) (by decide) (bIE (gixE _ e106 (by omega) (by decide) (bIE ?_)))))
    rw [ev, sA_rw, cpR_s, nI_1]
    exact ih (k + 1) fu (by omega) (by omega) x hx
theorem gleE {α : Type} {p n : Nat} {k u : Option α} (h : p ≤ n) (hn : n < 2 ^ 31) (h2 : k = u) : gle (nI p) n k = u := (if_pos (by rw [nI_toInt (by omega)]; omega)).trans h2
section TEXT
variable {RD : RDt} {S M : MS}
/-- the lift where a text has been taken -/
theorem Lf.text {r : Nat → Int32} (L : Lf r RD S) {u p : Nat} (hu : u < 2) (hp : p ≤ 50) (h4 : r 4 = nI p) (hG : GoodT u p (fun k => (r (36 + k)).toNatClampNeg)) {S2 : MS} (h7 : S2.2 7 = 0) (hS : ∀ k, k < 20 → ¬ k = 7 → S2.2 k = S.2 k) (hA : ∀ c, c < 4 → S2.1 c = S.1 c) (hl : S2.2 (20 + 10 * u) = nI p) (ha : ∀ k, k < p → ji2b (S2.1 (5 + u) k) = ji2b (S.1 2 k)) (hl2 : S2.2 (20 + 10 * (1 - u)) = S.2 (20 + 10 * (1 - u))) (ha2 : S2.1 (5 + (1 - u)) = S.1 (5 + (1 - u))) (hw : ∀ h c n, h + c + n ≤ 8 → S2.1 4 ((h * 9 + c) * 9 + n) = rLw (upd (upd (cpR r u 50) (6 + u) (r 4)) 4 0) 0 (nI h) (nI c) (nI n)) : Lf (upd (upd (cpR r u 50) (6 + u) (r 4)) 4 0) RD S2 := by
  have hne : ∀ j, ¬ (j = 4 ∨ j = 6 + u ∨ 106 ≤ j) → upd (upd (cpR r u 50) (6 + u) (r 4)) 4 0 j = r j := fun j hj => by
    rw [upd_ne (by omega), upd_ne (by omega), cpR_lo _ _ _ (by omega)]
  have e6 : upd (upd (cpR r u 50) (6 + u) (r 4)) 4 0 (6 + u) = nI p := by rw [upd_ne (by omega), upd_eq, h4]
  have ec : ∀ k, k < 50 → upd (upd (cpR r u 50) (6 + u) (r 4)) 4 0 (106 + 50 * u + k) = r (36 + k) := fun k hk => by
    rw [upd_ne (by omega), upd_ne (by omega)]
    unfold cpR
    rw [if_pos (by omega)]
    exact congrArg r (by omega)
  have hq : TxEq1 r (upd (upd (cpR r u 50) (6 + u) (r 4)) 4 0) (1 - u) := by
    refine ⟨hne _ (by omega), fun k hk => ?_⟩
    rw [upd_ne (by omega), upd_ne (by omega)]
    unfold cpR
    rw [if_neg (by omega)]
  have eL : tL (upd (upd (cpR r u 50) (6 + u) (r 4)) 4 0) u = p := by unfold tL; rw [e6]; exact nI_clamp (by omega)
  have hTx : TxOk (upd (upd (cpR r u 50) (6 + u) (r 4)) 4 0) u := by
    refine Or.inr ⟨by rw [e6]; exact isNI_of (by omega) (by decide), fun k hk => ?_, ?_⟩
    · rw [eL] at hk
      rw [ec k (by omega)]
      exact (L.p.2.2 k (by omega)).1
    · rw [eL]
      exact GoodT_cg (fun k hk => by unfold tB; rw [ec k (by omega)]) hG
  have hCl : ClT (upd (upd (cpR r u 50) (6 + u) (r 4)) 4 0) u (S2.1 (5 + u)) (S2.2 (20 + 10 * u)) := by
    refine Or.inr ⟨by rw [e6]; exact isNI_of (by omega) (by decide), by rw [e6]; exact hl, fun k hk => ?_⟩
    rw [eL] at hk
    rw [ha k hk, (L.p.2.2 k (by omega)).2]
    unfold tB
    rw [ec k (by omega), ← (L.p.2.2 k (by omega)).1.1]
  have hTx2 : TxOk (upd (upd (cpR r u 50) (6 + u) (r 4)) 4 0) (1 - u) ∧ ClT (upd (upd (cpR r u 50) (6 + u) (r 4)) 4 0) (1 - u) (S2.1 (5 + (1 - u))) (S2.2 (20 + 10 * (1 - u))) := by
    obtain ⟨k1, k2⟩ := L.l.cl (u := 1 - u) (by omega)
    rw [hl2, ha2]
    exact ⟨k1.cg1 hq, k2.cg1 hq⟩
  have s0 := hS 0 (by decide) (by decide)
  have s1 := hS 1 (by decide) (by decide)
  have s2 := hS 2 (by decide) (by decide)
  have s3 := hS 3 (by decide) (by decide)
  have s4 := hS 4 (by decide) (by decide)
  have s5 := hS 5 (by decide) (by decide)
  have s6 := hS 6 (by decide) (by decide)
  have s8 := hS 8 (by decide) (by decide)
  have hgl : Gl (upd (upd (cpR r u 50) (6 + u) (r 4)) 4 0) (S2.1 4) (S2.1 5) (S2.1 6) (S2.2 20) (S2.2 30) := by
    have hu2 : u = 0 ∨ u = 1 := by omega
    rcases hu2 with rfl | rfl
    · exact ⟨hTx, hTx2.1, hw, hCl, hTx2.2⟩
    · exact ⟨hTx2.1, hTx, hw, hTx2.2, hCl⟩
  unfold Lf
  rw [s0, s1, s2, s3, s4, s5, s6, s8, h7, hA 1 (by decide), hA 2 (by decide), hA 3 (by decide)]
  exact ⟨L.h.cg (fun j _ _ => hne j (by omega)), L.rr.cg (fun j _ _ => hne j (by omega)), L.n.cg (hne 3 (by omega)), L.t.cg (hne 9 (by omega)), L.w.cg (hne 8 (by omega)), L.d.cg (hne 0 (by omega)), L.x.cg (hne 1 (by omega)), L.z.cg (hne 2 (by omega)), ⟨by rw [upd_eq]; exact isNI_of (k := 0) (by decide) (by decide), by rw [upd_eq], fun k hk => by rw [hne (36 + k) (by omega)]; exact L.p.2.2 k hk⟩, L.q.cg (hne 5 (by omega)) (fun j _ _ => hne j (by omega)), hgl⟩
/-- a take that fails leaves the texts -/
theorem Lf.noText {r : Nat → Int32} (L : Lf r RD S) {S2 : MS} (h7 : S2.2 7 = 0) (hS : ∀ k, k < 20 → ¬ k = 7 → S2.2 k = S.2 k) (hA : ∀ c, c < 5 → S2.1 c = S.1 c) (hl : ∀ u, u < 2 → S2.2 (20 + 10 * u) = S.2 (20 + 10 * u)) (ha : ∀ u, u < 2 → ∀ k, ji2b (S2.1 (5 + u) k) = ji2b (S.1 (5 + u) k)) : Lf (upd r 4 0) RD S2 := by
  have hne : ∀ j, ¬ j = 4 → upd r 4 0 j = r j := fun j hj => upd_ne hj
  have s0 := hS 0 (by decide) (by decide)
  have s1 := hS 1 (by decide) (by decide)
  have s2 := hS 2 (by decide) (by decide)
  have s3 := hS 3 (by decide) (by decide)
  have s4 := hS 4 (by decide) (by decide)
  have s5 := hS 5 (by decide) (by decide)
  have s6 := hS 6 (by decide) (by decide)
  have s8 := hS 8 (by decide) (by decide)
  have cl : ∀ u, u < 2 → ClT r u (S.1 (5 + u)) (S.2 (20 + 10 * u)) → ClT r u (S2.1 (5 + u)) (S2.2 (20 + 10 * u)) := fun u hu g => by
    rw [hl u hu]
    rcases g with g | g
    · exact Or.inl ⟨g.1, g.2.1, fun k hk => (ha u hu k).trans (g.2.2 k hk)⟩
    · exact Or.inr ⟨g.1, g.2.1, fun k hk => (ha u hu k).trans (g.2.2 k hk)⟩
  have hgl : Gl r (S2.1 4) (S2.1 5) (S2.1 6) (S2.2 20) (S2.2 30) := by
    obtain ⟨g1, g2, g3, g4, g5⟩ := L.l
    exact ⟨g1, g2, by rw [hA 4 (by decide)]; exact g3, cl 0 (by decide) g4, cl 1 (by decide) g5⟩
  unfold Lf
  rw [s0, s1, s2, s3, s4, s5, s6, s8, h7, hA 1 (by decide), hA 2 (by decide), hA 3 (by decide)]
  exact ⟨L.h.cg (fun j _ _ => hne j (by omega)), L.rr.cg (fun j _ _ => hne j (by omega)), L.n.cg (hne 3 (by omega)), L.t.cg (hne 9 (by omega)), L.w.cg (hne 8 (by omega)), L.d.cg (hne 0 (by omega)), L.x.cg (hne 1 (by omega)), L.z.cg (hne 2 (by omega)), ⟨isNI_of (k := 0) (by decide) (by decide), rfl, fun k hk => by rw [hne (36 + k) (by omega)]; exact L.p.2.2 k hk⟩, L.q.cg (hne 5 (by omega)) (fun j _ _ => hne j (by omega)), Gl.cg (fun j _ _ _ => hne j (by omega)) hgl⟩
theorem take_both (R : Rel RD S M) {u : Nat} (hu : u < 2) : ∃ (p p' : Nat) (acc : Bool) (v w : Int32), p ≤ 50 ∧ M.1 1 4 = nI p ∧ S.2 7 = nI p ∧ p' ≤ p ∧ (acc = true → p' = p) ∧ f_X2_read (iU u) (tpF S) (S.2 7) (tkV u S) = some (v, CS (tkV u S) p p' acc) ∧ TXr (rwS (sM M 1 4) (upd (cpR (M.1 1) u 50) (6 + u) (M.1 1 4))) u p (fun k => (M.1 1 (36 + k)).toNatClampNeg) ∧ f_X12_walks (nI u) 1 1 1 (rwS (sM M 1 4) (upd (cpR (M.1 1) u 50) (6 + u) (M.1 1 4))) = some (w, RS (wkS (rwS (sM M 1 4) (upd (cpR (M.1 1) u 50) (6 + u) (M.1 1 4))) u p 1 1 1) 0 p' acc) := by
  have L := R.lf
  obtain ⟨p, hp, h4, _⟩ := isNI_ex L.p.1
  have h7 : S.2 7 = nI p := L.p.2.1.trans h4
  have hX : TXr (rwS (sM M 1 4) (upd (cpR (M.1 1) u 50) (6 + u) (M.1 1 4))) u p (fun k => (M.1 1 (36 + k)).toNatClampNeg) := by
    refine ⟨?_, fun k hk => ?_⟩
    · show upd (cpR (M.1 1) u 50) (6 + u) (M.1 1 4) (6 + u) = nI p
      rw [upd_eq, h4]
    · have hh := (L.p.2.2 k (by omega)).1
      refine ⟨?_, hh.2⟩
      show upd (cpR (M.1 1) u 50) (6 + u) (M.1 1 4) (106 + 50 * u + k) = _
      rw [upd_ne (by omega)]
      unfold cpR
      rw [if_pos (by omega), show 106 + 50 * u + k - (106 + 50 * u) + 36 = 36 + k by omega]
      exact hh.1
  have hF : ∀ k, k < p → tpF S k = ji2b (nI (M.1 1 (36 + k)).toNatClampNeg) := fun k hk => by
    have hh := L.p.2.2 k (by omega)
    rw [← hh.1.1]
    exact hh.2
  obtain ⟨p', acc, v, w, g1, g2, g3, g4, g5⟩ := law_sim (NM_u hu) hu (Nat.le_of_lt_succ hp) hX hF (tkV u S) 1 1 1
  exact ⟨p, p', acc, v, w, Nat.le_of_lt_succ hp, h4, h7, g1, g2, by rw [h7]; exact g4, hX, g5⟩
theorem two_text (R : Rel RD S M) (a : Int32) : Two RD M (f_X11_text RD a S) (f_X12_text a M) := by
  have L := R.lf
  cases h1 : inR a 2
  · exact two_err R 1 1 (-1000000001) (by decide) rfl (by decide) (fun y T h => csE (c_isUse a) (iteT (b0 h1) (cbE h rfl))) (fun y T h => csE (r_in (by decide)) (iteT (b0 h1) (cbE h rfl)))
  · obtain ⟨u, hu, rfl, _⟩ := inR_t h1
    obtain ⟨p, p', acc, v, w, hp, h4, h7, hp', hacc, hrd, hX, hwk⟩ := take_both R hu
    have e6 : (6 : Int32) + nI u = nI (6 + u) := by rw [show (6 : Int32) = nI 6 by decide +kernel, nI_add]
    have hr : ∀ x : Option (Int32 × MS), (if ((bif acc then (1 : Int32) else 0) = 0 : Prop) then f_X12_text_105 (RS (wkS (rwS (sM M 1 4) (upd (cpR (M.1 1) u 50) (6 + u) (M.1 1 4))) u p 1 1 1) 0 p' acc) else if (w = w : Prop) then f_X12_text_106 1 (RS (wkS (rwS (sM M 1 4) (upd (cpR (M.1 1) u 50) (6 + u) (M.1 1 4))) u p 1 1 1) 0 p' acc) else f_X12_text_105 (RS (wkS (rwS (sM M 1 4) (upd (cpR (M.1 1) u 50) (6 + u) (M.1 1 4))) u p 1 1 1) 0 p' acc)) = x → f_X12_text (nI u) M = x := fun x h => by
      have h30 := r_text_30 (N := sM M 1 4) (r := M.1 1) hu 50 0 100 (by decide) (by decide) x (by
        refine bIE (gixE (6 + u) e6 (by omega) (by decide) ?_)
        rw [sA_rw]
        exact cbE hwk h)
      rw [cpR_0] at h30
      refine csE (r_in (by decide)) (iteF (b1n h1) ?_)
      have es : rwS (sM M 1 4) (M.1 1) = sM M 1 4 := rw_self (sM M 1 4)
      rw [es] at h30
      exact h30
    have hMK : ∀ N : MS, (∀ c, ¬ c = 1 → ¬ c = 4 → N.1 c = M.1 c) → (∀ k, (k < 2 ∨ 13 ≤ k) → N.2 k = M.2 k) → MK M N := fun N h1 h2 => ⟨fun c hc => h1 c (by omega) (by omega), h2⟩
    have hsc : ∀ k, (k < 2 ∨ 13 ≤ k) → (RS (wkS (rwS (sM M 1 4) (upd (cpR (M.1 1) u 50) (6 + u) (M.1 1 4))) u p 1 1 1) 0 p' acc).2 k = M.2 k := fun k hk => by
      rw [RS_o _ _ _ _ k (by omega) (by omega) (by omega)]
      show (if k = 5 then _ else if k = 7 then _ else if k = 9 then _ else if k = 10 then _ else if k = 11 then _ else M.2 k) = _
      rw [if_neg (by omega), if_neg (by omega), if_neg (by omega), if_neg (by omega), if_neg (by omega)]
    -- the class's take
    have cgo : ∀ (r : Int32) (T4 S7 : MS), f_X2_take (iU u) (tpF S) (S.2 7) (tkV u S) = some (r, T4) → ((0 ≤ r ∧ S7 = sF (tvJ u S T4) 7 0) ∨ (¬ 0 ≤ r ∧ u = 1 ∧ S7 = sF (tvJ u S T4) 7 0) ∨ (¬ 0 ≤ r ∧ u = 0 ∧ f_X4_workOutWorth RD (sF (tvJ u S T4) 7 0) = some (0, S7))) → f_X4_takeTape RD (nI u) S = some (r, S7) := fun r T4 S7 ht hc => by
      have hu2 : u = 0 ∨ u = 1 := by omega
      unfold f_X4_takeTape
      rcases hu2 with rfl | rfl
      · refine iteT rfl (cbE ht ?_)
        rcases hc with ⟨q1, q2⟩ | ⟨q1, q2, q3⟩ | ⟨q1, q2, q3⟩
        · exact iteT q1 (by rw [q2])
        · cases q2
        · exact iteF q1 (iteT rfl (cbE q3 rfl))
      · refine iteF (by decide) (cbE ht ?_)
        rcases hc with ⟨q1, q2⟩ | ⟨q1, q2, q3⟩ | ⟨q1, q2, q3⟩
        · exact iteT q1 (by rw [q2])
        · exact iteF q1 (iteF (by decide) (by rw [q3]))
        · cases q2
    have tv7 : ∀ T4 : MS, (sF (tvJ u S T4) 7 0).2 7 = 0 := fun T4 => sF_at _ _ _
    have tvS : ∀ T4 : MS, ∀ k, k < 20 → ¬ k = 7 → (sF (tvJ u S T4) 7 0).2 k = S.2 k := fun T4 k h1 h2 => by
      rw [sF_ne _ h2]
      show (if 20 + 10 * u ≤ k ∧ k < 27 + 10 * u then _ else if k = 27 + 10 * u then _ else S.2 k) = S.2 k
      rw [if_neg (by omega), if_neg (by omega)]
    have tvl : ∀ T4 : MS, (sF (tvJ u S T4) 7 0).2 (20 + 10 * u) = T4.2 0 := fun T4 => by
      rw [sF_ne _ (by omega)]
      show (if 20 + 10 * u ≤ 20 + 10 * u ∧ 20 + 10 * u < 27 + 10 * u then T4.2 (20 + 10 * u - (20 + 10 * u)) else _) = _
      rw [if_pos (by omega), Nat.sub_self]
    have tvl2 : ∀ T4 : MS, ∀ x, x < 2 → ¬ x = u → (sF (tvJ u S T4) 7 0).2 (20 + 10 * x) = S.2 (20 + 10 * x) := fun T4 x h1 h2 => by
      rw [sF_ne _ (by omega)]
      show (if 20 + 10 * u ≤ 20 + 10 * x ∧ 20 + 10 * x < 27 + 10 * u then _ else if 20 + 10 * x = 27 + 10 * u then _ else S.2 (20 + 10 * x)) = _
      rw [if_neg (by omega), if_neg (by omega)]
    have tvA : ∀ T4 : MS, ∀ c, ¬ c = 5 + u → (sF (tvJ u S T4) 7 0).1 c = S.1 c := fun T4 c hc => if_neg hc
    have tva : ∀ T4 : MS, (sF (tvJ u S T4) 7 0).1 (5 + u) = T4.1 2 := fun T4 => if_pos rfl
    cases acc
    · -- a fault
      have ht : f_X2_take (iU u) (tpF S) (S.2 7) (tkV u S) = some (nI p', tkJ (tkV u S) (CS (tkV u S) p p' false)) := cbE hrd (iteF (show ¬ (1 : Int32) = 0 by decide) rfl)
      have hp0 : (0 : Int32) ≤ nI p' := nI_pos' (by omega)
      have ct := cgo _ _ _ ht (Or.inl ⟨hp0, rfl⟩)
      refine Two.go R (v := -10 - nI p') (S2 := sL S (sF (tvJ u S (tkJ (tkV u S) (CS (tkV u S) p p' false))) 7 0)) (M2 := sA (sM (RS (wkS (rwS (sM M 1 4) (upd (cpR (M.1 1) u 50) (6 + u) (M.1 1 4))) u p 1 1 1) 0 p' false) 4 1) 1 4 0) (csE (c_isUse _) (iteF (b1n h1) (cbE ct (iteT hp0 rfl)))) (hr _ (iteT rfl ?_)) SK.setL (hMK _ (fun c c1 c4 => ?_) hsc) ?_
      · unfold f_X12_text_105 f_X12_text_106
        refine bIE (iteT rfl ?_)
        unfold f_X12_text_129
        exact iteT rfl rfl
      · show (if c = 1 then _ else if c = 1 then _ else if c = 1 then _ else if c = 4 then _ else M.1 c) = M.1 c
        rw [if_neg c1, if_neg c1, if_neg c1, if_neg c4]
      · have hLf : Lf (upd (M.1 1) 4 0) RD (sF (tvJ u S (tkJ (tkV u S) (CS (tkV u S) p p' false))) 7 0) := by
          refine L.noText (tv7 _) (tvS _) (fun c hc => tvA _ c (by omega)) (fun x hx => ?_) (fun x hx k => ?_)
          · by_cases e : x = u
            · subst e; rw [tvl]; rfl
            · exact tvl2 _ x hx e
          · by_cases e : x = u
            · subst e
              rw [tva]
              exact ji2b_ji2b _
            · rw [tvA _ _ (by omega)]
        exact hLf.sLl
    · -- the text stands
      obtain rfl := hacc rfl
      have hcn : (nI p').toNatClampNeg = p' := nI_clamp (by omega)
      have ht : f_X2_take (iU u) (tpF S) (S.2 7) (tkV u S) = some (-1, tkC (tpF S) (sF (tkJ (tkV u S) (CS (tkV u S) p' p' true)) 0 (nI p')) (nI p')) := by
        refine cbE hrd (iteT rfl (bIE ?_))
        have ej : jmin ((tkJ (tkV u S) (CS (tkV u S) p' p' true)).2 1) 50 = nI p' := jmin50 hp
        rw [ej]
        exact gleE hp (by decide) rfl
      generalize hT4 : tkC (tpF S) (sF (tkJ (tkV u S) (CS (tkV u S) p' p' true)) 0 (nI p')) (nI p') = T4 at ht
      have t0 : T4.2 0 = nI p' := by rw [← hT4]; rfl
      have t2 : ∀ k, k < p' → ji2b (T4.1 2 k) = ji2b (S.1 2 k) := fun k hk => by
        rw [← hT4]
        show ji2b (va_cpy (tpF S) _ 0 0 (nI p').toNatClampNeg k) = _
        rw [hcn, pk_cpy_in (by omega) (by omega)]
        show ji2b (ji2b (S.1 2 (0 + (k - 0)))) = _
        rw [ji2b_ji2b, Nat.zero_add, Nat.sub_zero]
      have hG : GoodT u p' (fun k => (M.1 1 (36 + k)).toNatClampNeg) := ⟨_, 1, 1, 1, w, hX, hwk⟩
      have hn1 : ¬ (0 : Int32) ≤ -1 := by decide
      have hfin : ∀ S7 : MS, f_X4_takeTape RD (nI u) S = some (-1, S7) → Lf (upd (upd (cpR (M.1 1) u 50) (6 + u) (M.1 1 4)) 4 0) RD S7 → Two RD M (f_X11_text RD (nI u) S) (f_X12_text (nI u) M) := fun S7 ct hLf => by
        refine Two.go R (v := 1) (S2 := sL S S7) (M2 := sA (RS (wkS (rwS (sM M 1 4) (upd (cpR (M.1 1) u 50) (6 + u) (M.1 1 4))) u p' 1 1 1) 0 p' true) 1 4 0) (csE (c_isUse _) (iteF (b1n h1) (cbE ct (iteF hn1 rfl)))) (hr _ (iteF (by decide) (iteT rfl ?_))) SK.setL (hMK _ (fun c c1 c4 => ?_) hsc) ?_
        · unfold f_X12_text_106
          refine bIE (iteF (by decide) ?_)
          unfold f_X12_text_129
          exact iteF (by decide) rfl
        · show (if c = 1 then _ else if c = 1 then _ else if c = 4 then _ else M.1 c) = M.1 c
          rw [if_neg c1, if_neg c1, if_neg c4]
        · exact hLf.sLl
      have hu2 : u = 0 ∨ u = 1 := by omega
      rcases hu2 with hu0 | hu1
      · subst hu0
        -- the table is made anew
        have hx : ∀ S2 : MS, S2.2 7 = 0 → (∀ k, k < 20 → ¬ k = 7 → S2.2 k = S.2 k) → (∀ c, c < 4 → S2.1 c = S.1 c) → S2.2 20 = nI p' → (∀ k, k < p' → ji2b (S2.1 5 k) = ji2b (S.1 2 k)) → S2.2 30 = S.2 30 → S2.1 6 = S.1 6 → (∀ h c n, h + c + n ≤ 8 → S2.1 4 ((h * 9 + c) * 9 + n) = rLw (upd (upd (cpR (M.1 1) 0 50) (6 + 0) (M.1 1 4)) 4 0) 0 (nI h) (nI c) (nI n)) → Lf (upd (upd (cpR (M.1 1) 0 50) (6 + 0) (M.1 1 4)) 4 0) RD S2 := fun S2 a1 a2 a3 a4 a5 a6 a7 a8 => L.text (u := 0) (by decide) hp h4 hG a1 a2 a3 a4 a5 a6 a7 a8
        have e6' : upd (upd (cpR (M.1 1) 0 50) (6 + 0) (M.1 1 4)) 4 0 (6 + 0) = nI p' := by rw [upd_ne (by omega), upd_eq, h4]
        have ec : ∀ k, k < 50 → upd (upd (cpR (M.1 1) 0 50) (6 + 0) (M.1 1 4)) 4 0 (106 + 50 * 0 + k) = M.1 1 (36 + k) := fun k hk => by
          rw [upd_ne (by omega), upd_ne (by omega)]
          unfold cpR
          rw [if_pos (by omega)]
          exact congrArg (M.1 1) (by omega)
        have eL : tL (upd (upd (cpR (M.1 1) 0 50) (6 + 0) (M.1 1 4)) 4 0) 0 = p' := by unfold tL; rw [e6']; exact hcn
        have hTx : TxOk (upd (upd (cpR (M.1 1) 0 50) (6 + 0) (M.1 1 4)) 4 0) 0 := by
          refine Or.inr ⟨by rw [e6']; exact isNI_of (by omega) (by decide), fun k hk => ?_, ?_⟩
          · rw [eL] at hk
            rw [ec k (by omega)]
            exact (L.p.2.2 k (by omega)).1
          · rw [eL]
            exact GoodT_cg (fun k hk => by unfold tB; rw [ec k (by omega)]) hG
        have hCl : ClT (upd (upd (cpR (M.1 1) 0 50) (6 + 0) (M.1 1 4)) 4 0) 0 ((sF (tvJ 0 S T4) 7 0).1 5) ((sF (tvJ 0 S T4) 7 0).2 20) := by
          refine Or.inr ⟨by rw [e6']; exact isNI_of (by omega) (by decide), by rw [e6']; exact (tvl T4).trans t0, fun k hk => ?_⟩
          rw [eL] at hk
          have h5 : (sF (tvJ 0 S T4) 7 0).1 5 = T4.1 2 := tva T4
          rw [h5, t2 k hk, (L.p.2.2 k (by omega)).2]
          unfold tB
          rw [ec k (by omega), ← (L.p.2.2 k (by omega)).1.1]
        obtain ⟨S7, q1, q2, q3⟩ := c_worth (RD := RD) hTx hCl
        have ct := cgo _ _ S7 ht (Or.inr (Or.inr ⟨hn1, rfl, q3⟩))
        refine hfin S7 ct (hx S7 ?_ ?_ ?_ ?_ ?_ ?_ ?_ q2)
        · rw [q1.2.1 7 (by omega)]; exact tv7 T4
        · intro k k1 k2
          rw [q1.2.1 k (by omega)]; exact tvS T4 k k1 k2
        · intro c c1
          rw [q1.1 c (by omega)]; exact tvA T4 c (by omega)
        · rw [q1.2.2]; exact (tvl T4).trans t0
        · intro k hk
          rw [q1.1 5 (by decide), show (sF (tvJ 0 S T4) 7 0).1 5 = T4.1 2 from tva T4]
          exact t2 k hk
        · rw [q1.2.1 30 (by omega)]; exact tvl2 T4 1 (by decide) (by decide)
        · rw [q1.1 6 (by decide)]; exact tvA T4 6 (by decide)
      · subst hu1
        have ct := cgo _ _ _ ht (Or.inr (Or.inl ⟨hn1, rfl, rfl⟩))
        refine hfin _ ct (L.text (u := 1) (by decide) hp h4 hG (tv7 T4) (tvS T4) (fun c hc => tvA T4 c (by omega)) ((tvl T4).trans t0) (fun k hk => ?_) (tvl2 T4 0 (by decide) (by decide)) (tvA T4 5 (by decide)) (fun h c n hs => ?_))
        · rw [tva T4]; exact t2 k hk
        · rw [tvA T4 4 (by decide), L.l.2.2.1 h c n hs]
          refine (rLw_cg1 (u := 0) ⟨?_, fun k hk => ?_⟩ (by decide) L.l.1 _ _ _).symm
          · rw [upd_ne (by omega), upd_ne (by omega), cpR_lo _ _ _ (by omega)]
          · rw [upd_ne (by omega), upd_ne (by omega)]
            unfold cpR
            rw [if_neg (by omega)]
end TEXT

/-! ===== the reference's row, read ===== -/
def isNI (x : Int32) (n : Nat) : Prop := x = nI x.toNatClampNeg ∧ x.toNatClampNeg < n
theorem isNI_of {k n : Nat} (hk : k < n) (hn : n ≤ 2 ^ 31) : isNI (nI k) n := by
  have e : (nI k).toNatClampNeg = k := nI_clamp (by omega)
  unfold isNI
  rw [e]
  exact ⟨rfl, hk⟩
theorem isNI_ex {x : Int32} {n : Nat} (h : isNI x n) : ∃ k, k < n ∧ x = nI k ∧ x.toNatClampNeg = k := ⟨_, h.2, h.1, rfl⟩
def rE (r : Nat → Int32) (f : Nat) : Nat := (r (10 + f)).toNatClampNeg
def rK (r : Nat → Int32) (i : Nat) : Nat := (r (18 + 3 * i)).toNatClampNeg
def rMm (r : Nat → Int32) (i : Nat) : Nat := (r (18 + 3 * i + 1)).toNatClampNeg
def rS (r : Nat → Int32) (i : Nat) : Nat := (r (18 + 3 * i + 2)).toNatClampNeg
def rN (r : Nat → Int32) : Nat := (r 3).toNatClampNeg
def rT (r : Nat → Int32) : Nat := (r 9).toNatClampNeg
def rW (r : Nat → Int32) : Nat := (r 8).toNatClampNeg
def tL (r : Nat → Int32) (u : Nat) : Nat := (r (6 + u)).toNatClampNeg
def tB (r : Nat → Int32) (u k : Nat) : Nat := (r (106 + 50 * u + k)).toNatClampNeg
def TxOk (r : Nat → Int32) (u : Nat) : Prop := r (6 + u) = -1 ∨ (isNI (r (6 + u)) 51 ∧ (∀ k, k < tL r u → isNI (r (106 + 50 * u + k)) 256) ∧ GoodT u (tL r u) (tB r u))
/-- a row as the reference has it -/
def Wf (r : Nat → Int32) : Prop := (∀ f, f < 8 → isNI (r (10 + f)) 3) ∧ (∀ i, i < 6 → isNI (r (18 + 3 * i)) 7 ∧ isNI (r (18 + 3 * i + 1)) 10 ∧ isNI (r (18 + 3 * i + 2)) 6561) ∧ isNI (r 3) 7 ∧ isNI (r 9) 10 ∧ isNI (r 8) 256 ∧ TxOk r 0 ∧ TxOk r 1
/-- a row of numbers, with what is heard, the rides, the day in place of its own -/
def HR (r : Nat → Int32) (e : Nat → Nat) (x y : Int32) : Nat → Int32 := fun j => if 10 ≤ j ∧ j < 18 then nI (e (j - 10)) else if j = 1 then x else if j = 0 then y else r j
theorem HR_h (r : Nat → Int32) (e : Nat → Nat) (x y : Int32) {f : Nat} (hf : f < 8) : HR r e x y (10 + f) = nI (e f) := by
  show (if 10 ≤ 10 + f ∧ 10 + f < 18 then nI (e (10 + f - 10)) else _) = _
  rw [if_pos (by omega), Nat.add_sub_cancel_left]
theorem HR_o (r : Nat → Int32) (e : Nat → Nat) (x y : Int32) {j : Nat} (h : 2 ≤ j ∧ (j < 10 ∨ 18 ≤ j)) : HR r e x y j = r j := by
  show (if 10 ≤ j ∧ j < 18 then _ else if j = 1 then x else if j = 0 then y else r j) = _
  rw [if_neg (by omega), if_neg (by omega), if_neg (by omega)]
theorem HR_self {r : Nat → Int32} (hW : Wf r) : HR r (rE r) (r 1) (r 0) = r := by
  funext j
  show (if 10 ≤ j ∧ j < 18 then nI (rE r (j - 10)) else if j = 1 then r 1 else if j = 0 then r 0 else r j) = r j
  by_cases h1 : 10 ≤ j ∧ j < 18
  · rw [if_pos h1]
    have h := (hW.1 (j - 10) (by omega)).1
    rw [show 10 + (j - 10) = j by omega] at h
    unfold rE
    rw [show 10 + (j - 10) = j by omega]
    exact h.symm
  · rw [if_neg h1]
    by_cases h2 : j = 1
    · subst h2; rfl
    · rw [if_neg h2]
      by_cases h3 : j = 0
      · subst h3; rfl
      · rw [if_neg h3]
theorem HR_congr {r : Nat → Int32} {d e : Nat → Nat} {x y : Int32} (h : ∀ f, f < 8 → d f = e f) : HR r d x y = HR r e x y := by
  funext j
  show (if 10 ≤ j ∧ j < 18 then nI (d (j - 10)) else _) = (if 10 ≤ j ∧ j < 18 then nI (e (j - 10)) else _)
  by_cases h1 : 10 ≤ j ∧ j < 18
  · rw [if_pos h1, if_pos h1, h _ (by omega)]
  · rw [if_neg h1, if_neg h1]
/-- M2 is M but for the row, r2, and what a walk leaves behind -/
def ME (M M2 : MS) (r2 : Nat → Int32) : Prop := M2.1 1 = r2 ∧ (∀ c, ¬ c = 1 → M2.1 c = M.1 c) ∧ ∀ k, (k < 2 ∨ 13 ≤ k) → M2.2 k = M.2 k
theorem ME.trans {M M2 M3 : MS} {r2 r3 : Nat → Int32} (h : ME M M2 r2) (h2 : ME M2 M3 r3) : ME M M3 r3 := ⟨h2.1, fun c hc => (h2.2.1 c hc).trans (h.2.1 c hc), fun k hk => (h2.2.2 k hk).trans (h.2.2 k hk)⟩
theorem ME.rf {M : MS} : ME M M (M.1 1) := ⟨rfl, fun _ _ => rfl, fun _ _ => rfl⟩
theorem ME.pow {M M2 : MS} {r2 : Nat → Int32} (h : ME M M2 r2) (hP : MPow M) : MPow M2 := fun f hf => by rw [h.2.1 5 (by decide)]; exact hP f hf
/-- what a use gives for its names' values -/
def rLw (r : Nat → Int32) (u : Nat) (a b c : Int32) : Int32 := if r (6 + u) < 0 then heldI (dfV u a b c) (-99) 99 else heldI ((f_X12_walks (nI u) a b c (fun _ => r, fun _ => 0)).elim 0 Prod.fst) (-99) 99
def iU (u : Nat) : Nat := 2 * u
theorem NM_u {u : Nat} (hu : u < 2) : NMok (iU u) u := by
  have hu2 : u = 0 ∨ u = 1 := by omega
  rcases hu2 with rfl | rfl
  · exact nm_0
  · exact nm_1
theorem TxOk.r {M : MS} {u : Nat} (h : isNI (M.1 1 (6 + u)) 51 ∧ (∀ k, k < tL (M.1 1) u → isNI (M.1 1 (106 + 50 * u + k)) 256) ∧ GoodT u (tL (M.1 1) u) (tB (M.1 1) u)) : TXr M u (tL (M.1 1) u) (tB (M.1 1) u) := ⟨h.1.1, fun k hk => ⟨(h.2.1 k hk).1, (h.2.1 k hk).2⟩⟩
theorem neg1 : (-1 : Int32) < 0 := by decide
theorem isNI.pos {x : Int32} {n : Nat} (h : isNI x n) (hn : n ≤ 2 ^ 31) : ¬ x < 0 := by
  have := h.2
  rw [h.1]
  exact nI_pos (by omega)
/-- a walk through a text that stands gives the same from every state that holds the text -/
theorem walk_eq {u en : Nat} {B : Nat → Nat} {M M2 : MS} (hu : u < 2) (hen : en ≤ 50) (hG : GoodT u en B) (hM : TXr M u en B) (hM2 : TXr M2 u en B) (a b c : Int32) : ∃ w : Int32, f_X12_walks (nI u) a b c M = some (w, RS (wkS M u en a b c) 0 en true) ∧ f_X12_walks (nI u) a b c M2 = some (w, RS (wkS M2 u en a b c) 0 en true) := by
  obtain ⟨v, w, h1, h2, h3⟩ := good_run (NM_u hu) hu hen hG hM (F := fun k => ji2b (nI (B k))) (fun _ _ => rfl) (fun _ _ => 0, fun k => if k = 4 then a else if k = 5 then b else c) a b c
  obtain ⟨v2, w2, k1, k2, k3⟩ := good_run (NM_u hu) hu hen hG hM2 (F := fun k => ji2b (nI (B k))) (fun _ _ => rfl) (fun _ _ => 0, fun k => if k = 4 then a else if k = 5 then b else c) a b c
  have e : v = v2 := congrArg Prod.fst (Option.some.inj (h2.symm.trans k2))
  have e1 := h1 rfl rfl rfl
  have e2 := k1 rfl rfl rfl
  exact ⟨w, h3, by rw [k3, ← e2, ← e, e1]⟩
/-- the reference's law, where the text's place is as r has it -/
theorem r_lawOf {r : Nat → Int32} {u : Nat} {M : MS} (hu : u < 2) (hT : TxOk r u) (hr : ∀ j, 6 ≤ j → (j < 8 ∨ 106 ≤ j) → M.1 1 j = r j) (a b c : Int32) : ∃ M2 : MS, M2.1 = M.1 ∧ (∀ k, ¬ (5 ≤ k ∧ k ≤ 12) → M2.2 k = M.2 k) ∧ f_X12_lawOf (nI u) a b c M = some (rLw r u a b c, M2) := by
  have e6 : (6 : Int32) + nI u = nI (6 + u) := by rw [show (6 : Int32) = nI 6 by decide +kernel, nI_add]
  have h6 : M.1 1 (6 + u) = r (6 + u) := hr _ (by omega) (by omega)
  rcases hT with hT | hT
  · refine ⟨M, rfl, fun _ _ => rfl, gixE (6 + u) e6 (by omega) (by decide) (iteT (by rw [h6, hT]; exact neg1) ?_)⟩
    have e : rLw r u a b c = heldI (dfV u a b c) (-99) 99 := if_pos (by rw [hT]; exact neg1)
    rw [e]
    have hu2 : u = 0 ∨ u = 1 := by omega
    rcases hu2 with rfl | rfl
    · exact iteT rfl (csE (r_held _ _ _) rfl)
    · refine iteF (by decide) ?_
      have e2 : dfV 1 a b c = (if b = 0 then 0 else a / b) - (c * 2) := if_neg (by decide)
      rw [e2]
      have h57 : ∀ y : Int32, f_X12_lawOf_57 c y M = some (heldI (y - (c * 2)) (-99) 99, M) := fun y => csE (r_held _ _ _) rfl
      by_cases hb : b = 0
      · exact iteT hb ((h57 0).trans (by rw [if_pos hb]))
      · exact iteF hb (gnzE hb ((h57 (a / b)).trans (by rw [if_neg hb])))
  · have hp : ¬ r (6 + u) < 0 := hT.1.pos (by decide)
    have hen : tL r u ≤ 50 := Nat.le_of_lt_succ hT.1.2
    have hr0 : TXr (fun _ => r, fun _ => 0) u (tL r u) (tB r u) := ⟨hT.1.1, fun k hk => ⟨(hT.2.1 k hk).1, (hT.2.1 k hk).2⟩⟩
    have hM : TXr M u (tL r u) (tB r u) := ⟨h6.trans hT.1.1, fun k hk => ⟨(hr _ (by omega) (by omega)).trans (hT.2.1 k hk).1, (hT.2.1 k hk).2⟩⟩
    obtain ⟨w, h1, h2⟩ := walk_eq hu hen hT.2.2 hM hr0 a b c
    have e : rLw r u a b c = heldI w (-99) 99 := by
      refine (if_neg hp).trans ?_
      rw [h2]
      rfl
    refine ⟨RS (wkS M u (tL r u) a b c) 0 (tL r u) true, rfl, fun k hk => ?_, gixE (6 + u) e6 (by omega) (by decide) (iteF (by rw [h6]; exact hp) (cbE h1 (csE (r_held _ _ _) ?_)))⟩
    · rw [RS_o _ _ _ _ k (by omega) (by omega) (by omega)]
      show (if k = 5 then _ else if k = 7 then _ else if k = 9 then _ else if k = 10 then _ else if k = 11 then _ else M.2 k) = _
      rw [if_neg (by omega), if_neg (by omega), if_neg (by omega), if_neg (by omega), if_neg (by omega)]
    · rw [e]

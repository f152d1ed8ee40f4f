/-! ===== the two parsers, side by side ===== -/
/-- the class's reading: place, end, faulty; the reference's: at, open, good -/
def cP (S : MS) (p e f : Int32) : MS := (S.1, fun k => if k = 2 then p else if k = 1 then e else if k = 3 then f else S.2 k)
def rP (M : MS) (p o g : Int32) : MS := (M.1, fun k => if k = 6 then p else if k = 8 then o else if k = 12 then g else M.2 k)
theorem cP_2 (S : MS) (p e f x : Int32) : sF (cP S p e f) 2 x = cP S x e f := by
  refine Prod.ext rfl (funext fun k => ?_)
  show (if k = 2 then x else if k = 2 then p else _) = (if k = 2 then x else _)
  by_cases h : k = 2
  · rw [if_pos h, if_pos h]
  · rw [if_neg h, if_neg h, if_neg h]
theorem cP_31 (S : MS) (p e f x y : Int32) : sF (sF (cP S p e f) 3 x) 1 y = cP S p y x := by
  refine Prod.ext rfl (funext fun k => ?_)
  show (if k = 1 then y else if k = 3 then x else if k = 2 then p else if k = 1 then e else if k = 3 then f else S.2 k) = (if k = 2 then p else if k = 1 then y else if k = 3 then x else S.2 k)
  by_cases h1 : k = 1
  · subst h1; rfl
  · by_cases h3 : k = 3
    · subst h3; rfl
    · rw [if_neg h1, if_neg h3, if_neg h1, if_neg h3, if_neg h1, if_neg h3]
theorem cP_s1 (S : MS) (p e f : Int32) : (cP S p e f).2 1 = e := rfl
theorem cP_s2 (S : MS) (p e f : Int32) : (cP S p e f).2 2 = p := rfl
theorem cP_s3 (S : MS) (p e f : Int32) : (cP S p e f).2 3 = f := rfl
theorem cP_s4 (S : MS) (p e f : Int32) : (cP S p e f).2 4 = S.2 4 := rfl
theorem cP_s5 (S : MS) (p e f : Int32) : (cP S p e f).2 5 = S.2 5 := rfl
theorem cP_s6 (S : MS) (p e f : Int32) : (cP S p e f).2 6 = S.2 6 := rfl
theorem rP_6 (M : MS) (p o g x : Int32) : sF (rP M p o g) 6 x = rP M x o g := by
  refine Prod.ext rfl (funext fun k => ?_)
  show (if k = 6 then x else if k = 6 then p else _) = (if k = 6 then x else _)
  by_cases h : k = 6
  · rw [if_pos h, if_pos h]
  · rw [if_neg h, if_neg h, if_neg h]
theorem rP_8 (M : MS) (p o g x : Int32) : sF (rP M p o g) 8 x = rP M p x g := by
  refine Prod.ext rfl (funext fun k => ?_)
  show (if k = 8 then x else if k = 6 then p else if k = 8 then o else _) = (if k = 6 then p else if k = 8 then x else _)
  by_cases h : k = 8
  · subst h; rfl
  · rw [if_neg h, if_neg h, if_neg h]
theorem rP_12 (M : MS) (p o g x : Int32) : sF (rP M p o g) 12 x = rP M p o x := by
  refine Prod.ext rfl (funext fun k => ?_)
  show (if k = 12 then x else if k = 6 then p else if k = 8 then o else if k = 12 then g else _) = (if k = 6 then p else if k = 8 then o else if k = 12 then x else _)
  by_cases h : k = 12
  · subst h; rfl
  · rw [if_neg h, if_neg h, if_neg h]
theorem rP_s5 (M : MS) (p o g : Int32) : (rP M p o g).2 5 = M.2 5 := rfl
theorem rP_s6 (M : MS) (p o g : Int32) : (rP M p o g).2 6 = p := rfl
theorem rP_s7 (M : MS) (p o g : Int32) : (rP M p o g).2 7 = M.2 7 := rfl
theorem rP_s8 (M : MS) (p o g : Int32) : (rP M p o g).2 8 = o := rfl
theorem rP_s9 (M : MS) (p o g : Int32) : (rP M p o g).2 9 = M.2 9 := rfl
theorem rP_s10 (M : MS) (p o g : Int32) : (rP M p o g).2 10 = M.2 10 := rfl
theorem rP_s11 (M : MS) (p o g : Int32) : (rP M p o g).2 11 = M.2 11 := rfl
theorem rP_s12 (M : MS) (p o g : Int32) : (rP M p o g).2 12 = g := rfl
def CS (S : MS) (en p : Nat) (ok : Bool) : MS := cP S (nI p) (bif ok then nI en else nI p) (bif ok then 0 else 1)
def RS (M : MS) (o p : Nat) (ok : Bool) : MS := rP M (nI p) (nI o) (bif ok then 1 else 0)
/-- what both read: the text's bytes B (0 to 255), n of them; the class's are signed -/
def TX (u : Nat) (F B : Nat → Int32) (M : MS) (en : Nat) : Prop := en ≤ 50 ∧ u < 2 ∧ M.2 5 = nI u ∧ M.2 7 = nI en ∧ (∀ k, k < 50 → M.1 1 (106 + 50 * u + k) = B k) ∧ (∀ k, k < 50 → F k = ji2b (B k) ∧ ∃ b : Nat, b < 256 ∧ B k = nI b)
/-- the two functions read alike from every place on: same place behind, both faulty or neither; where the names' values agree (V), the same value -/
def Sim (V : Prop) (S M : MS) (en o : Nat) (fc fr : MS → Option (Int32 × MS)) : Prop := ∀ p, p ≤ en → ∃ (p' : Nat) (ok : Bool) (v w : Int32), p' ≤ en ∧ p ≤ p' ∧ (ok = true → p < p') ∧ (V → v = w) ∧ fc (CS S en p true) = some (v, CS S en p' ok) ∧ fr (RS M o p true) = some (w, RS M o p' ok)
theorem c_fail (i : Nat) (F : Nat → Int32) (S : MS) (en p : Nat) (ok : Bool) : f_X2_fail i F (CS S en p ok) = some (0, CS S en p false) := by
  unfold f_X2_fail CS
  simp only [bI_eq, cP_s2, cP_31, cond_false]
theorem r_fails (M : MS) (o p : Nat) (ok : Bool) : f_X12_fails (RS M o p ok) = some (0, RS M o p false) := by
  unfold f_X12_fails RS
  simp only [rP_12, cond_false]
theorem r_end {u : Nat} {F B : Nat → Int32} {M : MS} {en : Nat} (hT : TX u F B M en) {o p : Nat} (ok : Bool) (hp : en ≤ p) (hp2 : p < 100) : f_X12_byteAt (nI p) (RS M o p ok) = some (-1, RS M o p ok) := by
  unfold f_X12_byteAt RS
  rw [rP_s7, hT.2.2.2.1, if_pos (nI_le hp (by omega))]
theorem r_at {u : Nat} {F B : Nat → Int32} {M : MS} {en : Nat} (hT : TX u F B M en) {o p : Nat} (ok : Bool) (hp : p < en) : f_X12_byteAt (nI p) (RS M o p ok) = some (B p, RS M o p ok) := by
  have h50 := hT.1
  unfold f_X12_byteAt RS
  rw [rP_s7, hT.2.2.2.1, if_neg (nI_ge hp (by omega)), rP_s5, hT.2.2.1]
  have hu := hT.2.1
  have e1 : (106 + 50 * nI u) + nI p = nI (106 + 50 * u + p) := by
    rw [show (106 : Int32) = nI 106 by decide +kernel, show (50 : Int32) = nI 50 by decide +kernel, nI_mul, nI_add, nI_add]
  rw [gix_ok e1 (by omega) (by decide)]
  show some (M.1 1 (106 + 50 * u + p), _) = _
  rw [hT.2.2.2.2.1 p (by omega)]
theorem byte_eq : ∀ b, b < 256 → ∀ c, c < 128 → (ji2b (nI b) = nI c) = (b = c) := by decide +kernel

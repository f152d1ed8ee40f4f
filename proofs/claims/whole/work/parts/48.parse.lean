/-! ===== steps: what a guarded term comes to ===== -/
theorem gixE {α : Type} {x : Int32} {n : Nat} {k : Nat → Option α} {u : Option α} (j : Nat) (hx : x = nI j) (hj : j < n) (hn : n < 2 ^ 31) (h : k j = u) : gix x n k = u := (gix_ok hx hj hn).trans h
theorem gnzE {α : Type} {y : Int32} {k u : Option α} (h : ¬ y = 0) (h2 : k = u) : gnz y k = u := (gnz_ok h k).trans h2
theorem gzE {α : Type} {v : Int32} {k u : Option α} (h : v = 0 ∨ v = 1) (h2 : k = u) : gz v k = u := (gz_ok h k).trans h2
theorem bIE {α : Type} {e : Int32} {k : Int32 → Option α} {u : Option α} (h : k e = u) : bI e k = u := h
theorem csE {α : Type} {o : Option Int32} {k : Int32 → Option α} {u : Option α} {r : Int32} (h1 : o = some r) (h2 : k r = u) : cs o k = u := by
  rw [h1]; exact h2
theorem cbE {α σ : Type} {o : Option (Int32 × σ)} {k : Int32 → σ → Option α} {u : Option α} {r : Int32} {S : σ} (h1 : o = some (r, S)) (h2 : k r S = u) : cb o k = u := by
  rw [h1]; exact h2
theorem iteT {α : Type} {c : Prop} {inst : Decidable c} {a b u : α} (h : c) (h2 : a = u) : (if c then a else b) = u := (if_pos h).trans h2
theorem iteF {α : Type} {c : Prop} {inst : Decidable c} {a b u : α} (h : ¬ c) (h2 : b = u) : (if c then a else b) = u := (if_neg h).trans h2
/-! ===== the two parsers, side by side ===== -/
/-- the class's reading: place, end, faulty; the reference's: at, open, good -/
def cP (S : MS) (p e f : Int32) : MS := (S.1, fun k => if k = 2 then p else if k = 1 then e else if k = 3 then f else S.2 k)
def rP (M : MS) (p o g : Int32) : MS := (M.1, fun k => if k = 6 then p else if k = 8 then o else if k = 12 then g else M.2 k)
theorem cP_2 (S : MS) (p e f x : Int32) : sF (cP S p e f) 2 x = cP S x e f := by
  refine Prod.ext rfl (funext fun k => ?_)
  show (if k = 2 then x else if k = 2 then p else _) = (if k = 2 then x else _)
  by_cases h : k = 2
  · rw [if_pos h, if_pos h]
  · rw [if_neg h, if_neg h, if_neg h]
theorem cP_31 (S : MS) (p e f x y : Int32) : sF (sF (cP S p e f) 3 x) 1 y = cP S p y x := by
  refine Prod.ext rfl (funext fun k => ?_)
  show (if k = 1 then y else if k = 3 then x else if k = 2 then p else if k = 1 then e else if k = 3 then f else S.2 k) = (if k = 2 then p else if k = 1 then y else if k = 3 then x else S.2 k)
  by_cases h1 : k = 1
  · subst h1; rfl
  · by_cases h3 : k = 3
    · subst h3; rfl
    · rw [if_neg h1, if_neg h3, if_neg h1, if_neg h3, if_neg h1, if_neg h3]
theorem cP_of (S : MS) (p e f : Int32) : sF (sF (sF S 1 e) 2 p) 3 f = cP S p e f := by
  refine Prod.ext rfl (funext fun k => ?_)
  show (if k = 3 then f else if k = 2 then p else if k = 1 then e else S.2 k) = (if k = 2 then p else if k = 1 then e else if k = 3 then f else S.2 k)
  by_cases h1 : k = 1
  · subst h1; rfl
  · by_cases h3 : k = 3
    · subst h3; rfl
    · by_cases h2 : k = 2
      · subst h2; rfl
      · rw [if_neg h1, if_neg h3, if_neg h2, if_neg h2, if_neg h1, if_neg h3]
theorem rP_6 (M : MS) (p o g x : Int32) : sF (rP M p o g) 6 x = rP M x o g := by
  refine Prod.ext rfl (funext fun k => ?_)
  show (if k = 6 then x else if k = 6 then p else _) = (if k = 6 then x else _)
  by_cases h : k = 6
  · rw [if_pos h, if_pos h]
  · rw [if_neg h, if_neg h, if_neg h]
theorem rP_8 (M : MS) (p o g x : Int32) : sF (rP M p o g) 8 x = rP M p x g := by
  refine Prod.ext rfl (funext fun k => ?_)
  show (if k = 8 then x else if k = 6 then p else if k = 8 then o else _) = (if k = 6 then p else if k = 8 then x else _)
  by_cases h : k = 8
  · subst h; rfl
  · rw [if_neg h, if_neg h, if_neg h]
theorem rP_12 (M : MS) (p o g x : Int32) : sF (rP M p o g) 12 x = rP M p o x := by
  refine Prod.ext rfl (funext fun k => ?_)
  show (if k = 12 then x else if k = 6 then p else if k = 8 then o else if k = 12 then g else _) = (if k = 6 then p else if k = 8 then o else if k = 12 then x else _)
  by_cases h : k = 12
  · subst h; rfl
  · rw [if_neg h, if_neg h, if_neg h]
def CS (S : MS) (en p : Nat) (ok : Bool) : MS := cP S (nI p) (bif ok then nI en else nI p) (bif ok then 0 else 1)
def RS (M : MS) (o p : Nat) (ok : Bool) : MS := rP M (nI p) (nI o) (bif ok then 1 else 0)
theorem CS_1t (S : MS) (en p : Nat) : (CS S en p true).2 1 = nI en := rfl
theorem CS_1f (S : MS) (en p : Nat) : (CS S en p false).2 1 = nI p := rfl
theorem CS_2 (S : MS) (en p : Nat) (ok : Bool) : (CS S en p ok).2 2 = nI p := rfl
theorem CS_3 (S : MS) (en p : Nat) (ok : Bool) : (CS S en p ok).2 3 = (bif ok then 0 else 1) := rfl
theorem CS_o (S : MS) (en p : Nat) (ok : Bool) (k : Nat) (hk : k = 0 ∨ 4 ≤ k) : (CS S en p ok).2 k = S.2 k := by
  show (if k = 2 then _ else if k = 1 then _ else if k = 3 then _ else S.2 k) = _
  rw [if_neg (by omega), if_neg (by omega), if_neg (by omega)]
theorem CS_p (S : MS) (en p p2 : Nat) : sF (CS S en p true) 2 (nI p2) = CS S en p2 true := cP_2 _ _ _ _ _
theorem RS_6 (M : MS) (o p : Nat) (ok : Bool) : (RS M o p ok).2 6 = nI p := rfl
theorem RS_8 (M : MS) (o p : Nat) (ok : Bool) : (RS M o p ok).2 8 = nI o := rfl
theorem RS_12t (M : MS) (o p : Nat) : (RS M o p true).2 12 = 1 := rfl
theorem RS_12f (M : MS) (o p : Nat) : (RS M o p false).2 12 = 0 := rfl
theorem RS_o (M : MS) (o p : Nat) (ok : Bool) (k : Nat) (h6 : ¬ k = 6) (h8 : ¬ k = 8) (h12 : ¬ k = 12) : (RS M o p ok).2 k = M.2 k := by
  show (if k = 6 then _ else if k = 8 then _ else if k = 12 then _ else M.2 k) = _
  rw [if_neg h6, if_neg h8, if_neg h12]
theorem RS_p (M : MS) (o p p2 : Nat) (ok : Bool) : sF (RS M o p ok) 6 (nI p2) = RS M o p2 ok := rP_6 _ _ _ _ _
theorem RS_op (M : MS) (o o2 p : Nat) (ok : Bool) : sF (RS M o p ok) 8 (nI o2) = RS M o2 p ok := rP_8 _ _ _ _ _
/-- what both read: the text's bytes B (0 to 255), n of them; the class's are signed -/
def TX (u : Nat) (F : Nat → Int32) (B : Nat → Nat) (M : MS) (en : Nat) : Prop := en ≤ 50 ∧ u < 2 ∧ M.2 5 = nI u ∧ M.2 7 = nI en ∧ ∀ k, k < en → M.1 1 (106 + 50 * u + k) = nI (B k) ∧ B k < 256 ∧ F k = ji2b (nI (B k))
/-- the two functions read alike from every place on: same place behind, both faulty or neither; where the names' values agree (V), the same value -/
def Sim (V : Prop) (S M : MS) (en o : Nat) (fc fr : MS → Option (Int32 × MS)) : Prop := ∀ p, p ≤ en → ∃ (p' : Nat) (ok : Bool) (v w : Int32), p' ≤ en ∧ p ≤ p' ∧ (ok = true → p < p') ∧ (V → v = w) ∧ fc (CS S en p true) = some (v, CS S en p' ok) ∧ fr (RS M o p true) = some (w, RS M o p' ok)
theorem c_fail (i : Nat) (F : Nat → Int32) (S : MS) (en p : Nat) (ok : Bool) : f_X2_fail i F (CS S en p ok) = some (0, CS S en p false) := by
  show some ((0 : Int32), sF (sF (CS S en p ok) 3 1) 1 (nI p)) = some (0, CS S en p false)
  exact congrArg (fun z => some ((0 : Int32), z)) (cP_31 _ _ _ _ _ _)
theorem r_fails (M : MS) (o p : Nat) (ok : Bool) : f_X12_fails (RS M o p ok) = some (0, RS M o p false) := congrArg (fun z => some ((0 : Int32), z)) (rP_12 _ _ _ _ _)
theorem r_end {u : Nat} {F : Nat → Int32} {B : Nat → Nat} {M : MS} {en : Nat} (hT : TX u F B M en) {o p : Nat} (ok : Bool) (hp : en ≤ p) (hp2 : p < 100) : f_X12_byteAt (nI p) (RS M o p ok) = some (-1, RS M o p ok) := by
  have e7 : (RS M o p ok).2 7 = nI en := (RS_o M o p ok 7 (by decide) (by decide) (by decide)).trans hT.2.2.2.1
  have hle : (RS M o p ok).2 7 ≤ nI p := by rw [e7]; exact nI_le hp (by omega)
  exact iteT hle rfl
theorem r_at {u : Nat} {F : Nat → Int32} {B : Nat → Nat} {M : MS} {en : Nat} (hT : TX u F B M en) {o p : Nat} (ok : Bool) (hp : p < en) : f_X12_byteAt (nI p) (RS M o p ok) = some (nI (B p), RS M o p ok) := by
  have h50 := hT.1
  have hu := hT.2.1
  have e7 : (RS M o p ok).2 7 = nI en := (RS_o M o p ok 7 (by decide) (by decide) (by decide)).trans hT.2.2.2.1
  have e5 : (RS M o p ok).2 5 = nI u := (RS_o M o p ok 5 (by decide) (by decide) (by decide)).trans hT.2.2.1
  have hle : ¬ (RS M o p ok).2 7 ≤ nI p := by rw [e7]; exact nI_ge hp (by omega)
  have e1 : (106 + 50 * (RS M o p ok).2 5) + nI p = nI (106 + 50 * u + p) := by
    rw [e5, show (106 : Int32) = nI 106 by decide +kernel, show (50 : Int32) = nI 50 by decide +kernel, nI_mul, nI_add, nI_add]
  have e2 : (RS M o p ok).1 1 (106 + 50 * u + p) = nI (B p) := (hT.2.2.2.2 p hp).1
  refine iteF hle (gixE (106 + 50 * u + p) e1 (by omega) (by decide) ?_)
  rw [e2]
theorem byte_eq : ∀ b, b < 256 → ∀ c, c < 128 → (ji2b (nI b) = nI c) = (b = c) := by decide +kernel

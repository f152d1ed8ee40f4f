/-! ===== sayings as two sets of facts ===== -/
def b1 (b : Bool) (i : Nat) : BitVec 32 := bif b then BitVec.twoPow 32 i else 0#32
def eB (p q : Nat → Bool) : BitVec 32 := b1 (p 0) 0 ||| b1 (p 1) 1 ||| b1 (p 2) 2 ||| b1 (p 3) 3 ||| b1 (p 4) 4 ||| b1 (p 5) 5 ||| b1 (p 6) 6 ||| b1 (p 7) 7 ||| b1 (q 0) 8 ||| b1 (q 1) 9 ||| b1 (q 2) 10 ||| b1 (q 3) 11 ||| b1 (q 4) 12 ||| b1 (q 5) 13 ||| b1 (q 6) 14 ||| b1 (q 7) 15
theorem b1_get (b : Bool) (i j : Nat) : (b1 b i).getLsbD j = (b && decide (i < 32) && decide (i = j)) := by
  cases b
  · simp [b1]
  · simp [b1, BitVec.getLsbD_twoPow]
theorem eB_get (p q : Nat → Bool) (i : Nat) : (eB p q).getLsbD i = if i < 8 then p i else if i < 16 then q (i - 8) else false := by
  unfold eB
  simp only [BitVec.getLsbD_or, b1_get]
  by_cases h : i < 16
  · match i, h with
    | 0, _ => simp
    | 1, _ => simp
    | 2, _ => simp
    | 3, _ => simp
    | 4, _ => simp
    | 5, _ => simp
    | 6, _ => simp
    | 7, _ => simp
    | 8, _ => simp
    | 9, _ => simp
    | 10, _ => simp
    | 11, _ => simp
    | 12, _ => simp
    | 13, _ => simp
    | 14, _ => simp
    | 15, _ => simp
    | n + 16, h => omega
  · rw [if_neg (by omega), if_neg h]
    simp
    omega
def eP (p q : Nat → Bool) : Int32 := Int32.ofBitVec (eB p q)
theorem eP_bv (p q : Nat → Bool) : (eP p q).toBitVec = eB p q := rfl
theorem i32_ext {x y : Int32} (h : ∀ i, i < 32 → x.toBitVec.getLsbD i = y.toBitVec.getLsbD i) : x = y := by
  apply Int32.toBitVec_inj.mp
  exact BitVec.eq_of_getLsbD_eq h
theorem eP_and (p q p2 q2 : Nat → Bool) : eP p q &&& eP p2 q2 = eP (fun f => p f && p2 f) (fun f => q f && q2 f) := by
  apply i32_ext
  intro i hi
  rw [Int32.toBitVec_and, BitVec.getLsbD_and, eP_bv, eP_bv, eP_bv, eB_get, eB_get, eB_get]
  split
  · rfl
  · split <;> rfl
theorem eP_or (p q p2 q2 : Nat → Bool) : eP p q ||| eP p2 q2 = eP (fun f => p f || p2 f) (fun f => q f || q2 f) := by
  apply i32_ext
  intro i hi
  rw [Int32.toBitVec_or, BitVec.getLsbD_or, eP_bv, eP_bv, eP_bv, eB_get, eB_get, eB_get]
  split
  · rfl
  · split <;> rfl
theorem eP_xor (p q p2 q2 : Nat → Bool) : eP p q ^^^ eP p2 q2 = eP (fun f => p f ^^ p2 f) (fun f => q f ^^ q2 f) := by
  apply i32_ext
  intro i hi
  rw [Int32.toBitVec_xor, BitVec.getLsbD_xor, eP_bv, eP_bv, eP_bv, eB_get, eB_get, eB_get]
  split
  · rfl
  · split <;> rfl
theorem eP_andn (p q p2 q2 : Nat → Bool) : eP p q &&& (eP p2 q2 ^^^ (-1)) = eP (fun f => p f && !p2 f) (fun f => q f && !q2 f) := by
  apply i32_ext
  intro i hi
  have h1 : (-1 : Int32).toBitVec = BitVec.allOnes 32 := by decide
  rw [Int32.toBitVec_and, Int32.toBitVec_xor, h1, BitVec.getLsbD_and, BitVec.getLsbD_xor, eP_bv, eP_bv, eP_bv, eB_get, eB_get, eB_get, BitVec.getLsbD_allOnes, decide_eq_true hi, Bool.xor_true]
  split
  · rfl
  · split <;> rfl

/-! ===== the calls, both sides: rumours, then, when, still, check ===== -/
theorem ushr8 (x : Int32) : ∃ m, m < 2 ^ 24 ∧ jushr x 8 = nI m := by
  have hm : (x.toUInt32 >>> ((8 : Int32).toUInt32 &&& Int32.toUInt32 31)).toNat = x.toUInt32.toNat / 256 := by
    rw [show (8 : Int32).toUInt32 &&& Int32.toUInt32 31 = 8 by decide, UInt32.toNat_shiftRight, show (8 : UInt32).toNat % 32 = 8 by decide, Nat.shiftRight_eq_div_pow]
  have hlt := x.toUInt32.toNat_lt
  refine ⟨(x.toUInt32 >>> ((8 : Int32).toUInt32 &&& Int32.toUInt32 31)).toNat, by rw [hm]; omega, ?_⟩
  generalize x.toUInt32 >>> ((8 : Int32).toUInt32 &&& Int32.toUInt32 31) = y
  apply Int32.toBitVec_inj.mp
  show y.toBitVec = BitVec.ofNat 32 y.toBitVec.toNat
  apply BitVec.eq_of_toNat_eq
  rw [BitVec.toNat_ofNat, Nat.mod_eq_of_lt y.toBitVec.isLt]
theorem drawn_rem (x : Int32) (n : Nat) (h0 : 0 < n) (hn : n < 2 ^ 31) : ∃ f, f < n ∧ jrem (jushr x 8) (nI n) = nI f := by
  obtain ⟨m, hm, e⟩ := ushr8 x
  exact ⟨m % n, Nat.mod_lt _ h0, by rw [e, jrem_nI (by omega) h0 hn]⟩
section CALLS5
variable {RD : RDt} {S M : MS}
theorem sA_sA (N : MS) (j i : Nat) (a b : Int32) : sA (sA N j i a) j i b = sA N j i b := by
  refine Prod.ext (funext fun c => ?_) rfl
  show (if c = j then upd ((sA N j i a).1 j) i b else (sA N j i a).1 c) = (if c = j then upd (N.1 j) i b else N.1 c)
  by_cases h : c = j
  · rw [if_pos h, if_pos h]
    funext z
    show upd (if j = j then upd (N.1 j) i a else N.1 j) i b z = upd (N.1 j) i b z
    rw [if_pos rfl]
    by_cases hz : z = i
    · subst hz; rw [upd_eq, upd_eq]
    · rw [upd_ne hz, upd_ne hz, upd_ne hz]
  · rw [if_neg h, if_neg h]
    exact if_neg h
end CALLS5

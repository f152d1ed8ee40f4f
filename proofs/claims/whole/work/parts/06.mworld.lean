/-! ===== guards: a Lean function of a method is none where an index is out of its row, a divisor 0 ===== -/
def gix {α : Type} (x : Int32) (n : Nat) (k : Nat → Option α) : Option α := if 0 ≤ x.toInt ∧ x.toInt < n then k x.toNatClampNeg else none
theorem gix_open {α : Type} {x : Int32} {n : Nat} {k : Nat → Option α} {u : α} (h : gix x n k = some u) : ∃ j : Nat, x.toNatClampNeg = j ∧ vp_in x n ∧ k j = some u := by
  unfold gix at h
  by_cases q : 0 ≤ x.toInt ∧ x.toInt < n
  · rw [if_pos q] at h
    exact ⟨_, rfl, vp_in_iff.mpr q, h⟩
  · rw [if_neg q] at h
    cases h
theorem gix_ok {α : Type} {x : Int32} {n j : Nat} {k : Nat → Option α} (hx : x = nI j) (hj : j < n) (hn : n < 2 ^ 31) : gix x n k = k j := by
  subst hx
  unfold gix
  rw [nI_toInt (by omega), nI_clamp (by omega), if_pos (by omega)]
def gnz {α : Type} (y : Int32) (k : Option α) : Option α := if y = 0 then none else k
theorem gnz_open {α : Type} {y : Int32} {k : Option α} {u : α} (h : gnz y k = some u) : ¬ y = 0 ∧ k = some u := by
  unfold gnz at h
  by_cases q : y = 0
  · rw [if_pos q] at h
    cases h
  · rw [if_neg q] at h
    exact ⟨q, h⟩
def gz {α : Type} (v : Int32) (k : Option α) : Option α := if v = 0 ∨ v = 1 then k else none
theorem gz_open {α : Type} {v : Int32} {k : Option α} {u : α} (h : gz v k = some u) : (v = 0 ∨ v = 1) ∧ k = some u := by
  unfold gz at h
  by_cases q : v = 0 ∨ v = 1
  · rw [if_pos q] at h
    exact ⟨q, h⟩
  · rw [if_neg q] at h
    cases h
theorem nar_z {v : Int32} (h : v = 0 ∨ v = 1) : narrow .boolean (.int v) = .int v := by
  rcases h with rfl | rfl <;> rfl
def bI {α : Type} (e : Int32) (k : Int32 → Option α) : Option α := k e
theorem bI_open {α : Type} {e : Int32} {k : Int32 → Option α} {u : α} (h : bI e k = some u) : ∃ x : Int32, x = e ∧ k x = some u := ⟨e, rfl, h⟩
def cs {α : Type} (o : Option Int32) (k : Int32 → Option α) : Option α := match o with
  | none => none
  | some r => k r
theorem cs_open {α : Type} {o : Option Int32} {k : Int32 → Option α} {u : α} (h : cs o k = some u) : ∃ r : Int32, o = some r ∧ k r = some u := by
  cases o with
  | none => cases h
  | some r => exact ⟨r, rfl, h⟩
def cb {α σ : Type} (o : Option (Int32 × σ)) (k : Int32 → σ → Option α) : Option α := match o with
  | none => none
  | some r => k r.1 r.2
theorem cb_open {α σ : Type} {o : Option (Int32 × σ)} {k : Int32 → σ → Option α} {u : α} (h : cb o k = some u) : ∃ (r : Int32) (S : σ), o = some (r, S) ∧ k r S = some u := by
  cases o with
  | none => cases h
  | some r => exact ⟨r.1, r.2, rfl, h⟩
theorem ite_t {α : Type} {c : Prop} {inst : Decidable c} {a b u : α} (h : c) (hf : (if c then a else b) = u) : a = u := by
  rw [if_pos h] at hf
  exact hf
theorem ite_f {α : Type} {c : Prop} {inst : Decidable c} {a b u : α} (h : ¬ c) (hf : (if c then a else b) = u) : b = u := by
  rw [if_neg h] at hf
  exact hf
theorem vpc {x : Int32} {n : Nat} (h : decide (0 ≤ x.toInt ∧ x.toInt < n) = true) : vp_in x n := vp_in_iff.mpr (of_decide_eq_true h)
def jrem (x y : Int32) : Int32 := x - x / y * y
def jshl (x y : Int32) : Int32 := x <<< (y &&& 31)
def jshr (x y : Int32) : Int32 := x >>> (y &&& 31)
def jushr (x y : Int32) : Int32 := (x.toUInt32 >>> (y.toUInt32 &&& Int32.toUInt32 31)).toInt32
def ji2b (x : Int32) : Int32 := x.toInt8.toInt32
def ji2s (x : Int32) : Int32 := x.toInt16.toInt32
def ji2c (x : Int32) : Int32 := (x.toUInt32 % 65536).toInt32
def jmin (x y : Int32) : Int32 := if y < x then y else x
def jmax (x y : Int32) : Int32 := if x < y then y else x
def jlshl (x : Int64) (y : Int32) : Int64 := x <<< (y.toInt64 &&& 63)
def jlshr (x : Int64) (y : Int32) : Int64 := x >>> (y.toInt64 &&& 63)
section SHORT
variable {X : Cx} {cc : ByteArray} {nL ce sl pc : Nat} {own : String} {lv lv' : List (Nat × Value)} {st : List Value} {ws : va_W} {dX mcX msX : Nat} {retX : Option FieldType} {PostX : Option Value → va_W → Prop}
theorem g_jrem (hX : Ok X cc nL own) {x y : Int32} (hne : ¬ y = 0) (hdg : decode cc pc = .ok (.irem, 1)) (k : G X nL ce sl (pc + 1) lv (.int (jrem x y) :: st) ws) : G X nL ce sl pc lv (.int y :: .int x :: st) ws := g_irem hX hne hdg k
theorem g_jshl (hX : Ok X cc nL own) {x y : Int32} (hdg : decode cc pc = .ok (.ishl, 1)) (k : G X nL ce sl (pc + 1) lv (.int (jshl x y) :: st) ws) : G X nL ce sl pc lv (.int y :: .int x :: st) ws := g_ishl hX hdg k
theorem g_jshr (hX : Ok X cc nL own) {x y : Int32} (hdg : decode cc pc = .ok (.ishr, 1)) (k : G X nL ce sl (pc + 1) lv (.int (jshr x y) :: st) ws) : G X nL ce sl pc lv (.int y :: .int x :: st) ws := g_ishr hX hdg k
theorem g_jushr (hX : Ok X cc nL own) {x y : Int32} (hdg : decode cc pc = .ok (.iushr, 1)) (k : G X nL ce sl (pc + 1) lv (.int (jushr x y) :: st) ws) : G X nL ce sl pc lv (.int y :: .int x :: st) ws := g_iushr hX hdg k
theorem g_ji2b (hX : Ok X cc nL own) {x : Int32} (hdg : decode cc pc = .ok (.i2b, 1)) (k : G X nL ce sl (pc + 1) lv (.int (ji2b x) :: st) ws) : G X nL ce sl pc lv (.int x :: st) ws := g_i2b hX hdg k
theorem g_ji2s (hX : Ok X cc nL own) {x : Int32} (hdg : decode cc pc = .ok (.i2s, 1)) (k : G X nL ce sl (pc + 1) lv (.int (ji2s x) :: st) ws) : G X nL ce sl pc lv (.int x :: st) ws := g_i2s hX hdg k
theorem g_ji2c (hX : Ok X cc nL own) {x : Int32} (hdg : decode cc pc = .ok (.i2c, 1)) (k : G X nL ce sl (pc + 1) lv (.int (ji2c x) :: st) ws) : G X nL ce sl pc lv (.int x :: st) ws := g_i2c hX hdg k
theorem g_jlshl (hX : Ok X cc nL own) {x : Int64} {y : Int32} (hdg : decode cc pc = .ok (.lshl, 1)) (k : G X nL ce sl (pc + 1) lv (.long (jlshl x y) :: st) ws) : G X nL ce sl pc lv (.int y :: .long x :: st) ws := g_lshl hX hdg k
theorem g_jlshr (hX : Ok X cc nL own) {x : Int64} {y : Int32} (hdg : decode cc pc = .ok (.lshr, 1)) (k : G X nL ce sl (pc + 1) lv (.long (jlshr x y) :: st) ws) : G X nL ce sl pc lv (.int y :: .long x :: st) ws := g_lshr hX hdg k
theorem g_jmin (hX : Ok X cc nL own) (hq : Rq X dX mcX msX retX PostX) {idx : Nat} (hw : KwM own idx Lib.Math.min.name Lib.Math.min.code) (hd : 0 < dX) (hc : ce ≤ mcX) (hs : sl ≤ msX) (hcat : (st.map fun v => v.category).sum ≤ 8) {x y : Int32} (hdg : decode cc pc = .ok (.invokestatic idx, 3)) (kk : G X nL ce sl (pc + 3) lv (.int (jmin x y) :: st) ws) : G X nL ce sl pc lv (.int y :: .int x :: st) ws := g_min hX hq hw hd hc hs hcat hdg kk
theorem g_jmax (hX : Ok X cc nL own) (hq : Rq X dX mcX msX retX PostX) {idx : Nat} (hw : KwM own idx Lib.Math.max.name Lib.Math.max.code) (hd : 0 < dX) (hc : ce ≤ mcX) (hs : sl ≤ msX) (hcat : (st.map fun v => v.category).sum ≤ 8) {x y : Int32} (hdg : decode cc pc = .ok (.invokestatic idx, 3)) (kk : G X nL ce sl (pc + 3) lv (.int (jmax x y) :: st) ws) : G X nL ce sl pc lv (.int y :: .int x :: st) ws := g_max hX hq hw hd hc hs hcat hdg kk
theorem g_tsin (hX : Ok X cc nL own) (tgt : Nat) {x k : Int32} (h : x = k) {dflt lo hi : Int} {offs : Array Int} {len : Nat} {off : Int} (h12 : ¬ k.toInt < lo ∧ ¬ hi < k.toInt) (ho : offs[(k.toInt - lo).toNat]? = some off) (ht : (pc : Int) + off = (tgt : Int)) (hdg : decode cc pc = .ok (.tableswitch dflt lo hi offs, len)) (kk : G X nL ce sl tgt lv st ws) : G X nL ce sl pc lv (.int x :: st) ws := by
  subst h
  exact fun H locs ls hP hD hS h => lv_tableIn hX.hx hX.hb hdg h12.1 h12.2 ho ht (kk H locs ls hP hD hS h)
theorem g_tsout (hX : Ok X cc nL own) (tgt : Nat) {x : Int32} {dflt lo hi : Int} {offs : Array Int} {len : Nat} (h12 : x.toInt < lo ∨ hi < x.toInt) (ht : (pc : Int) + dflt = (tgt : Int)) (hdg : decode cc pc = .ok (.tableswitch dflt lo hi offs, len)) (kk : G X nL ce sl tgt lv st ws) : G X nL ce sl pc lv (.int x :: st) ws :=
  fun H locs ls hP hD hS h => lv_tableOut hX.hx hX.hb hdg h12 ht (kk H locs ls hP hD hS h)
end SHORT
theorem tsw_ne {x k : Int32} (h : ¬ x = k) : ¬ x.toInt = k.toInt := fun q => h (Int32.toInt_inj.mp q)
theorem tsw_out_0_8 {x : Int32} (h0 : ¬ x = 0) (h1 : ¬ x = 1) (h2 : ¬ x = 2) (h3 : ¬ x = 3) (h4 : ¬ x = 4) (h5 : ¬ x = 5) (h6 : ¬ x = 6) (h7 : ¬ x = 7) (h8 : ¬ x = 8) : x.toInt < 0 ∨ 8 < x.toInt := by
  have g0 : ¬ x.toInt = 0 := tsw_ne h0
  have g1 : ¬ x.toInt = 1 := tsw_ne h1
  have g2 : ¬ x.toInt = 2 := tsw_ne h2
  have g3 : ¬ x.toInt = 3 := tsw_ne h3
  have g4 : ¬ x.toInt = 4 := tsw_ne h4
  have g5 : ¬ x.toInt = 5 := tsw_ne h5
  have g6 : ¬ x.toInt = 6 := tsw_ne h6
  have g7 : ¬ x.toInt = 7 := tsw_ne h7
  have g8 : ¬ x.toInt = 8 := tsw_ne h8
  omega
theorem tsw_out_0_2 {x : Int32} (h0 : ¬ x = 0) (h1 : ¬ x = 1) (h2 : ¬ x = 2) : x.toInt < 0 ∨ 2 < x.toInt := by
  have g0 : ¬ x.toInt = 0 := tsw_ne h0
  have g1 : ¬ x.toInt = 1 := tsw_ne h1
  have g2 : ¬ x.toInt = 2 := tsw_ne h2
  omega
theorem tsw_out_0_10 {x : Int32} (h0 : ¬ x = 0) (h1 : ¬ x = 1) (h2 : ¬ x = 2) (h3 : ¬ x = 3) (h4 : ¬ x = 4) (h5 : ¬ x = 5) (h6 : ¬ x = 6) (h7 : ¬ x = 7) (h8 : ¬ x = 8) (h9 : ¬ x = 9) (h10 : ¬ x = 10) : x.toInt < 0 ∨ 10 < x.toInt := by
  have g0 : ¬ x.toInt = 0 := tsw_ne h0
  have g1 : ¬ x.toInt = 1 := tsw_ne h1
  have g2 : ¬ x.toInt = 2 := tsw_ne h2
  have g3 : ¬ x.toInt = 3 := tsw_ne h3
  have g4 : ¬ x.toInt = 4 := tsw_ne h4
  have g5 : ¬ x.toInt = 5 := tsw_ne h5
  have g6 : ¬ x.toInt = 6 := tsw_ne h6
  have g7 : ¬ x.toInt = 7 := tsw_ne h7
  have g8 : ¬ x.toInt = 8 := tsw_ne h8
  have g9 : ¬ x.toInt = 9 := tsw_ne h9
  have g10 : ¬ x.toInt = 10 := tsw_ne h10
  omega
theorem tsw_out_1_6 {x : Int32} (h1 : ¬ x = 1) (h2 : ¬ x = 2) (h3 : ¬ x = 3) (h4 : ¬ x = 4) (h5 : ¬ x = 5) (h6 : ¬ x = 6) : x.toInt < 1 ∨ 6 < x.toInt := by
  have g1 : ¬ x.toInt = 1 := tsw_ne h1
  have g2 : ¬ x.toInt = 2 := tsw_ne h2
  have g3 : ¬ x.toInt = 3 := tsw_ne h3
  have g4 : ¬ x.toInt = 4 := tsw_ne h4
  have g5 : ¬ x.toInt = 5 := tsw_ne h5
  have g6 : ¬ x.toInt = 6 := tsw_ne h6
  omega
theorem tsw_out_3_9 {x : Int32} (h3 : ¬ x = 3) (h4 : ¬ x = 4) (h5 : ¬ x = 5) (h6 : ¬ x = 6) (h7 : ¬ x = 7) (h8 : ¬ x = 8) (h9 : ¬ x = 9) : x.toInt < 3 ∨ 9 < x.toInt := by
  have g3 : ¬ x.toInt = 3 := tsw_ne h3
  have g4 : ¬ x.toInt = 4 := tsw_ne h4
  have g5 : ¬ x.toInt = 5 := tsw_ne h5
  have g6 : ¬ x.toInt = 6 := tsw_ne h6
  have g7 : ¬ x.toInt = 7 := tsw_ne h7
  have g8 : ¬ x.toInt = 8 := tsw_ne h8
  have g9 : ¬ x.toInt = 9 := tsw_ne h9
  omega
theorem tsw_out_1_5 {x : Int32} (h1 : ¬ x = 1) (h2 : ¬ x = 2) (h3 : ¬ x = 3) (h4 : ¬ x = 4) (h5 : ¬ x = 5) : x.toInt < 1 ∨ 5 < x.toInt := by
  have g1 : ¬ x.toInt = 1 := tsw_ne h1
  have g2 : ¬ x.toInt = 2 := tsw_ne h2
  have g3 : ¬ x.toInt = 3 := tsw_ne h3
  have g4 : ¬ x.toInt = 4 := tsw_ne h4
  have g5 : ¬ x.toInt = 5 := tsw_ne h5
  omega
theorem inX12 : ∀ w ∈ u_ws RX12 TX12 29, w ∈ wU := u_inU (fun k hk => match k, hk with
  | 0, _ => wd_5_5
  | 1, _ => wd_5_7
  | 2, _ => wd_5_9
  | 3, _ => wd_5_11
  | 4, _ => wd_5_13
  | 5, _ => wd_5_15
  | 6, _ => wd_5_17
  | 7, _ => wd_5_19
  | 8, _ => wd_5_21
  | 9, _ => wd_5_23
  | 10, _ => wd_5_25
  | 11, _ => wd_5_27
  | 12, _ => wd_5_29
  | 13, _ => wd_5_31
  | 14, _ => wd_5_33
  | 15, _ => wd_5_35
  | 16, _ => wd_5_37
  | 17, _ => wd_5_39
  | 18, _ => wd_5_41
  | 19, _ => wd_5_43
  | 20, _ => wd_5_45
  | 21, _ => wd_5_47
  | 22, _ => wd_5_49
  | 23, _ => wd_5_51
  | 24, _ => wd_5_53
  | 25, _ => wd_5_55
  | 26, _ => wd_5_57
  | 27, _ => wd_5_59
  | 28, _ => wd_5_61
  | k + 29, hk => absurd hk (by omega))
/-! ===== the reference's world ===== -/
abbrev MS : Type := (Nat → Nat → Int32) × (Nat → Int32)
def sF (S : MS) (k : Nat) (v : Int32) : MS := (S.1, upd S.2 k v)
def sA (S : MS) (j i : Nat) (v : Int32) : MS := (fun a => if a = j then upd (S.1 j) i v else S.1 a, S.2)
def sM (S : MS) (a b : Nat) : MS := (fun c => if c = b then S.1 a else S.1 c, S.2)
abbrev mW (E : En) (ad : Nat → Nat) (S : MS) : va_W := [(ad 0, .inr (12, [.ref (ad 1), .ref (ad 2), .ref (ad 3), .ref (ad 4), .ref (ad 5), .int (S.2 0), .int (S.2 1), .ref (ad 6), .int (S.2 2), .int (S.2 3), .int (S.2 4), .int (S.2 5), .int (S.2 6), .int (S.2 7), .int (S.2 8), .int (S.2 9), .int (S.2 10), .int (S.2 11), .int (S.2 12), .ref (ad 7), .ref (ad 8), .ref (ad 9), .ref (ad 10), .ref (ad 11), .ref (ad 12), .int (S.2 13), .int (S.2 14), .int (S.2 15), .int (S.2 16)])), (ad 1, .inl (E.cI, 206, .inl (S.1 1))), (ad 2, .inl (E.cI, 206, .inl (S.1 2))), (ad 3, .inl (E.cI, 206, .inl (S.1 3))), (ad 4, .inl (E.cI, 206, .inl (S.1 4))), (ad 5, .inl (E.cI, 8, .inl (S.1 5))), (ad 6, .inl (E.cI, 6, .inl (S.1 6))), (ad 7, .inl (E.cI, 4, .inl (S.1 7))), (ad 8, .inl (E.cI, 4, .inl (S.1 8))), (ad 9, .inl (E.cI, 160, .inl (S.1 9))), (ad 10, .inl (E.cI, 40, .inl (S.1 10))), (ad 11, .inl (E.cI, 8, .inl (S.1 11))), (ad 12, .inl (E.cI, 40, .inl (S.1 12)))]
section MWR
variable {X : Cx} {cc : ByteArray} {nL ce sl pc : Nat} {lv : List (Nat × Value)} {st : List Value} {ad : Nat → Nat} {S : MS} {dX mcX msX : Nat} {retX : Option FieldType} {PostX : Option Value → va_W → Prop}
theorem mg_row (hX : Ok X cc nL RX12) (hdg : decode cc pc = .ok (.getfield 7, 3)) (kk : G X nL ce sl (pc + 3) lv (.ref (ad 1) :: st) (mW X.E ad S)) : G X nL ce sl pc lv (.ref (ad 0) :: st) (mW X.E ad S) := g_get (C := RX12) (T := TX12) (N := 29) hX inX12 0 rfl rfl 0 (by decide) wd_4_216 (fun _ h => h) rfl hdg kk
theorem ml_row {own : String} (hX : Ok X cc nL own) {i v : Int32} (hin : vp_in i 206) (j : Nat) (hj : i.toNatClampNeg = j) (hv : S.1 1 j = v) (hdg : decode cc pc = .ok (.iaload, 1)) (kk : G X nL ce sl (pc + 1) lv (.int v :: st) (mW X.E ad S)) : G X nL ce sl pc lv (.int i :: .ref (ad 1) :: st) (mW X.E ad S) := by
  subst hv
  exact g_iald hX 1 (n := 206) (f := S.1 1) rfl hin j hj hdg kk
theorem ms_row {own : String} (hX : Ok X cc nL own) {i x : Int32} (hin : vp_in i 206) (j : Nat) (hj : i.toNatClampNeg = j) (hdg : decode cc pc = .ok (.iastore, 1)) (kk : G X nL ce sl (pc + 1) lv st (mW X.E ad (sA S 1 j x))) : G X nL ce sl pc lv (.int x :: .int i :: .ref (ad 1) :: st) (mW X.E ad S) := g_iast hX 1 (n := 206) (f := S.1 1) rfl hin j hj (mW X.E ad (sA S 1 j x)) rfl hdg kk
theorem mg_kept (hX : Ok X cc nL RX12) (hdg : decode cc pc = .ok (.getfield 13, 3)) (kk : G X nL ce sl (pc + 3) lv (.ref (ad 2) :: st) (mW X.E ad S)) : G X nL ce sl pc lv (.ref (ad 0) :: st) (mW X.E ad S) := g_get (C := RX12) (T := TX12) (N := 29) hX inX12 0 rfl rfl 1 (by decide) wd_4_217 (fun _ h => h) rfl hdg kk
theorem ml_kept {own : String} (hX : Ok X cc nL own) {i v : Int32} (hin : vp_in i 206) (j : Nat) (hj : i.toNatClampNeg = j) (hv : S.1 2 j = v) (hdg : decode cc pc = .ok (.iaload, 1)) (kk : G X nL ce sl (pc + 1) lv (.int v :: st) (mW X.E ad S)) : G X nL ce sl pc lv (.int i :: .ref (ad 2) :: st) (mW X.E ad S) := by
  subst hv
  exact g_iald hX 2 (n := 206) (f := S.1 2) rfl hin j hj hdg kk
theorem ms_kept {own : String} (hX : Ok X cc nL own) {i x : Int32} (hin : vp_in i 206) (j : Nat) (hj : i.toNatClampNeg = j) (hdg : decode cc pc = .ok (.iastore, 1)) (kk : G X nL ce sl (pc + 1) lv st (mW X.E ad (sA S 2 j x))) : G X nL ce sl pc lv (.int x :: .int i :: .ref (ad 2) :: st) (mW X.E ad S) := g_iast hX 2 (n := 206) (f := S.1 2) rfl hin j hj (mW X.E ad (sA S 2 j x)) rfl hdg kk
theorem mg_tried (hX : Ok X cc nL RX12) (hdg : decode cc pc = .ok (.getfield 16, 3)) (kk : G X nL ce sl (pc + 3) lv (.ref (ad 3) :: st) (mW X.E ad S)) : G X nL ce sl pc lv (.ref (ad 0) :: st) (mW X.E ad S) := g_get (C := RX12) (T := TX12) (N := 29) hX inX12 0 rfl rfl 2 (by decide) wd_4_218 (fun _ h => h) rfl hdg kk
theorem ml_tried {own : String} (hX : Ok X cc nL own) {i v : Int32} (hin : vp_in i 206) (j : Nat) (hj : i.toNatClampNeg = j) (hv : S.1 3 j = v) (hdg : decode cc pc = .ok (.iaload, 1)) (kk : G X nL ce sl (pc + 1) lv (.int v :: st) (mW X.E ad S)) : G X nL ce sl pc lv (.int i :: .ref (ad 3) :: st) (mW X.E ad S) := by
  subst hv
  exact g_iald hX 3 (n := 206) (f := S.1 3) rfl hin j hj hdg kk
theorem ms_tried {own : String} (hX : Ok X cc nL own) {i x : Int32} (hin : vp_in i 206) (j : Nat) (hj : i.toNatClampNeg = j) (hdg : decode cc pc = .ok (.iastore, 1)) (kk : G X nL ce sl (pc + 1) lv st (mW X.E ad (sA S 3 j x))) : G X nL ce sl pc lv (.int x :: .int i :: .ref (ad 3) :: st) (mW X.E ad S) := g_iast hX 3 (n := 206) (f := S.1 3) rfl hin j hj (mW X.E ad (sA S 3 j x)) rfl hdg kk
theorem mg_before (hX : Ok X cc nL RX12) (hdg : decode cc pc = .ok (.getfield 19, 3)) (kk : G X nL ce sl (pc + 3) lv (.ref (ad 4) :: st) (mW X.E ad S)) : G X nL ce sl pc lv (.ref (ad 0) :: st) (mW X.E ad S) := g_get (C := RX12) (T := TX12) (N := 29) hX inX12 0 rfl rfl 3 (by decide) wd_4_219 (fun _ h => h) rfl hdg kk
theorem ml_before {own : String} (hX : Ok X cc nL own) {i v : Int32} (hin : vp_in i 206) (j : Nat) (hj : i.toNatClampNeg = j) (hv : S.1 4 j = v) (hdg : decode cc pc = .ok (.iaload, 1)) (kk : G X nL ce sl (pc + 1) lv (.int v :: st) (mW X.E ad S)) : G X nL ce sl pc lv (.int i :: .ref (ad 4) :: st) (mW X.E ad S) := by
  subst hv
  exact g_iald hX 4 (n := 206) (f := S.1 4) rfl hin j hj hdg kk
theorem ms_before {own : String} (hX : Ok X cc nL own) {i x : Int32} (hin : vp_in i 206) (j : Nat) (hj : i.toNatClampNeg = j) (hdg : decode cc pc = .ok (.iastore, 1)) (kk : G X nL ce sl (pc + 1) lv st (mW X.E ad (sA S 4 j x))) : G X nL ce sl pc lv (.int x :: .int i :: .ref (ad 4) :: st) (mW X.E ad S) := g_iast hX 4 (n := 206) (f := S.1 4) rfl hin j hj (mW X.E ad (sA S 4 j x)) rfl hdg kk
theorem mg_power (hX : Ok X cc nL RX12) (hdg : decode cc pc = .ok (.getfield 22, 3)) (kk : G X nL ce sl (pc + 3) lv (.ref (ad 5) :: st) (mW X.E ad S)) : G X nL ce sl pc lv (.ref (ad 0) :: st) (mW X.E ad S) := g_get (C := RX12) (T := TX12) (N := 29) hX inX12 0 rfl rfl 4 (by decide) wd_4_220 (fun _ h => h) rfl hdg kk
theorem ml_power {own : String} (hX : Ok X cc nL own) {i v : Int32} (hin : vp_in i 8) (j : Nat) (hj : i.toNatClampNeg = j) (hv : S.1 5 j = v) (hdg : decode cc pc = .ok (.iaload, 1)) (kk : G X nL ce sl (pc + 1) lv (.int v :: st) (mW X.E ad S)) : G X nL ce sl pc lv (.int i :: .ref (ad 5) :: st) (mW X.E ad S) := by
  subst hv
  exact g_iald hX 5 (n := 8) (f := S.1 5) rfl hin j hj hdg kk
theorem ms_power {own : String} (hX : Ok X cc nL own) {i x : Int32} (hin : vp_in i 8) (j : Nat) (hj : i.toNatClampNeg = j) (hdg : decode cc pc = .ok (.iastore, 1)) (kk : G X nL ce sl (pc + 1) lv st (mW X.E ad (sA S 5 j x))) : G X nL ce sl pc lv (.int x :: .int i :: .ref (ad 5) :: st) (mW X.E ad S) := g_iast hX 5 (n := 8) (f := S.1 5) rfl hin j hj (mW X.E ad (sA S 5 j x)) rfl hdg kk
theorem mg_isKept (hX : Ok X cc nL RX12) {v : Int32} (hv : S.2 0 = v) (hdg : decode cc pc = .ok (.getfield 251, 3)) (kk : G X nL ce sl (pc + 3) lv (.int v :: st) (mW X.E ad S)) : G X nL ce sl pc lv (.ref (ad 0) :: st) (mW X.E ad S) := by
  subst hv
  exact g_get (C := RX12) (T := TX12) (N := 29) hX inX12 0 rfl rfl 5 (by decide) wd_4_221 (fun _ h => h) rfl hdg kk
theorem mp_isKept (hX : Ok X cc nL RX12) {v : Int32} (hz : v = 0 ∨ v = 1) (hdg : decode cc pc = .ok (.putfield 251, 3)) (kk : G X nL ce sl (pc + 3) lv st (mW X.E ad (sF S 0 v))) : G X nL ce sl pc lv (.int v :: .ref (ad 0) :: st) (mW X.E ad S) := g_put (C := RX12) (T := TX12) (N := 29) (ty := .boolean) hX inX12 tyX12 tyX12_ok nmX12 0 rfl rfl 5 (by decide) wd_4_221 (fun _ h => h) rfl (by decide +kernel) (nar_z hz) (by rcases hz with rfl | rfl <;> rfl) (Nat.le_of_ble_eq_true rfl) (mW X.E ad (sF S 0 v)) rfl hdg kk
theorem mg_images (hX : Ok X cc nL RX12) {v : Int32} (hv : S.2 1 = v) (hdg : decode cc pc = .ok (.getfield 254, 3)) (kk : G X nL ce sl (pc + 3) lv (.int v :: st) (mW X.E ad S)) : G X nL ce sl pc lv (.ref (ad 0) :: st) (mW X.E ad S) := by
  subst hv
  exact g_get (C := RX12) (T := TX12) (N := 29) hX inX12 0 rfl rfl 6 (by decide) wd_4_222 (fun _ h => h) rfl hdg kk
theorem mp_images (hX : Ok X cc nL RX12) {v : Int32} (hdg : decode cc pc = .ok (.putfield 254, 3)) (kk : G X nL ce sl (pc + 3) lv st (mW X.E ad (sF S 1 v))) : G X nL ce sl pc lv (.int v :: .ref (ad 0) :: st) (mW X.E ad S) := g_put (C := RX12) (T := TX12) (N := 29) (ty := .int) hX inX12 tyX12 tyX12_ok nmX12 0 rfl rfl 6 (by decide) wd_4_222 (fun _ h => h) rfl (by decide +kernel) rfl rfl (Nat.le_of_ble_eq_true rfl) (mW X.E ad (sF S 1 v)) rfl hdg kk
theorem mg_found (hX : Ok X cc nL RX12) (hdg : decode cc pc = .ok (.getfield 25, 3)) (kk : G X nL ce sl (pc + 3) lv (.ref (ad 6) :: st) (mW X.E ad S)) : G X nL ce sl pc lv (.ref (ad 0) :: st) (mW X.E ad S) := g_get (C := RX12) (T := TX12) (N := 29) hX inX12 0 rfl rfl 7 (by decide) wd_4_223 (fun _ h => h) rfl hdg kk
theorem ml_found {own : String} (hX : Ok X cc nL own) {i v : Int32} (hin : vp_in i 6) (j : Nat) (hj : i.toNatClampNeg = j) (hv : S.1 6 j = v) (hdg : decode cc pc = .ok (.iaload, 1)) (kk : G X nL ce sl (pc + 1) lv (.int v :: st) (mW X.E ad S)) : G X nL ce sl pc lv (.int i :: .ref (ad 6) :: st) (mW X.E ad S) := by
  subst hv
  exact g_iald hX 6 (n := 6) (f := S.1 6) rfl hin j hj hdg kk
theorem ms_found {own : String} (hX : Ok X cc nL own) {i x : Int32} (hin : vp_in i 6) (j : Nat) (hj : i.toNatClampNeg = j) (hdg : decode cc pc = .ok (.iastore, 1)) (kk : G X nL ce sl (pc + 1) lv st (mW X.E ad (sA S 6 j x))) : G X nL ce sl pc lv (.int x :: .int i :: .ref (ad 6) :: st) (mW X.E ad S) := g_iast hX 6 (n := 6) (f := S.1 6) rfl hin j hj (mW X.E ad (sA S 6 j x)) rfl hdg kk
theorem mg_as (hX : Ok X cc nL RX12) {v : Int32} (hv : S.2 2 = v) (hdg : decode cc pc = .ok (.getfield 65, 3)) (kk : G X nL ce sl (pc + 3) lv (.int v :: st) (mW X.E ad S)) : G X nL ce sl pc lv (.ref (ad 0) :: st) (mW X.E ad S) := by
  subst hv
  exact g_get (C := RX12) (T := TX12) (N := 29) hX inX12 0 rfl rfl 8 (by decide) wd_4_224 (fun _ h => h) rfl hdg kk
theorem mp_as (hX : Ok X cc nL RX12) {v : Int32} (hdg : decode cc pc = .ok (.putfield 65, 3)) (kk : G X nL ce sl (pc + 3) lv st (mW X.E ad (sF S 2 v))) : G X nL ce sl pc lv (.int v :: .ref (ad 0) :: st) (mW X.E ad S) := g_put (C := RX12) (T := TX12) (N := 29) (ty := .int) hX inX12 tyX12 tyX12_ok nmX12 0 rfl rfl 8 (by decide) wd_4_224 (fun _ h => h) rfl (by decide +kernel) rfl rfl (Nat.le_of_ble_eq_true rfl) (mW X.E ad (sF S 2 v)) rfl hdg kk
theorem mg_other (hX : Ok X cc nL RX12) {v : Int32} (hv : S.2 3 = v) (hdg : decode cc pc = .ok (.getfield 69, 3)) (kk : G X nL ce sl (pc + 3) lv (.int v :: st) (mW X.E ad S)) : G X nL ce sl pc lv (.ref (ad 0) :: st) (mW X.E ad S) := by
  subst hv
  exact g_get (C := RX12) (T := TX12) (N := 29) hX inX12 0 rfl rfl 9 (by decide) wd_4_225 (fun _ h => h) rfl hdg kk
theorem mp_other (hX : Ok X cc nL RX12) {v : Int32} (hdg : decode cc pc = .ok (.putfield 69, 3)) (kk : G X nL ce sl (pc + 3) lv st (mW X.E ad (sF S 3 v))) : G X nL ce sl pc lv (.int v :: .ref (ad 0) :: st) (mW X.E ad S) := g_put (C := RX12) (T := TX12) (N := 29) (ty := .int) hX inX12 tyX12 tyX12_ok nmX12 0 rfl rfl 9 (by decide) wd_4_225 (fun _ h => h) rfl (by decide +kernel) rfl rfl (Nat.le_of_ble_eq_true rfl) (mW X.E ad (sF S 3 v)) rfl hdg kk
theorem mg_fresh (hX : Ok X cc nL RX12) {v : Int32} (hv : S.2 4 = v) (hdg : decode cc pc = .ok (.getfield 72, 3)) (kk : G X nL ce sl (pc + 3) lv (.int v :: st) (mW X.E ad S)) : G X nL ce sl pc lv (.ref (ad 0) :: st) (mW X.E ad S) := by
  subst hv
  exact g_get (C := RX12) (T := TX12) (N := 29) hX inX12 0 rfl rfl 10 (by decide) wd_4_226 (fun _ h => h) rfl hdg kk
theorem mp_fresh (hX : Ok X cc nL RX12) {v : Int32} (hdg : decode cc pc = .ok (.putfield 72, 3)) (kk : G X nL ce sl (pc + 3) lv st (mW X.E ad (sF S 4 v))) : G X nL ce sl pc lv (.int v :: .ref (ad 0) :: st) (mW X.E ad S) := g_put (C := RX12) (T := TX12) (N := 29) (ty := .int) hX inX12 tyX12 tyX12_ok nmX12 0 rfl rfl 10 (by decide) wd_4_226 (fun _ h => h) rfl (by decide +kernel) rfl rfl (Nat.le_of_ble_eq_true rfl) (mW X.E ad (sF S 4 v)) rfl hdg kk
theorem mg_use (hX : Ok X cc nL RX12) {v : Int32} (hv : S.2 5 = v) (hdg : decode cc pc = .ok (.getfield 120, 3)) (kk : G X nL ce sl (pc + 3) lv (.int v :: st) (mW X.E ad S)) : G X nL ce sl pc lv (.ref (ad 0) :: st) (mW X.E ad S) := by
  subst hv
  exact g_get (C := RX12) (T := TX12) (N := 29) hX inX12 0 rfl rfl 11 (by decide) wd_4_227 (fun _ h => h) rfl hdg kk
theorem mp_use (hX : Ok X cc nL RX12) {v : Int32} (hdg : decode cc pc = .ok (.putfield 120, 3)) (kk : G X nL ce sl (pc + 3) lv st (mW X.E ad (sF S 5 v))) : G X nL ce sl pc lv (.int v :: .ref (ad 0) :: st) (mW X.E ad S) := g_put (C := RX12) (T := TX12) (N := 29) (ty := .int) hX inX12 tyX12 tyX12_ok nmX12 0 rfl rfl 11 (by decide) wd_4_227 (fun _ h => h) rfl (by decide +kernel) rfl rfl (Nat.le_of_ble_eq_true rfl) (mW X.E ad (sF S 5 v)) rfl hdg kk
theorem mg_at (hX : Ok X cc nL RX12) {v : Int32} (hv : S.2 6 = v) (hdg : decode cc pc = .ok (.getfield 127, 3)) (kk : G X nL ce sl (pc + 3) lv (.int v :: st) (mW X.E ad S)) : G X nL ce sl pc lv (.ref (ad 0) :: st) (mW X.E ad S) := by
  subst hv
  exact g_get (C := RX12) (T := TX12) (N := 29) hX inX12 0 rfl rfl 12 (by decide) wd_4_228 (fun _ h => h) rfl hdg kk
theorem mp_at (hX : Ok X cc nL RX12) {v : Int32} (hdg : decode cc pc = .ok (.putfield 127, 3)) (kk : G X nL ce sl (pc + 3) lv st (mW X.E ad (sF S 6 v))) : G X nL ce sl pc lv (.int v :: .ref (ad 0) :: st) (mW X.E ad S) := g_put (C := RX12) (T := TX12) (N := 29) (ty := .int) hX inX12 tyX12 tyX12_ok nmX12 0 rfl rfl 12 (by decide) wd_4_228 (fun _ h => h) rfl (by decide +kernel) rfl rfl (Nat.le_of_ble_eq_true rfl) (mW X.E ad (sF S 6 v)) rfl hdg kk
theorem mg_end (hX : Ok X cc nL RX12) {v : Int32} (hv : S.2 7 = v) (hdg : decode cc pc = .ok (.getfield 117, 3)) (kk : G X nL ce sl (pc + 3) lv (.int v :: st) (mW X.E ad S)) : G X nL ce sl pc lv (.ref (ad 0) :: st) (mW X.E ad S) := by
  subst hv
  exact g_get (C := RX12) (T := TX12) (N := 29) hX inX12 0 rfl rfl 13 (by decide) wd_4_229 (fun _ h => h) rfl hdg kk
theorem mp_end (hX : Ok X cc nL RX12) {v : Int32} (hdg : decode cc pc = .ok (.putfield 117, 3)) (kk : G X nL ce sl (pc + 3) lv st (mW X.E ad (sF S 7 v))) : G X nL ce sl pc lv (.int v :: .ref (ad 0) :: st) (mW X.E ad S) := g_put (C := RX12) (T := TX12) (N := 29) (ty := .int) hX inX12 tyX12 tyX12_ok nmX12 0 rfl rfl 13 (by decide) wd_4_229 (fun _ h => h) rfl (by decide +kernel) rfl rfl (Nat.le_of_ble_eq_true rfl) (mW X.E ad (sF S 7 v)) rfl hdg kk
theorem mg_open (hX : Ok X cc nL RX12) {v : Int32} (hv : S.2 8 = v) (hdg : decode cc pc = .ok (.getfield 154, 3)) (kk : G X nL ce sl (pc + 3) lv (.int v :: st) (mW X.E ad S)) : G X nL ce sl pc lv (.ref (ad 0) :: st) (mW X.E ad S) := by
  subst hv
  exact g_get (C := RX12) (T := TX12) (N := 29) hX inX12 0 rfl rfl 14 (by decide) wd_4_230 (fun _ h => h) rfl hdg kk
theorem mp_open (hX : Ok X cc nL RX12) {v : Int32} (hdg : decode cc pc = .ok (.putfield 154, 3)) (kk : G X nL ce sl (pc + 3) lv st (mW X.E ad (sF S 8 v))) : G X nL ce sl pc lv (.int v :: .ref (ad 0) :: st) (mW X.E ad S) := g_put (C := RX12) (T := TX12) (N := 29) (ty := .int) hX inX12 tyX12 tyX12_ok nmX12 0 rfl rfl 14 (by decide) wd_4_230 (fun _ h => h) rfl (by decide +kernel) rfl rfl (Nat.le_of_ble_eq_true rfl) (mW X.E ad (sF S 8 v)) rfl hdg kk
theorem mg_namedA (hX : Ok X cc nL RX12) {v : Int32} (hv : S.2 9 = v) (hdg : decode cc pc = .ok (.getfield 139, 3)) (kk : G X nL ce sl (pc + 3) lv (.int v :: st) (mW X.E ad S)) : G X nL ce sl pc lv (.ref (ad 0) :: st) (mW X.E ad S) := by
  subst hv
  exact g_get (C := RX12) (T := TX12) (N := 29) hX inX12 0 rfl rfl 15 (by decide) wd_4_231 (fun _ h => h) rfl hdg kk
theorem mp_namedA (hX : Ok X cc nL RX12) {v : Int32} (hdg : decode cc pc = .ok (.putfield 139, 3)) (kk : G X nL ce sl (pc + 3) lv st (mW X.E ad (sF S 9 v))) : G X nL ce sl pc lv (.int v :: .ref (ad 0) :: st) (mW X.E ad S) := g_put (C := RX12) (T := TX12) (N := 29) (ty := .int) hX inX12 tyX12 tyX12_ok nmX12 0 rfl rfl 15 (by decide) wd_4_231 (fun _ h => h) rfl (by decide +kernel) rfl rfl (Nat.le_of_ble_eq_true rfl) (mW X.E ad (sF S 9 v)) rfl hdg kk
theorem mg_namedB (hX : Ok X cc nL RX12) {v : Int32} (hv : S.2 10 = v) (hdg : decode cc pc = .ok (.getfield 142, 3)) (kk : G X nL ce sl (pc + 3) lv (.int v :: st) (mW X.E ad S)) : G X nL ce sl pc lv (.ref (ad 0) :: st) (mW X.E ad S) := by
  subst hv
  exact g_get (C := RX12) (T := TX12) (N := 29) hX inX12 0 rfl rfl 16 (by decide) wd_4_232 (fun _ h => h) rfl hdg kk
theorem mp_namedB (hX : Ok X cc nL RX12) {v : Int32} (hdg : decode cc pc = .ok (.putfield 142, 3)) (kk : G X nL ce sl (pc + 3) lv st (mW X.E ad (sF S 10 v))) : G X nL ce sl pc lv (.int v :: .ref (ad 0) :: st) (mW X.E ad S) := g_put (C := RX12) (T := TX12) (N := 29) (ty := .int) hX inX12 tyX12 tyX12_ok nmX12 0 rfl rfl 16 (by decide) wd_4_232 (fun _ h => h) rfl (by decide +kernel) rfl rfl (Nat.le_of_ble_eq_true rfl) (mW X.E ad (sF S 10 v)) rfl hdg kk
theorem mg_namedC (hX : Ok X cc nL RX12) {v : Int32} (hv : S.2 11 = v) (hdg : decode cc pc = .ok (.getfield 145, 3)) (kk : G X nL ce sl (pc + 3) lv (.int v :: st) (mW X.E ad S)) : G X nL ce sl pc lv (.ref (ad 0) :: st) (mW X.E ad S) := by
  subst hv
  exact g_get (C := RX12) (T := TX12) (N := 29) hX inX12 0 rfl rfl 17 (by decide) wd_4_233 (fun _ h => h) rfl hdg kk
theorem mp_namedC (hX : Ok X cc nL RX12) {v : Int32} (hdg : decode cc pc = .ok (.putfield 145, 3)) (kk : G X nL ce sl (pc + 3) lv st (mW X.E ad (sF S 11 v))) : G X nL ce sl pc lv (.int v :: .ref (ad 0) :: st) (mW X.E ad S) := g_put (C := RX12) (T := TX12) (N := 29) (ty := .int) hX inX12 tyX12 tyX12_ok nmX12 0 rfl rfl 17 (by decide) wd_4_233 (fun _ h => h) rfl (by decide +kernel) rfl rfl (Nat.le_of_ble_eq_true rfl) (mW X.E ad (sF S 11 v)) rfl hdg kk
theorem mg_good (hX : Ok X cc nL RX12) {v : Int32} (hv : S.2 12 = v) (hdg : decode cc pc = .ok (.getfield 123, 3)) (kk : G X nL ce sl (pc + 3) lv (.int v :: st) (mW X.E ad S)) : G X nL ce sl pc lv (.ref (ad 0) :: st) (mW X.E ad S) := by
  subst hv
  exact g_get (C := RX12) (T := TX12) (N := 29) hX inX12 0 rfl rfl 18 (by decide) wd_4_234 (fun _ h => h) rfl hdg kk
theorem mp_good (hX : Ok X cc nL RX12) {v : Int32} (hz : v = 0 ∨ v = 1) (hdg : decode cc pc = .ok (.putfield 123, 3)) (kk : G X nL ce sl (pc + 3) lv st (mW X.E ad (sF S 12 v))) : G X nL ce sl pc lv (.int v :: .ref (ad 0) :: st) (mW X.E ad S) := g_put (C := RX12) (T := TX12) (N := 29) (ty := .boolean) hX inX12 tyX12 tyX12_ok nmX12 0 rfl rfl 18 (by decide) wd_4_234 (fun _ h => h) rfl (by decide +kernel) (nar_z hz) (by rcases hz with rfl | rfl <;> rfl) (Nat.le_of_ble_eq_true rfl) (mW X.E ad (sF S 12 v)) rfl hdg kk
theorem mg_bitsOf (hX : Ok X cc nL RX12) (hdg : decode cc pc = .ok (.getfield 28, 3)) (kk : G X nL ce sl (pc + 3) lv (.ref (ad 7) :: st) (mW X.E ad S)) : G X nL ce sl pc lv (.ref (ad 0) :: st) (mW X.E ad S) := g_get (C := RX12) (T := TX12) (N := 29) hX inX12 0 rfl rfl 19 (by decide) wd_4_235 (fun _ h => h) rfl hdg kk
theorem ml_bitsOf {own : String} (hX : Ok X cc nL own) {i v : Int32} (hin : vp_in i 4) (j : Nat) (hj : i.toNatClampNeg = j) (hv : S.1 7 j = v) (hdg : decode cc pc = .ok (.iaload, 1)) (kk : G X nL ce sl (pc + 1) lv (.int v :: st) (mW X.E ad S)) : G X nL ce sl pc lv (.int i :: .ref (ad 7) :: st) (mW X.E ad S) := by
  subst hv
  exact g_iald hX 7 (n := 4) (f := S.1 7) rfl hin j hj hdg kk
theorem ms_bitsOf {own : String} (hX : Ok X cc nL own) {i x : Int32} (hin : vp_in i 4) (j : Nat) (hj : i.toNatClampNeg = j) (hdg : decode cc pc = .ok (.iastore, 1)) (kk : G X nL ce sl (pc + 1) lv st (mW X.E ad (sA S 7 j x))) : G X nL ce sl pc lv (.int x :: .int i :: .ref (ad 7) :: st) (mW X.E ad S) := g_iast hX 7 (n := 4) (f := S.1 7) rfl hin j hj (mW X.E ad (sA S 7 j x)) rfl hdg kk
theorem mg_sizeOf (hX : Ok X cc nL RX12) (hdg : decode cc pc = .ok (.getfield 31, 3)) (kk : G X nL ce sl (pc + 3) lv (.ref (ad 8) :: st) (mW X.E ad S)) : G X nL ce sl pc lv (.ref (ad 0) :: st) (mW X.E ad S) := g_get (C := RX12) (T := TX12) (N := 29) hX inX12 0 rfl rfl 20 (by decide) wd_4_236 (fun _ h => h) rfl hdg kk
theorem ml_sizeOf {own : String} (hX : Ok X cc nL own) {i v : Int32} (hin : vp_in i 4) (j : Nat) (hj : i.toNatClampNeg = j) (hv : S.1 8 j = v) (hdg : decode cc pc = .ok (.iaload, 1)) (kk : G X nL ce sl (pc + 1) lv (.int v :: st) (mW X.E ad S)) : G X nL ce sl pc lv (.int i :: .ref (ad 8) :: st) (mW X.E ad S) := by
  subst hv
  exact g_iald hX 8 (n := 4) (f := S.1 8) rfl hin j hj hdg kk
theorem ms_sizeOf {own : String} (hX : Ok X cc nL own) {i x : Int32} (hin : vp_in i 4) (j : Nat) (hj : i.toNatClampNeg = j) (hdg : decode cc pc = .ok (.iastore, 1)) (kk : G X nL ce sl (pc + 1) lv st (mW X.E ad (sA S 8 j x))) : G X nL ce sl pc lv (.int x :: .int i :: .ref (ad 8) :: st) (mW X.E ad S) := g_iast hX 8 (n := 4) (f := S.1 8) rfl hin j hj (mW X.E ad (sA S 8 j x)) rfl hdg kk
theorem mg_sheets (hX : Ok X cc nL RX12) (hdg : decode cc pc = .ok (.getfield 34, 3)) (kk : G X nL ce sl (pc + 3) lv (.ref (ad 9) :: st) (mW X.E ad S)) : G X nL ce sl pc lv (.ref (ad 0) :: st) (mW X.E ad S) := g_get (C := RX12) (T := TX12) (N := 29) hX inX12 0 rfl rfl 21 (by decide) wd_4_237 (fun _ h => h) rfl hdg kk
theorem ml_sheets {own : String} (hX : Ok X cc nL own) {i v : Int32} (hin : vp_in i 160) (j : Nat) (hj : i.toNatClampNeg = j) (hv : S.1 9 j = v) (hdg : decode cc pc = .ok (.iaload, 1)) (kk : G X nL ce sl (pc + 1) lv (.int v :: st) (mW X.E ad S)) : G X nL ce sl pc lv (.int i :: .ref (ad 9) :: st) (mW X.E ad S) := by
  subst hv
  exact g_iald hX 9 (n := 160) (f := S.1 9) rfl hin j hj hdg kk
theorem ms_sheets {own : String} (hX : Ok X cc nL own) {i x : Int32} (hin : vp_in i 160) (j : Nat) (hj : i.toNatClampNeg = j) (hdg : decode cc pc = .ok (.iastore, 1)) (kk : G X nL ce sl (pc + 1) lv st (mW X.E ad (sA S 9 j x))) : G X nL ce sl pc lv (.int x :: .int i :: .ref (ad 9) :: st) (mW X.E ad S) := g_iast hX 9 (n := 160) (f := S.1 9) rfl hin j hj (mW X.E ad (sA S 9 j x)) rfl hdg kk
theorem mg_moved (hX : Ok X cc nL RX12) (hdg : decode cc pc = .ok (.getfield 37, 3)) (kk : G X nL ce sl (pc + 3) lv (.ref (ad 10) :: st) (mW X.E ad S)) : G X nL ce sl pc lv (.ref (ad 0) :: st) (mW X.E ad S) := g_get (C := RX12) (T := TX12) (N := 29) hX inX12 0 rfl rfl 22 (by decide) wd_4_238 (fun _ h => h) rfl hdg kk
theorem ml_moved {own : String} (hX : Ok X cc nL own) {i v : Int32} (hin : vp_in i 40) (j : Nat) (hj : i.toNatClampNeg = j) (hv : S.1 10 j = v) (hdg : decode cc pc = .ok (.iaload, 1)) (kk : G X nL ce sl (pc + 1) lv (.int v :: st) (mW X.E ad S)) : G X nL ce sl pc lv (.int i :: .ref (ad 10) :: st) (mW X.E ad S) := by
  subst hv
  exact g_iald hX 10 (n := 40) (f := S.1 10) rfl hin j hj hdg kk
theorem ms_moved {own : String} (hX : Ok X cc nL own) {i x : Int32} (hin : vp_in i 40) (j : Nat) (hj : i.toNatClampNeg = j) (hdg : decode cc pc = .ok (.iastore, 1)) (kk : G X nL ce sl (pc + 1) lv st (mW X.E ad (sA S 10 j x))) : G X nL ce sl pc lv (.int x :: .int i :: .ref (ad 10) :: st) (mW X.E ad S) := g_iast hX 10 (n := 40) (f := S.1 10) rfl hin j hj (mW X.E ad (sA S 10 j x)) rfl hdg kk
theorem mg_floors (hX : Ok X cc nL RX12) (hdg : decode cc pc = .ok (.getfield 40, 3)) (kk : G X nL ce sl (pc + 3) lv (.ref (ad 11) :: st) (mW X.E ad S)) : G X nL ce sl pc lv (.ref (ad 0) :: st) (mW X.E ad S) := g_get (C := RX12) (T := TX12) (N := 29) hX inX12 0 rfl rfl 23 (by decide) wd_4_239 (fun _ h => h) rfl hdg kk
theorem ml_floors {own : String} (hX : Ok X cc nL own) {i v : Int32} (hin : vp_in i 8) (j : Nat) (hj : i.toNatClampNeg = j) (hv : S.1 11 j = v) (hdg : decode cc pc = .ok (.iaload, 1)) (kk : G X nL ce sl (pc + 1) lv (.int v :: st) (mW X.E ad S)) : G X nL ce sl pc lv (.int i :: .ref (ad 11) :: st) (mW X.E ad S) := by
  subst hv
  exact g_iald hX 11 (n := 8) (f := S.1 11) rfl hin j hj hdg kk
theorem ms_floors {own : String} (hX : Ok X cc nL own) {i x : Int32} (hin : vp_in i 8) (j : Nat) (hj : i.toNatClampNeg = j) (hdg : decode cc pc = .ok (.iastore, 1)) (kk : G X nL ce sl (pc + 1) lv st (mW X.E ad (sA S 11 j x))) : G X nL ce sl pc lv (.int x :: .int i :: .ref (ad 11) :: st) (mW X.E ad S) := g_iast hX 11 (n := 8) (f := S.1 11) rfl hin j hj (mW X.E ad (sA S 11 j x)) rfl hdg kk
theorem mg_traced (hX : Ok X cc nL RX12) (hdg : decode cc pc = .ok (.getfield 43, 3)) (kk : G X nL ce sl (pc + 3) lv (.ref (ad 12) :: st) (mW X.E ad S)) : G X nL ce sl pc lv (.ref (ad 0) :: st) (mW X.E ad S) := g_get (C := RX12) (T := TX12) (N := 29) hX inX12 0 rfl rfl 24 (by decide) wd_5_0 (fun _ h => h) rfl hdg kk
theorem ml_traced {own : String} (hX : Ok X cc nL own) {i v : Int32} (hin : vp_in i 40) (j : Nat) (hj : i.toNatClampNeg = j) (hv : S.1 12 j = v) (hdg : decode cc pc = .ok (.iaload, 1)) (kk : G X nL ce sl (pc + 1) lv (.int v :: st) (mW X.E ad S)) : G X nL ce sl pc lv (.int i :: .ref (ad 12) :: st) (mW X.E ad S) := by
  subst hv
  exact g_iald hX 12 (n := 40) (f := S.1 12) rfl hin j hj hdg kk
theorem ms_traced {own : String} (hX : Ok X cc nL own) {i x : Int32} (hin : vp_in i 40) (j : Nat) (hj : i.toNatClampNeg = j) (hdg : decode cc pc = .ok (.iastore, 1)) (kk : G X nL ce sl (pc + 1) lv st (mW X.E ad (sA S 12 j x))) : G X nL ce sl pc lv (.int x :: .int i :: .ref (ad 12) :: st) (mW X.E ad S) := g_iast hX 12 (n := 40) (f := S.1 12) rfl hin j hj (mW X.E ad (sA S 12 j x)) rfl hdg kk
theorem mg_tracedMany (hX : Ok X cc nL RX12) {v : Int32} (hv : S.2 13 = v) (hdg : decode cc pc = .ok (.getfield 221, 3)) (kk : G X nL ce sl (pc + 3) lv (.int v :: st) (mW X.E ad S)) : G X nL ce sl pc lv (.ref (ad 0) :: st) (mW X.E ad S) := by
  subst hv
  exact g_get (C := RX12) (T := TX12) (N := 29) hX inX12 0 rfl rfl 25 (by decide) wd_5_1 (fun _ h => h) rfl hdg kk
theorem mp_tracedMany (hX : Ok X cc nL RX12) {v : Int32} (hdg : decode cc pc = .ok (.putfield 221, 3)) (kk : G X nL ce sl (pc + 3) lv st (mW X.E ad (sF S 13 v))) : G X nL ce sl pc lv (.int v :: .ref (ad 0) :: st) (mW X.E ad S) := g_put (C := RX12) (T := TX12) (N := 29) (ty := .int) hX inX12 tyX12 tyX12_ok nmX12 0 rfl rfl 25 (by decide) wd_5_1 (fun _ h => h) rfl (by decide +kernel) rfl rfl (Nat.le_of_ble_eq_true rfl) (mW X.E ad (sF S 13 v)) rfl hdg kk
theorem mg_voiceKind (hX : Ok X cc nL RX12) {v : Int32} (hv : S.2 14 = v) (hdg : decode cc pc = .ok (.getfield 239, 3)) (kk : G X nL ce sl (pc + 3) lv (.int v :: st) (mW X.E ad S)) : G X nL ce sl pc lv (.ref (ad 0) :: st) (mW X.E ad S) := by
  subst hv
  exact g_get (C := RX12) (T := TX12) (N := 29) hX inX12 0 rfl rfl 26 (by decide) wd_5_2 (fun _ h => h) rfl hdg kk
theorem mp_voiceKind (hX : Ok X cc nL RX12) {v : Int32} (hdg : decode cc pc = .ok (.putfield 239, 3)) (kk : G X nL ce sl (pc + 3) lv st (mW X.E ad (sF S 14 v))) : G X nL ce sl pc lv (.int v :: .ref (ad 0) :: st) (mW X.E ad S) := g_put (C := RX12) (T := TX12) (N := 29) (ty := .int) hX inX12 tyX12 tyX12_ok nmX12 0 rfl rfl 26 (by decide) wd_5_2 (fun _ h => h) rfl (by decide +kernel) rfl rfl (Nat.le_of_ble_eq_true rfl) (mW X.E ad (sF S 14 v)) rfl hdg kk
theorem mg_voiceN (hX : Ok X cc nL RX12) {v : Int32} (hv : S.2 15 = v) (hdg : decode cc pc = .ok (.getfield 227, 3)) (kk : G X nL ce sl (pc + 3) lv (.int v :: st) (mW X.E ad S)) : G X nL ce sl pc lv (.ref (ad 0) :: st) (mW X.E ad S) := by
  subst hv
  exact g_get (C := RX12) (T := TX12) (N := 29) hX inX12 0 rfl rfl 27 (by decide) wd_5_3 (fun _ h => h) rfl hdg kk
theorem mp_voiceN (hX : Ok X cc nL RX12) {v : Int32} (hdg : decode cc pc = .ok (.putfield 227, 3)) (kk : G X nL ce sl (pc + 3) lv st (mW X.E ad (sF S 15 v))) : G X nL ce sl pc lv (.int v :: .ref (ad 0) :: st) (mW X.E ad S) := g_put (C := RX12) (T := TX12) (N := 29) (ty := .int) hX inX12 tyX12 tyX12_ok nmX12 0 rfl rfl 27 (by decide) wd_5_3 (fun _ h => h) rfl (by decide +kernel) rfl rfl (Nat.le_of_ble_eq_true rfl) (mW X.E ad (sF S 15 v)) rfl hdg kk
theorem mg_voiceM (hX : Ok X cc nL RX12) {v : Int32} (hv : S.2 16 = v) (hdg : decode cc pc = .ok (.getfield 233, 3)) (kk : G X nL ce sl (pc + 3) lv (.int v :: st) (mW X.E ad S)) : G X nL ce sl pc lv (.ref (ad 0) :: st) (mW X.E ad S) := by
  subst hv
  exact g_get (C := RX12) (T := TX12) (N := 29) hX inX12 0 rfl rfl 28 (by decide) wd_5_4 (fun _ h => h) rfl hdg kk
theorem mp_voiceM (hX : Ok X cc nL RX12) {v : Int32} (hdg : decode cc pc = .ok (.putfield 233, 3)) (kk : G X nL ce sl (pc + 3) lv st (mW X.E ad (sF S 16 v))) : G X nL ce sl pc lv (.int v :: .ref (ad 0) :: st) (mW X.E ad S) := g_put (C := RX12) (T := TX12) (N := 29) (ty := .int) hX inX12 tyX12 tyX12_ok nmX12 0 rfl rfl 28 (by decide) wd_5_4 (fun _ h => h) rfl (by decide +kernel) rfl rfl (Nat.le_of_ble_eq_true rfl) (mW X.E ad (sF S 16 v)) rfl hdg kk
end MWR

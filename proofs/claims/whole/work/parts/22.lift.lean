/-! ===== Lift ===== -/
def rcl (R : Nat × Int32 × Int32 × Int32) : va_E := .inr (R.1, [.int R.2.1, .int R.2.2.1, .int R.2.2.2])
def roL (Q : Nat → Nat) (RD : Nat → Nat × Int32 × Int32 × Int32) : va_W := (List.range 6).map (fun k => (Q k, rcl (RD k)))
theorem roL_in {Q : Nat → Nat} {RD : Nat → Nat × Int32 × Int32 × Int32} {k : Nat} (h : k < 6) : (Q k, rcl (RD k)) ∈ roL Q RD := List.mem_map.mpr ⟨k, List.mem_range.mpr h, rfl⟩
theorem vp_lt {x : Int32} {n k : Nat} (h : vp_in x n) (hj : x.toNatClampNeg = k) : k < n := Nat.not_le.mp fun q => h (Or.inr (hj ▸ q))
/-- a Law's row: 0: its own text, else the tape -/
def rowq (v : Int32) (a b : Nat) : Nat := if v = 0 then a else b
theorem rowq_0 (a b : Nat) : rowq 0 a b = a := if_pos rfl
theorem rowq_1 (a b : Nat) : rowq 1 a b = b := if_neg (by decide)
abbrev lW (E : En) (ad Q : Nat → Nat) (S : MS) : va_W := [(ad 0, .inr (4, [.int (S.2 0), .int (S.2 1), .int (S.2 2), .int (S.2 3), .int (S.2 4), .int (S.2 5), .int (S.2 6), .ref (ad 1), .ref (ad 2), .int (S.2 7), .ref (ad 3), .int (S.2 8), .ref (ad 4), .ref (ad 5), .ref (ad 7), .ref (ad 9)])), (ad 1, .inl (E.cR, 6, .inr (.inr (.inr (.inr (fun j => some (Q j))))))), (ad 2, .inl (E.cI, 6, .inl (S.1 1))), (ad 9, .inl (E.cI, 729, .inl (S.1 4))), (ad 4, .inl (E.cI, 20, .inl (S.1 3))), (ad 3, .inl (E.cB, 50, .inl (fun j => ji2b (S.1 2 j)))), (ad 5, .inr (2, [.ref (E.aK 0), .ref (ad 6), .int (S.2 20), .ref (rowq (S.2 27) (ad 6) (ad 3)), .int (S.2 21), .int (S.2 22), .int (S.2 23), .int (S.2 24), .int (S.2 25), .int (S.2 26)])), (ad 6, .inl (E.cB, 50, .inl (fun j => ji2b (S.1 5 j)))), (ad 7, .inr (2, [.ref (E.aK 2), .ref (ad 8), .int (S.2 30), .ref (rowq (S.2 37) (ad 8) (ad 3)), .int (S.2 31), .int (S.2 32), .int (S.2 33), .int (S.2 34), .int (S.2 35), .int (S.2 36)])), (ad 8, .inl (E.cB, 50, .inl (fun j => ji2b (S.1 6 j))))]
/-- a Law of a Lift, seen alone: its text, its numbers -/
def lvF (j : Nat) (S : MS) : Nat → Int32 := fun k => ji2b (S.1 (5 + j) k)
def lvS (j : Nat) (S : MS) : MS := (S.1, fun k => S.2 (20 + 10 * j + k))
def lvJ (j : Nat) (S S2 : MS) : MS := (S.1, fun k => if 20 + 10 * j ≤ k ∧ k < 27 + 10 * j then S2.2 (k - (20 + 10 * j)) else if k = 27 + 10 * j then 0 else S.2 k)
def tpF (S : MS) : Nat → Int32 := fun k => ji2b (S.1 2 k)
def tkV (j : Nat) (S : MS) : MS := (fun _ k => ji2b (S.1 (5 + j) k), fun k => S.2 (20 + 10 * j + k))
def tvJ (j : Nat) (S S2 : MS) : MS := (fun c => if c = 5 + j then S2.1 2 else S.1 c, fun k => if 20 + 10 * j ≤ k ∧ k < 27 + 10 * j then S2.2 (k - (20 + 10 * j)) else if k = 27 + 10 * j then 1 else S.2 k)
theorem ji2b_fit (x : Int32) : fits .byte (.int (ji2b x)) = true := pk_fb x
theorem ji2b_2 (x : Int32) : ji2b (ji2b x) = ji2b x := pk_vb x
theorem take_bytes {i : Nat} {F : Nat → Int32} {a r : Int32} {S S2 : MS} (hF : ∀ j, ji2b (F j) = F j) (hS : ∀ j, ji2b (S.1 2 j) = S.1 2 j) (hf : f_X2_take i F a S = some (r, S2)) : ∀ j, ji2b (S2.1 2 j) = S2.1 2 j := by
  unfold f_X2_take at hf
  obtain ⟨r2, S3, h1, hf⟩ := cb_open hf
  by_cases c : (tkJ S S3).2 3 = 0
  · have hf := ite_t c hf
    obtain ⟨v, ev, hf⟩ := bI_open hf
    obtain ⟨hg, hf⟩ := gle_open hf
    have e := oi hf
    cases e
    intro j
    show ji2b (va_cpy F (S.1 2) 0 0 v.toNatClampNeg j) = va_cpy F (S.1 2) 0 0 v.toNatClampNeg j
    unfold va_cpy
    by_cases q : 0 ≤ j ∧ j < 0 + v.toNatClampNeg
    · rw [if_pos q]; exact hF _
    · rw [if_neg q]; exact hS _
  · have hf := ite_f c hf
    have e := oi hf
    cases e
    exact hS
section LWR
variable {X : Cx} {cc : ByteArray} {nL ce sl pc : Nat} {lv : List (Nat × Value)} {st : List Value} {ad : Nat → Nat} {S : MS} {dX mcX msX : Nat} {retX : Option FieldType} {PostX : Option Value → va_W → Prop} {Q : Nat → Nat} {RD : Nat → Nat × Int32 × Int32 × Int32}
theorem lg_heard (hX : Ok X cc nL RX4) {v : Int32} (hv : S.2 0 = v) (hdg : decode cc pc = .ok (.getfield 9, 3)) (kk : G X nL ce sl (pc + 3) lv (.int v :: st) (lW X.E ad Q S)) : G X nL ce sl pc lv (.ref (ad 0) :: st) (lW X.E ad Q S) := by
  subst hv
  exact g_get (C := RX4) (T := TX4) (N := 16) hX inX4 0 rfl rfl 0 (by decide) wd_2_94 (fun _ h => h) rfl hdg kk
theorem lp_heard (hX : Ok X cc nL RX4) {v : Int32} (hdg : decode cc pc = .ok (.putfield 9, 3)) (kk : G X nL ce sl (pc + 3) lv st (lW X.E ad Q (sF S 0 v))) : G X nL ce sl pc lv (.int v :: .ref (ad 0) :: st) (lW X.E ad Q S) := g_put (C := RX4) (T := TX4) (N := 16) (ty := .int) hX inX4 tyX4 tyX4_ok nmX4 0 rfl rfl 0 (by decide) wd_2_94 (fun _ h => h) rfl (by decide +kernel) rfl rfl (Nat.le_of_ble_eq_true rfl) (lW X.E ad Q (sF S 0 v)) rfl hdg kk
theorem lg_world (hX : Ok X cc nL RX4) {v : Int32} (hv : S.2 1 = v) (hdg : decode cc pc = .ok (.getfield 15, 3)) (kk : G X nL ce sl (pc + 3) lv (.int v :: st) (lW X.E ad Q S)) : G X nL ce sl pc lv (.ref (ad 0) :: st) (lW X.E ad Q S) := by
  subst hv
  exact g_get (C := RX4) (T := TX4) (N := 16) hX inX4 0 rfl rfl 1 (by decide) wd_2_96 (fun _ h => h) rfl hdg kk
theorem lp_world (hX : Ok X cc nL RX4) {v : Int32} (hdg : decode cc pc = .ok (.putfield 15, 3)) (kk : G X nL ce sl (pc + 3) lv st (lW X.E ad Q (sF S 1 v))) : G X nL ce sl pc lv (.int v :: .ref (ad 0) :: st) (lW X.E ad Q S) := g_put (C := RX4) (T := TX4) (N := 16) (ty := .int) hX inX4 tyX4 tyX4_ok nmX4 0 rfl rfl 1 (by decide) wd_2_96 (fun _ h => h) rfl (by decide +kernel) rfl rfl (Nat.le_of_ble_eq_true rfl) (lW X.E ad Q (sF S 1 v)) rfl hdg kk
theorem lg_trust (hX : Ok X cc nL RX4) {v : Int32} (hv : S.2 2 = v) (hdg : decode cc pc = .ok (.getfield 18, 3)) (kk : G X nL ce sl (pc + 3) lv (.int v :: st) (lW X.E ad Q S)) : G X nL ce sl pc lv (.ref (ad 0) :: st) (lW X.E ad Q S) := by
  subst hv
  exact g_get (C := RX4) (T := TX4) (N := 16) hX inX4 0 rfl rfl 2 (by decide) wd_2_98 (fun _ h => h) rfl hdg kk
theorem lp_trust (hX : Ok X cc nL RX4) {v : Int32} (hdg : decode cc pc = .ok (.putfield 18, 3)) (kk : G X nL ce sl (pc + 3) lv st (lW X.E ad Q (sF S 2 v))) : G X nL ce sl pc lv (.int v :: .ref (ad 0) :: st) (lW X.E ad Q S) := g_put (C := RX4) (T := TX4) (N := 16) (ty := .int) hX inX4 tyX4 tyX4_ok nmX4 0 rfl rfl 2 (by decide) wd_2_98 (fun _ h => h) rfl (by decide +kernel) rfl rfl (Nat.le_of_ble_eq_true rfl) (lW X.E ad Q (sF S 2 v)) rfl hdg kk
theorem lg_day (hX : Ok X cc nL RX4) {v : Int32} (hv : S.2 3 = v) (hdg : decode cc pc = .ok (.getfield 21, 3)) (kk : G X nL ce sl (pc + 3) lv (.int v :: st) (lW X.E ad Q S)) : G X nL ce sl pc lv (.ref (ad 0) :: st) (lW X.E ad Q S) := by
  subst hv
  exact g_get (C := RX4) (T := TX4) (N := 16) hX inX4 0 rfl rfl 3 (by decide) wd_2_100 (fun _ h => h) rfl hdg kk
theorem lp_day (hX : Ok X cc nL RX4) {v : Int32} (hdg : decode cc pc = .ok (.putfield 21, 3)) (kk : G X nL ce sl (pc + 3) lv st (lW X.E ad Q (sF S 3 v))) : G X nL ce sl pc lv (.int v :: .ref (ad 0) :: st) (lW X.E ad Q S) := g_put (C := RX4) (T := TX4) (N := 16) (ty := .int) hX inX4 tyX4 tyX4_ok nmX4 0 rfl rfl 3 (by decide) wd_2_100 (fun _ h => h) rfl (by decide +kernel) rfl rfl (Nat.le_of_ble_eq_true rfl) (lW X.E ad Q (sF S 3 v)) rfl hdg kk
theorem lg_rides (hX : Ok X cc nL RX4) {v : Int32} (hv : S.2 4 = v) (hdg : decode cc pc = .ok (.getfield 24, 3)) (kk : G X nL ce sl (pc + 3) lv (.int v :: st) (lW X.E ad Q S)) : G X nL ce sl pc lv (.ref (ad 0) :: st) (lW X.E ad Q S) := by
  subst hv
  exact g_get (C := RX4) (T := TX4) (N := 16) hX inX4 0 rfl rfl 4 (by decide) wd_2_102 (fun _ h => h) rfl hdg kk
theorem lp_rides (hX : Ok X cc nL RX4) {v : Int32} (hdg : decode cc pc = .ok (.putfield 24, 3)) (kk : G X nL ce sl (pc + 3) lv st (lW X.E ad Q (sF S 4 v))) : G X nL ce sl pc lv (.int v :: .ref (ad 0) :: st) (lW X.E ad Q S) := g_put (C := RX4) (T := TX4) (N := 16) (ty := .int) hX inX4 tyX4 tyX4_ok nmX4 0 rfl rfl 4 (by decide) wd_2_102 (fun _ h => h) rfl (by decide +kernel) rfl rfl (Nat.le_of_ble_eq_true rfl) (lW X.E ad Q (sF S 4 v)) rfl hdg kk
theorem lg_z (hX : Ok X cc nL RX4) {v : Int32} (hv : S.2 5 = v) (hdg : decode cc pc = .ok (.getfield 27, 3)) (kk : G X nL ce sl (pc + 3) lv (.int v :: st) (lW X.E ad Q S)) : G X nL ce sl pc lv (.ref (ad 0) :: st) (lW X.E ad Q S) := by
  subst hv
  exact g_get (C := RX4) (T := TX4) (N := 16) hX inX4 0 rfl rfl 5 (by decide) wd_2_104 (fun _ h => h) rfl hdg kk
theorem lp_z (hX : Ok X cc nL RX4) {v : Int32} (hdg : decode cc pc = .ok (.putfield 27, 3)) (kk : G X nL ce sl (pc + 3) lv st (lW X.E ad Q (sF S 5 v))) : G X nL ce sl pc lv (.int v :: .ref (ad 0) :: st) (lW X.E ad Q S) := g_put (C := RX4) (T := TX4) (N := 16) (ty := .int) hX inX4 tyX4 tyX4_ok nmX4 0 rfl rfl 5 (by decide) wd_2_104 (fun _ h => h) rfl (by decide +kernel) rfl rfl (Nat.le_of_ble_eq_true rfl) (lW X.E ad Q (sF S 5 v)) rfl hdg kk
theorem lg_riderCount (hX : Ok X cc nL RX4) {v : Int32} (hv : S.2 6 = v) (hdg : decode cc pc = .ok (.getfield 30, 3)) (kk : G X nL ce sl (pc + 3) lv (.int v :: st) (lW X.E ad Q S)) : G X nL ce sl pc lv (.ref (ad 0) :: st) (lW X.E ad Q S) := by
  subst hv
  exact g_get (C := RX4) (T := TX4) (N := 16) hX inX4 0 rfl rfl 6 (by decide) wd_2_106 (fun _ h => h) rfl hdg kk
theorem lp_riderCount (hX : Ok X cc nL RX4) {v : Int32} (hdg : decode cc pc = .ok (.putfield 30, 3)) (kk : G X nL ce sl (pc + 3) lv st (lW X.E ad Q (sF S 6 v))) : G X nL ce sl pc lv (.int v :: .ref (ad 0) :: st) (lW X.E ad Q S) := g_put (C := RX4) (T := TX4) (N := 16) (ty := .int) hX inX4 tyX4 tyX4_ok nmX4 0 rfl rfl 6 (by decide) wd_2_106 (fun _ h => h) rfl (by decide +kernel) rfl rfl (Nat.le_of_ble_eq_true rfl) (lW X.E ad Q (sF S 6 v)) rfl hdg kk
theorem lg_riders (hX : Ok X cc nL RX4) (hdg : decode cc pc = .ok (.getfield 35, 3)) (kk : G X nL ce sl (pc + 3) lv (.ref (ad 1) :: st) (lW X.E ad Q S)) : G X nL ce sl pc lv (.ref (ad 0) :: st) (lW X.E ad Q S) := g_get (C := RX4) (T := TX4) (N := 16) hX inX4 0 rfl rfl 7 (by decide) wd_2_108 (fun _ h => h) rfl hdg kk
theorem lg_stories (hX : Ok X cc nL RX4) (hdg : decode cc pc = .ok (.getfield 39, 3)) (kk : G X nL ce sl (pc + 3) lv (.ref (ad 2) :: st) (lW X.E ad Q S)) : G X nL ce sl pc lv (.ref (ad 0) :: st) (lW X.E ad Q S) := g_get (C := RX4) (T := TX4) (N := 16) hX inX4 0 rfl rfl 8 (by decide) wd_2_110 (fun _ h => h) rfl hdg kk
theorem lg_tapeLength (hX : Ok X cc nL RX4) {v : Int32} (hv : S.2 7 = v) (hdg : decode cc pc = .ok (.getfield 43, 3)) (kk : G X nL ce sl (pc + 3) lv (.int v :: st) (lW X.E ad Q S)) : G X nL ce sl pc lv (.ref (ad 0) :: st) (lW X.E ad Q S) := by
  subst hv
  exact g_get (C := RX4) (T := TX4) (N := 16) hX inX4 0 rfl rfl 9 (by decide) wd_2_112 (fun _ h => h) rfl hdg kk
theorem lp_tapeLength (hX : Ok X cc nL RX4) {v : Int32} (hdg : decode cc pc = .ok (.putfield 43, 3)) (kk : G X nL ce sl (pc + 3) lv st (lW X.E ad Q (sF S 7 v))) : G X nL ce sl pc lv (.int v :: .ref (ad 0) :: st) (lW X.E ad Q S) := g_put (C := RX4) (T := TX4) (N := 16) (ty := .int) hX inX4 tyX4 tyX4_ok nmX4 0 rfl rfl 9 (by decide) wd_2_112 (fun _ h => h) rfl (by decide +kernel) rfl rfl (Nat.le_of_ble_eq_true rfl) (lW X.E ad Q (sF S 7 v)) rfl hdg kk
theorem lg_tape (hX : Ok X cc nL RX4) (hdg : decode cc pc = .ok (.getfield 46, 3)) (kk : G X nL ce sl (pc + 3) lv (.ref (ad 3) :: st) (lW X.E ad Q S)) : G X nL ce sl pc lv (.ref (ad 0) :: st) (lW X.E ad Q S) := g_get (C := RX4) (T := TX4) (N := 16) hX inX4 0 rfl rfl 10 (by decide) wd_2_114 (fun _ h => h) rfl hdg kk
theorem lg_waitingCount (hX : Ok X cc nL RX4) {v : Int32} (hv : S.2 8 = v) (hdg : decode cc pc = .ok (.getfield 50, 3)) (kk : G X nL ce sl (pc + 3) lv (.int v :: st) (lW X.E ad Q S)) : G X nL ce sl pc lv (.ref (ad 0) :: st) (lW X.E ad Q S) := by
  subst hv
  exact g_get (C := RX4) (T := TX4) (N := 16) hX inX4 0 rfl rfl 11 (by decide) wd_2_116 (fun _ h => h) rfl hdg kk
theorem lp_waitingCount (hX : Ok X cc nL RX4) {v : Int32} (hdg : decode cc pc = .ok (.putfield 50, 3)) (kk : G X nL ce sl (pc + 3) lv st (lW X.E ad Q (sF S 8 v))) : G X nL ce sl pc lv (.int v :: .ref (ad 0) :: st) (lW X.E ad Q S) := g_put (C := RX4) (T := TX4) (N := 16) (ty := .int) hX inX4 tyX4 tyX4_ok nmX4 0 rfl rfl 11 (by decide) wd_2_116 (fun _ h => h) rfl (by decide +kernel) rfl rfl (Nat.le_of_ble_eq_true rfl) (lW X.E ad Q (sF S 8 v)) rfl hdg kk
theorem lg_waiting (hX : Ok X cc nL RX4) (hdg : decode cc pc = .ok (.getfield 53, 3)) (kk : G X nL ce sl (pc + 3) lv (.ref (ad 4) :: st) (lW X.E ad Q S)) : G X nL ce sl pc lv (.ref (ad 0) :: st) (lW X.E ad Q S) := g_get (C := RX4) (T := TX4) (N := 16) hX inX4 0 rfl rfl 12 (by decide) wd_2_118 (fun _ h => h) rfl hdg kk
theorem lg_creditLaw (hX : Ok X cc nL RX4) (hdg : decode cc pc = .ok (.getfield 65, 3)) (kk : G X nL ce sl (pc + 3) lv (.ref (ad 5) :: st) (lW X.E ad Q S)) : G X nL ce sl pc lv (.ref (ad 0) :: st) (lW X.E ad Q S) := g_get (C := RX4) (T := TX4) (N := 16) hX inX4 0 rfl rfl 13 (by decide) wd_2_120 (fun _ h => h) rfl hdg kk
theorem lg_crowdLaw (hX : Ok X cc nL RX4) (hdg : decode cc pc = .ok (.getfield 73, 3)) (kk : G X nL ce sl (pc + 3) lv (.ref (ad 7) :: st) (lW X.E ad Q S)) : G X nL ce sl pc lv (.ref (ad 0) :: st) (lW X.E ad Q S) := g_get (C := RX4) (T := TX4) (N := 16) hX inX4 0 rfl rfl 14 (by decide) wd_2_121 (fun _ h => h) rfl hdg kk
theorem lg_worth (hX : Ok X cc nL RX4) (hdg : decode cc pc = .ok (.getfield 76, 3)) (kk : G X nL ce sl (pc + 3) lv (.ref (ad 9) :: st) (lW X.E ad Q S)) : G X nL ce sl pc lv (.ref (ad 0) :: st) (lW X.E ad Q S) := g_get (C := RX4) (T := TX4) (N := 16) hX inX4 0 rfl rfl 15 (by decide) wd_2_122 (fun _ h => h) rfl hdg kk
theorem ll_stories {own : String} (hX : Ok X cc nL own) {i v : Int32} (hin : vp_in i 6) (j : Nat) (hj : i.toNatClampNeg = j) (hv : S.1 1 j = v) (hdg : decode cc pc = .ok (.iaload, 1)) (kk : G X nL ce sl (pc + 1) lv (.int v :: st) (lW X.E ad Q S)) : G X nL ce sl pc lv (.int i :: .ref (ad 2) :: st) (lW X.E ad Q S) := by
  subst hv
  exact g_iald hX 2 (n := 6) (f := S.1 1) rfl hin j hj hdg kk
theorem ls_stories {own : String} (hX : Ok X cc nL own) {i x : Int32} (hin : vp_in i 6) (j : Nat) (hj : i.toNatClampNeg = j) (hdg : decode cc pc = .ok (.iastore, 1)) (kk : G X nL ce sl (pc + 1) lv st (lW X.E ad Q (sA S 1 j x))) : G X nL ce sl pc lv (.int x :: .int i :: .ref (ad 2) :: st) (lW X.E ad Q S) := g_iast hX 2 (n := 6) (f := S.1 1) rfl hin j hj (lW X.E ad Q (sA S 1 j x)) rfl hdg kk
theorem ll_waiting {own : String} (hX : Ok X cc nL own) {i v : Int32} (hin : vp_in i 20) (j : Nat) (hj : i.toNatClampNeg = j) (hv : S.1 3 j = v) (hdg : decode cc pc = .ok (.iaload, 1)) (kk : G X nL ce sl (pc + 1) lv (.int v :: st) (lW X.E ad Q S)) : G X nL ce sl pc lv (.int i :: .ref (ad 4) :: st) (lW X.E ad Q S) := by
  subst hv
  exact g_iald hX 4 (n := 20) (f := S.1 3) rfl hin j hj hdg kk
theorem ls_waiting {own : String} (hX : Ok X cc nL own) {i x : Int32} (hin : vp_in i 20) (j : Nat) (hj : i.toNatClampNeg = j) (hdg : decode cc pc = .ok (.iastore, 1)) (kk : G X nL ce sl (pc + 1) lv st (lW X.E ad Q (sA S 3 j x))) : G X nL ce sl pc lv (.int x :: .int i :: .ref (ad 4) :: st) (lW X.E ad Q S) := g_iast hX 4 (n := 20) (f := S.1 3) rfl hin j hj (lW X.E ad Q (sA S 3 j x)) rfl hdg kk
theorem ll_worth {own : String} (hX : Ok X cc nL own) {i v : Int32} (hin : vp_in i 729) (j : Nat) (hj : i.toNatClampNeg = j) (hv : S.1 4 j = v) (hdg : decode cc pc = .ok (.iaload, 1)) (kk : G X nL ce sl (pc + 1) lv (.int v :: st) (lW X.E ad Q S)) : G X nL ce sl pc lv (.int i :: .ref (ad 9) :: st) (lW X.E ad Q S) := by
  subst hv
  exact g_iald hX 3 (n := 729) (f := S.1 4) rfl hin j hj hdg kk
theorem ls_worth {own : String} (hX : Ok X cc nL own) {i x : Int32} (hin : vp_in i 729) (j : Nat) (hj : i.toNatClampNeg = j) (hdg : decode cc pc = .ok (.iastore, 1)) (kk : G X nL ce sl (pc + 1) lv st (lW X.E ad Q (sA S 4 j x))) : G X nL ce sl pc lv (.int x :: .int i :: .ref (ad 9) :: st) (lW X.E ad Q S) := g_iast hX 3 (n := 729) (f := S.1 4) rfl hin j hj (lW X.E ad Q (sA S 4 j x)) rfl hdg kk
theorem ll_riders {own : String} (hX : Ok X cc nL own) {x : Int32} (hin : vp_in x 6) (k : Nat) (hj : x.toNatClampNeg = k) (hdg : decode cc pc = .ok (.aaload, 1)) (kk : G X nL ce sl (pc + 1) lv (.ref (Q k) :: st) (lW X.E ad Q S)) : G X nL ce sl pc lv (.int x :: .ref (ad 1) :: st) (lW X.E ad Q S) := by
  subst hj
  exact g_aald hX 1 2 (n := 6) (f := fun j => some (Q j)) rfl rfl hin rfl hdg kk
def fv_counted (R : Nat × Int32 × Int32 × Int32) (a1 : Int32) : Option Int32 :=
  if R.1 = 0 then f_R0_X6_counted R.2.2.1 R.2.2.2 a1 else
  if R.1 = 1 then f_R1_X6_counted R.2.2.1 R.2.2.2 a1 else
  if R.1 = 3 then f_R3_X3_counted R.2.2.1 R.2.2.2 a1 else
  if R.1 = 5 then f_R5_X3_counted R.2.2.1 R.2.2.2 a1 else
  if R.1 = 6 then f_R6_X6_counted R.2.2.1 R.2.2.2 a1 else
  if R.1 = 8 then f_R8_X6_counted R.2.2.1 R.2.2.2 a1 else
  if R.1 = 10 then f_R10_X6_counted R.2.2.1 R.2.2.2 a1 else
  none
theorem kwr_RX4_121_virtual_0 : KwO RX4 121 RX0 RX6 yX6_counted yX6_counted cX6_counted 2 (some .int) 1 := ⟨mem_wsO wd_3_55 wd_3_58 wd_3_56 wd_3_59 wd_3_56 wd_1_9 wd_3_67, ⟨_, _, _, wd_3_67⟩, ⟨by decide +kernel, by decide +kernel, by decide +kernel⟩, by decide⟩
theorem kwr_RX4_121_virtual_1 : KwO RX4 121 RX1 RX6 yX6_counted yX6_counted cX6_counted 2 (some .int) 1 := ⟨mem_wsO wd_3_55 wd_3_58 wd_3_56 wd_3_60 wd_3_56 wd_1_9 wd_3_67, ⟨_, _, _, wd_3_67⟩, ⟨by decide +kernel, by decide +kernel, by decide +kernel⟩, by decide⟩
theorem kwr_RX4_121_virtual_3 : KwO RX4 121 RX3 RX6 yX6_counted yX3_counted cX3_counted 2 (some .int) 1 := ⟨mem_wsO wd_3_55 wd_3_58 wd_3_56 wd_3_61 wd_3_62 wd_1_11 wd_3_63, ⟨_, _, _, wd_3_67⟩, ⟨by decide +kernel, by decide +kernel, by decide +kernel⟩, by decide⟩
theorem kwr_RX4_121_virtual_5 : KwO RX4 121 RX5 RX6 yX6_counted yX3_counted cX3_counted 2 (some .int) 1 := ⟨mem_wsO wd_3_55 wd_3_58 wd_3_56 wd_3_64 wd_3_62 wd_1_11 wd_3_63, ⟨_, _, _, wd_3_67⟩, ⟨by decide +kernel, by decide +kernel, by decide +kernel⟩, by decide⟩
theorem kwr_RX4_121_virtual_6 : KwV RX4 121 RX6 yX6_counted cX6_counted 2 (some .int) 1 := ⟨mem_wsV wd_3_55 wd_3_56 wd_3_57 wd_1_9 wd_3_67, rfl, ⟨by decide +kernel, by decide +kernel, by decide +kernel⟩, by decide⟩
theorem kwr_RX4_121_virtual_8 : KwO RX4 121 RX8 RX6 yX6_counted yX6_counted cX6_counted 2 (some .int) 1 := ⟨mem_wsO wd_3_55 wd_3_58 wd_3_56 wd_3_65 wd_3_56 wd_1_9 wd_3_67, ⟨_, _, _, wd_3_67⟩, ⟨by decide +kernel, by decide +kernel, by decide +kernel⟩, by decide⟩
theorem kwr_RX4_121_virtual_10 : KwO RX4 121 RX10 RX6 yX6_counted yX6_counted cX6_counted 2 (some .int) 1 := ⟨mem_wsO wd_3_55 wd_3_58 wd_3_56 wd_3_66 wd_3_56 wd_1_9 wd_3_67, ⟨_, _, _, wd_3_67⟩, ⟨by decide +kernel, by decide +kernel, by decide +kernel⟩, by decide⟩
theorem kv_RX4_counted {ws : va_W} (hro : ∀ z ∈ roL Q RD, z ∈ X.ro) {k : Nat} (hk : k < 6) (hX : Ok X cc nL RX4) (hq : Rq X dX mcX msX retX PostX) {a1 r : Int32} (h : fv_counted (RD k) a1 = some r) (hd : 3 < dX) (hc : ce ≤ mcX) (hs : sl ≤ msX) (hcat : (st.map fun v => v.category).sum ≤ 8) (hdg : decode cc pc = .ok (.invokevirtual 121, 3)) (kk : G X nL ce sl (pc + 3) lv (.int r :: st) ws) : G X nL ce sl pc lv (.int a1 :: .ref (Q k) :: st) ws := by
  have hm := hro _ (roL_in hk)
  unfold fv_counted at h
  generalize RD k = R at hm h
  obtain ⟨D, fk, fm, fn⟩ := R
  by_cases c0 : D = 0
  · subst c0
    have h := ite_t rfl h
    exact g_eqW (app0 _) (g_callO (pre := ws) (mid := []) (post := []) [.int a1] hX hq kwr_RX4_121_virtual_0 (c_R0_X6_counted (q := Q k) (fk := fk) h) (fun z hz => (List.mem_singleton.mp hz) ▸ hm) (by omega) hc hs rfl (Recv.ro 0 hm rfl) rfl hcat hdg (fun rv ws2 hp2 => by obtain ⟨rfl, rfl⟩ := hp2; exact g_eqW (app0 _).symm kk))
  have h := ite_f c0 h
  by_cases c1 : D = 1
  · subst c1
    have h := ite_t rfl h
    exact g_eqW (app0 _) (g_callO (pre := ws) (mid := []) (post := []) [.int a1] hX hq kwr_RX4_121_virtual_1 (c_R1_X6_counted (q := Q k) (fk := fk) h) (fun z hz => (List.mem_singleton.mp hz) ▸ hm) (by omega) hc hs rfl (Recv.ro 1 hm rfl) rfl hcat hdg (fun rv ws2 hp2 => by obtain ⟨rfl, rfl⟩ := hp2; exact g_eqW (app0 _).symm kk))
  have h := ite_f c1 h
  by_cases c3 : D = 3
  · subst c3
    have h := ite_t rfl h
    exact g_eqW (app0 _) (g_callO (pre := ws) (mid := []) (post := []) [.int a1] hX hq kwr_RX4_121_virtual_3 (c_R3_X3_counted (q := Q k) (fk := fk) h) (fun z hz => (List.mem_singleton.mp hz) ▸ hm) (by omega) hc hs rfl (Recv.ro 3 hm rfl) rfl hcat hdg (fun rv ws2 hp2 => by obtain ⟨rfl, rfl⟩ := hp2; exact g_eqW (app0 _).symm kk))
  have h := ite_f c3 h
  by_cases c5 : D = 5
  · subst c5
    have h := ite_t rfl h
    exact g_eqW (app0 _) (g_callO (pre := ws) (mid := []) (post := []) [.int a1] hX hq kwr_RX4_121_virtual_5 (c_R5_X3_counted (q := Q k) (fk := fk) h) (fun z hz => (List.mem_singleton.mp hz) ▸ hm) (by omega) hc hs rfl (Recv.ro 5 hm rfl) rfl hcat hdg (fun rv ws2 hp2 => by obtain ⟨rfl, rfl⟩ := hp2; exact g_eqW (app0 _).symm kk))
  have h := ite_f c5 h
  by_cases c6 : D = 6
  · subst c6
    have h := ite_t rfl h
    exact g_eqW (app0 _) (g_callV (pre := ws) (mid := []) (post := []) [.int a1] hX hq kwr_RX4_121_virtual_6 (c_R6_X6_counted (q := Q k) (fk := fk) h) (fun z hz => (List.mem_singleton.mp hz) ▸ hm) (by omega) hc hs rfl (Recv.ro 6 hm rfl) rfl hcat hdg (fun rv ws2 hp2 => by obtain ⟨rfl, rfl⟩ := hp2; exact g_eqW (app0 _).symm kk))
  have h := ite_f c6 h
  by_cases c8 : D = 8
  · subst c8
    have h := ite_t rfl h
    exact g_eqW (app0 _) (g_callO (pre := ws) (mid := []) (post := []) [.int a1] hX hq kwr_RX4_121_virtual_8 (c_R8_X6_counted (q := Q k) (fk := fk) h) (fun z hz => (List.mem_singleton.mp hz) ▸ hm) (by omega) hc hs rfl (Recv.ro 8 hm rfl) rfl hcat hdg (fun rv ws2 hp2 => by obtain ⟨rfl, rfl⟩ := hp2; exact g_eqW (app0 _).symm kk))
  have h := ite_f c8 h
  by_cases c10 : D = 10
  · subst c10
    have h := ite_t rfl h
    exact g_eqW (app0 _) (g_callO (pre := ws) (mid := []) (post := []) [.int a1] hX hq kwr_RX4_121_virtual_10 (c_R10_X6_counted (q := Q k) (fk := fk) h) (fun z hz => (List.mem_singleton.mp hz) ▸ hm) (by omega) hc hs rfl (Recv.ro 10 hm rfl) rfl hcat hdg (fun rv ws2 hp2 => by obtain ⟨rfl, rfl⟩ := hp2; exact g_eqW (app0 _).symm kk))
  have h := ite_f c10 h
  cases h
def fv_credit (R : Nat × Int32 × Int32 × Int32) (a1 : Int32) (a2 : Int32) (a3 : Int32) (a4 : Int32) : Option Int32 :=
  if R.1 = 0 then f_R0_X0_credit R.2.2.1 R.2.2.2 a1 a2 a3 a4 else
  if R.1 = 1 then f_R1_X1_credit R.2.2.1 R.2.2.2 a1 a2 a3 a4 else
  if R.1 = 3 then f_R3_X6_credit R.2.2.1 R.2.2.2 a1 a2 a3 a4 else
  if R.1 = 5 then f_R5_X5_credit R.2.2.1 R.2.2.2 a1 a2 a3 a4 else
  if R.1 = 6 then f_R6_X6_credit R.2.2.1 R.2.2.2 a1 a2 a3 a4 else
  if R.1 = 8 then f_R8_X8_credit R.2.2.1 R.2.2.2 a1 a2 a3 a4 else
  if R.1 = 10 then f_R10_X10_credit R.2.2.1 R.2.2.2 a1 a2 a3 a4 else
  none
theorem kwr_RX4_125_virtual_0 : KwO RX4 125 RX0 RX6 yX6_credit yX0_credit cX0_credit 5 (some .int) 4 := ⟨mem_wsO wd_3_68 wd_3_71 wd_3_69 wd_3_72 wd_3_73 wd_1_10 wd_3_74, ⟨_, _, _, wd_3_94⟩, ⟨by decide +kernel, by decide +kernel, by decide +kernel⟩, by decide⟩
theorem kwr_RX4_125_virtual_1 : KwO RX4 125 RX1 RX6 yX6_credit yX1_credit cX1_credit 5 (some .int) 4 := ⟨mem_wsO wd_3_68 wd_3_71 wd_3_69 wd_3_76 wd_3_77 wd_1_13 wd_3_78, ⟨_, _, _, wd_3_94⟩, ⟨by decide +kernel, by decide +kernel, by decide +kernel⟩, by decide⟩
theorem kwr_RX4_125_virtual_3 : KwO RX4 125 RX3 RX6 yX6_credit yX6_credit cX6_credit 5 (some .int) 4 := ⟨mem_wsO wd_3_68 wd_3_71 wd_3_69 wd_3_80 wd_3_69 wd_1_9 wd_3_94, ⟨_, _, _, wd_3_94⟩, ⟨by decide +kernel, by decide +kernel, by decide +kernel⟩, by decide⟩
theorem kwr_RX4_125_virtual_5 : KwO RX4 125 RX5 RX6 yX6_credit yX5_credit cX5_credit 5 (some .int) 4 := ⟨mem_wsO wd_3_68 wd_3_71 wd_3_69 wd_3_81 wd_3_82 wd_1_14 wd_3_83, ⟨_, _, _, wd_3_94⟩, ⟨by decide +kernel, by decide +kernel, by decide +kernel⟩, by decide⟩
theorem kwr_RX4_125_virtual_6 : KwV RX4 125 RX6 yX6_credit cX6_credit 5 (some .int) 4 := ⟨mem_wsV wd_3_68 wd_3_69 wd_3_70 wd_1_9 wd_3_94, rfl, ⟨by decide +kernel, by decide +kernel, by decide +kernel⟩, by decide⟩
theorem kwr_RX4_125_virtual_8 : KwO RX4 125 RX8 RX6 yX6_credit yX8_credit cX8_credit 5 (some .int) 4 := ⟨mem_wsO wd_3_68 wd_3_71 wd_3_69 wd_3_87 wd_3_88 wd_1_15 wd_3_89, ⟨_, _, _, wd_3_94⟩, ⟨by decide +kernel, by decide +kernel, by decide +kernel⟩, by decide⟩
theorem kwr_RX4_125_virtual_10 : KwO RX4 125 RX10 RX6 yX6_credit yX10_credit cX10_credit 5 (some .int) 4 := ⟨mem_wsO wd_3_68 wd_3_71 wd_3_69 wd_3_93 wd_3_91 wd_1_12 wd_3_92, ⟨_, _, _, wd_3_94⟩, ⟨by decide +kernel, by decide +kernel, by decide +kernel⟩, by decide⟩
theorem kv_RX4_credit {ws : va_W} (hro : ∀ z ∈ roL Q RD, z ∈ X.ro) {k : Nat} (hk : k < 6) (hX : Ok X cc nL RX4) (hq : Rq X dX mcX msX retX PostX) {a1 a2 a3 a4 r : Int32} (h : fv_credit (RD k) a1 a2 a3 a4 = some r) (hd : 3 < dX) (hc : ce ≤ mcX) (hs : sl ≤ msX) (hcat : (st.map fun v => v.category).sum ≤ 8) (hdg : decode cc pc = .ok (.invokevirtual 125, 3)) (kk : G X nL ce sl (pc + 3) lv (.int r :: st) ws) : G X nL ce sl pc lv (.int a4 :: .int a3 :: .int a2 :: .int a1 :: .ref (Q k) :: st) ws := by
  have hm := hro _ (roL_in hk)
  unfold fv_credit at h
  generalize RD k = R at hm h
  obtain ⟨D, fk, fm, fn⟩ := R
  by_cases c0 : D = 0
  · subst c0
    have h := ite_t rfl h
    exact g_eqW (app0 _) (g_callO (pre := ws) (mid := []) (post := []) [.int a1, .int a2, .int a3, .int a4] hX hq kwr_RX4_125_virtual_0 (c_R0_X0_credit (q := Q k) (fk := fk) h) (fun z hz => (List.mem_singleton.mp hz) ▸ hm) (by omega) hc hs rfl (Recv.ro 0 hm rfl) rfl hcat hdg (fun rv ws2 hp2 => by obtain ⟨rfl, rfl⟩ := hp2; exact g_eqW (app0 _).symm kk))
  have h := ite_f c0 h
  by_cases c1 : D = 1
  · subst c1
    have h := ite_t rfl h
    exact g_eqW (app0 _) (g_callO (pre := ws) (mid := []) (post := []) [.int a1, .int a2, .int a3, .int a4] hX hq kwr_RX4_125_virtual_1 (c_R1_X1_credit (q := Q k) (fk := fk) h) (fun z hz => (List.mem_singleton.mp hz) ▸ hm) (by omega) hc hs rfl (Recv.ro 1 hm rfl) rfl hcat hdg (fun rv ws2 hp2 => by obtain ⟨rfl, rfl⟩ := hp2; exact g_eqW (app0 _).symm kk))
  have h := ite_f c1 h
  by_cases c3 : D = 3
  · subst c3
    have h := ite_t rfl h
    exact g_eqW (app0 _) (g_callO (pre := ws) (mid := []) (post := []) [.int a1, .int a2, .int a3, .int a4] hX hq kwr_RX4_125_virtual_3 (c_R3_X6_credit (q := Q k) (fk := fk) h) (fun z hz => (List.mem_singleton.mp hz) ▸ hm) (by omega) hc hs rfl (Recv.ro 3 hm rfl) rfl hcat hdg (fun rv ws2 hp2 => by obtain ⟨rfl, rfl⟩ := hp2; exact g_eqW (app0 _).symm kk))
  have h := ite_f c3 h
  by_cases c5 : D = 5
  · subst c5
    have h := ite_t rfl h
    exact g_eqW (app0 _) (g_callO (pre := ws) (mid := []) (post := []) [.int a1, .int a2, .int a3, .int a4] hX hq kwr_RX4_125_virtual_5 (c_R5_X5_credit (q := Q k) (fk := fk) h) (fun z hz => (List.mem_singleton.mp hz) ▸ hm) (by omega) hc hs rfl (Recv.ro 5 hm rfl) rfl hcat hdg (fun rv ws2 hp2 => by obtain ⟨rfl, rfl⟩ := hp2; exact g_eqW (app0 _).symm kk))
  have h := ite_f c5 h
  by_cases c6 : D = 6
  · subst c6
    have h := ite_t rfl h
    exact g_eqW (app0 _) (g_callV (pre := ws) (mid := []) (post := []) [.int a1, .int a2, .int a3, .int a4] hX hq kwr_RX4_125_virtual_6 (c_R6_X6_credit (q := Q k) (fk := fk) h) (fun z hz => (List.mem_singleton.mp hz) ▸ hm) (by omega) hc hs rfl (Recv.ro 6 hm rfl) rfl hcat hdg (fun rv ws2 hp2 => by obtain ⟨rfl, rfl⟩ := hp2; exact g_eqW (app0 _).symm kk))
  have h := ite_f c6 h
  by_cases c8 : D = 8
  · subst c8
    have h := ite_t rfl h
    exact g_eqW (app0 _) (g_callO (pre := ws) (mid := []) (post := []) [.int a1, .int a2, .int a3, .int a4] hX hq kwr_RX4_125_virtual_8 (c_R8_X8_credit (q := Q k) (fk := fk) h) (fun z hz => (List.mem_singleton.mp hz) ▸ hm) (by omega) hc hs rfl (Recv.ro 8 hm rfl) rfl hcat hdg (fun rv ws2 hp2 => by obtain ⟨rfl, rfl⟩ := hp2; exact g_eqW (app0 _).symm kk))
  have h := ite_f c8 h
  by_cases c10 : D = 10
  · subst c10
    have h := ite_t rfl h
    exact g_eqW (app0 _) (g_callO (pre := ws) (mid := []) (post := []) [.int a1, .int a2, .int a3, .int a4] hX hq kwr_RX4_125_virtual_10 (c_R10_X10_credit (q := Q k) (fk := fk) h) (fun z hz => (List.mem_singleton.mp hz) ▸ hm) (by omega) hc hs rfl (Recv.ro 10 hm rfl) rfl hcat hdg (fun rv ws2 hp2 => by obtain ⟨rfl, rfl⟩ := hp2; exact g_eqW (app0 _).symm kk))
  have h := ite_f c10 h
  cases h
theorem kw_RX4_X2_gives : KwV RX4 108 RX2 yX2_gives cX2_gives 4 (some .int) 3 := ⟨mem_wsV wd_1_225 wd_1_226 wd_1_227 wd_1_3 wd_1_228, rfl, ⟨by decide +kernel, by decide +kernel, by decide +kernel⟩, by decide⟩
def aL0 (ad : Nat → Nat) : Nat → Nat := fun k => if k = 0 then ad 5 else if k = 1 then ad 6 else ad 3
theorem kl_gives0 (hX : Ok X cc nL RX4) (hq : Rq X dX mcX msX retX PostX) {a b c r : Int32} {S2 : MS} (h : f_X2_gives 0 (lvF 0 S) a b c (lvS 0 S) = some (r, S2)) (hd : 67 < dX) (hc : ce ≤ mcX) (hs : sl ≤ msX) (hcat : (st.map fun v => v.category).sum ≤ 8) (hdg : decode cc pc = .ok (.invokevirtual 108, 3)) (kk : G X nL ce sl (pc + 3) lv (.int r :: st) (lW X.E ad Q (lvJ 0 S S2))) : G X nL ce sl pc lv (.int c :: .int b :: .int a :: .ref (ad 5) :: st) (lW X.E ad Q S) := by
  exact g_callV (pre := (List.take 6 (lW X.E ad Q S))) (mid := pW X.E (aL0 ad) 0 (ad 6) (rowq (S.2 27) (ad 6) (ad 3)) (lvF 0 S) (lvS 0 S)) (post := (List.drop 8 (lW X.E ad Q S))) [.int a, .int b, .int c] hX hq kw_RX4_X2_gives (c_X2_gives (ad := aL0 ad) (by decide) h) (fun _ h => absurd h List.not_mem_nil) hd hc hs rfl (Recv.of 6 2 rfl rfl) rfl hcat hdg (fun rv ws2 hp => by obtain ⟨rfl, rfl⟩ := hp; exact kk)
def aL1 (ad : Nat → Nat) : Nat → Nat := fun k => if k = 0 then ad 7 else if k = 1 then ad 8 else ad 3
theorem kl_gives1 (hX : Ok X cc nL RX4) (hq : Rq X dX mcX msX retX PostX) {a b c r : Int32} {S2 : MS} (h : f_X2_gives 2 (lvF 1 S) a b c (lvS 1 S) = some (r, S2)) (hd : 67 < dX) (hc : ce ≤ mcX) (hs : sl ≤ msX) (hcat : (st.map fun v => v.category).sum ≤ 8) (hdg : decode cc pc = .ok (.invokevirtual 108, 3)) (kk : G X nL ce sl (pc + 3) lv (.int r :: st) (lW X.E ad Q (lvJ 1 S S2))) : G X nL ce sl pc lv (.int c :: .int b :: .int a :: .ref (ad 7) :: st) (lW X.E ad Q S) := by
  exact g_callV (pre := (List.take 8 (lW X.E ad Q S))) (mid := pW X.E (aL1 ad) 2 (ad 8) (rowq (S.2 37) (ad 8) (ad 3)) (lvF 1 S) (lvS 1 S)) (post := (List.drop 10 (lW X.E ad Q S))) [.int a, .int b, .int c] hX hq kw_RX4_X2_gives (c_X2_gives (ad := aL1 ad) (by decide) h) (fun _ h => absurd h List.not_mem_nil) hd hc hs rfl (Recv.of 8 2 rfl rfl) rfl hcat hdg (fun rv ws2 hp => by obtain ⟨rfl, rfl⟩ := hp; exact kk)
end LWR

/-! ===== LiftCredit's world ===== -/
def gk {α : Type} (k n : Nat) (x : Option α) : Option α := if k < n then x else none
theorem gk_open {α : Type} {k n : Nat} {x : Option α} {u : α} (h : gk k n x = some u) : k < n ∧ x = some u := by
  unfold gk at h
  by_cases q : k < n
  · rw [if_pos q] at h
    exact ⟨q, h⟩
  · rw [if_neg q] at h
    cases h
def gcp {α : Type} (i j n : Int32) (x : Option α) : Option α := if (0 ≤ i.toInt ∧ 0 ≤ j.toInt ∧ 0 ≤ n.toInt) ∧ (i.toInt + n.toInt ≤ 40 ∧ j.toInt + n.toInt ≤ 40) then x else none
theorem gcp_open {α : Type} {i j n : Int32} {x : Option α} {u : α} (h : gcp i j n x = some u) : ((¬ i < 0 ∧ ¬ j < 0 ∧ ¬ n < 0) ∧ (i.toNatClampNeg + n.toNatClampNeg ≤ 40 ∧ j.toNatClampNeg + n.toNatClampNeg ≤ 40)) ∧ x = some u := by
  have e0 : (0 : Int32).toInt = 0 := rfl
  have ng : ∀ z : Int32, 0 ≤ z.toInt → ¬ z < 0 := fun z hz c => by
    have c2 : z.toInt < (0 : Int32).toInt := Int32.lt_iff_toInt_lt.mp c
    omega
  unfold gcp at h
  by_cases q : (0 ≤ i.toInt ∧ 0 ≤ j.toInt ∧ 0 ≤ n.toInt) ∧ (i.toInt + n.toInt ≤ 40 ∧ j.toInt + n.toInt ≤ 40)
  · rw [if_pos q] at h
    refine ⟨⟨⟨ng _ q.1.1, ng _ q.1.2.1, ng _ q.1.2.2⟩, ?_, ?_⟩, h⟩
    · show i.toInt.toNat + n.toInt.toNat ≤ 40
      omega
    · show j.toInt.toNat + n.toInt.toNat ≤ 40
      omega
  · rw [if_neg q] at h
    cases h
/-- behind a call on the Lift -/
def sL (S S2 : MS) : MS := (fun c => if c < 7 then S2.1 c else S.1 c, fun k => if k < 40 then S2.2 k else S.2 k)
/-- a Sheet seen alone -/
def hV (k : Nat) (S : MS) : MS := (fun _ => S.1 (10 + k), fun i => S.2 (42 + k + 4 * i))
def hJ (k : Nat) (S S2 : MS) : MS := (fun c => if c = 10 + k then S2.1 1 else S.1 c, fun i => if i = 42 + k then S2.2 0 else if i = 46 + k then S2.2 1 else S.2 i)
def aH (k : Nat) (ad : Nat → Nat) : Nat → Nat := fun i => if i = 0 then ad (20 + k) else ad (24 + k)
/-- the Trace seen alone -/
def trV (S : MS) : MS := (fun _ => S.1 8, fun _ => S.2 41)
def trJ (S S2 : MS) : MS := (fun c => if c = 8 then S2.1 1 else S.1 c, fun i => if i = 41 then S2.2 0 else S.2 i)
def aTr (ad : Nat → Nat) : Nat → Nat := fun i => ad (14 + i)
def xCp (S : MS) (k k2 : Nat) (i j n : Int32) : MS := (fun c => if c = 10 + k2 then va_cpy (S.1 (10 + k)) (S.1 (10 + k2)) i.toNatClampNeg j.toNatClampNeg n.toNatClampNeg else S.1 c, S.2)
section XWR
variable {X : Cx} {cc : ByteArray} {nL ce sl pc : Nat} {lv : List (Nat × Value)} {st : List Value} {ad : Nat → Nat} {S : MS} {dX mcX msX : Nat} {retX : Option FieldType} {PostX : Option Value → va_W → Prop} {Q : Nat → Nat} {kv : Value} {RD : Nat → Nat × Int32 × Int32 × Int32} {own : String}
theorem xg_lift (hX : Ok X cc nL RX11) (hdg : decode cc pc = .ok (.getfield 10, 3)) (kk : G X nL ce sl (pc + 3) lv (.ref (ad 0) :: st) (xW X.E ad Q kv S)) : G X nL ce sl pc lv (.ref (ad 10) :: st) (xW X.E ad Q kv S) := g_get (C := RX11) (T := TX11) (N := 6) hX inX11 10 rfl rfl 0 (by decide) wd_2_193 (fun _ h => h) rfl hdg kk
theorem xg_images (hX : Ok X cc nL RX11) {v : Int32} (hv : S.2 40 = v) (hdg : decode cc pc = .ok (.getfield 19, 3)) (kk : G X nL ce sl (pc + 3) lv (.int v :: st) (xW X.E ad Q kv S)) : G X nL ce sl pc lv (.ref (ad 10) :: st) (xW X.E ad Q kv S) := by
  subst hv
  exact g_get (C := RX11) (T := TX11) (N := 6) hX inX11 10 rfl rfl 2 (by decide) wd_2_195 (fun _ h => h) rfl hdg kk
theorem xp_images (hX : Ok X cc nL RX11) {v : Int32} (hdg : decode cc pc = .ok (.putfield 19, 3)) (kk : G X nL ce sl (pc + 3) lv st (xW X.E ad Q kv (sF S 40 v))) : G X nL ce sl pc lv (.int v :: .ref (ad 10) :: st) (xW X.E ad Q kv S) := g_put (C := RX11) (T := TX11) (N := 6) (ty := .int) hX inX11 tyX11 tyX11_ok nmX11 10 rfl rfl 2 (by decide) wd_2_195 (fun _ h => h) rfl (by decide +kernel) rfl rfl (Nat.le_of_ble_eq_true rfl) (xW X.E ad Q kv (sF S 40 v)) rfl hdg kk
theorem xg_sheets (hX : Ok X cc nL RX11) (hdg : decode cc pc = .ok (.getfield 25, 3)) (kk : G X nL ce sl (pc + 3) lv (.ref (ad 12) :: st) (xW X.E ad Q kv S)) : G X nL ce sl pc lv (.ref (ad 10) :: st) (xW X.E ad Q kv S) := g_get (C := RX11) (T := TX11) (N := 6) hX inX11 10 rfl rfl 3 (by decide) wd_2_196 (fun _ h => h) rfl hdg kk
theorem xg_trace (hX : Ok X cc nL RX11) (hdg : decode cc pc = .ok (.getfield 32, 3)) (kk : G X nL ce sl (pc + 3) lv (.ref (ad 14) :: st) (xW X.E ad Q kv S)) : G X nL ce sl pc lv (.ref (ad 10) :: st) (xW X.E ad Q kv S) := g_get (C := RX11) (T := TX11) (N := 6) hX inX11 10 rfl rfl 4 (by decide) wd_2_197 (fun _ h => h) rfl hdg kk
theorem xg_errors (hX : Ok X cc nL RX11) (hdg : decode cc pc = .ok (.getfield 36, 3)) (kk : G X nL ce sl (pc + 3) lv (.ref (ad 11) :: st) (xW X.E ad Q kv S)) : G X nL ce sl pc lv (.ref (ad 10) :: st) (xW X.E ad Q kv S) := g_get (C := RX11) (T := TX11) (N := 6) hX inX11 10 rfl rfl 5 (by decide) wd_2_198 (fun _ h => h) rfl hdg kk
theorem xg_heard (hX : Ok X cc nL RX11) {v : Int32} (hv : S.2 0 = v) (hdg : decode cc pc = .ok (.getfield 52, 3)) (kk : G X nL ce sl (pc + 3) lv (.int v :: st) (xW X.E ad Q kv S)) : G X nL ce sl pc lv (.ref (ad 0) :: st) (xW X.E ad Q kv S) := by
  subst hv
  exact g_get (C := RX4) (T := TX4) (N := 16) hX inX4 13 rfl rfl 0 (by decide) wd_2_95 (fun _ h => h) rfl hdg kk
theorem xp_heard (hX : Ok X cc nL RX11) {v : Int32} (hdg : decode cc pc = .ok (.putfield 52, 3)) (kk : G X nL ce sl (pc + 3) lv st (xW X.E ad Q kv (sF S 0 v))) : G X nL ce sl pc lv (.int v :: .ref (ad 0) :: st) (xW X.E ad Q kv S) := g_put (C := RX4) (T := TX4) (N := 16) (ty := .int) hX inX4 tyX4 tyX4_ok nmX4 13 rfl rfl 0 (by decide) wd_2_95 (fun _ h => h) rfl (by decide +kernel) rfl rfl (Nat.le_of_ble_eq_true rfl) (xW X.E ad Q kv (sF S 0 v)) rfl hdg kk
theorem xg_world (hX : Ok X cc nL RX11) {v : Int32} (hv : S.2 1 = v) (hdg : decode cc pc = .ok (.getfield 66, 3)) (kk : G X nL ce sl (pc + 3) lv (.int v :: st) (xW X.E ad Q kv S)) : G X nL ce sl pc lv (.ref (ad 0) :: st) (xW X.E ad Q kv S) := by
  subst hv
  exact g_get (C := RX4) (T := TX4) (N := 16) hX inX4 13 rfl rfl 1 (by decide) wd_2_97 (fun _ h => h) rfl hdg kk
theorem xp_world (hX : Ok X cc nL RX11) {v : Int32} (hdg : decode cc pc = .ok (.putfield 66, 3)) (kk : G X nL ce sl (pc + 3) lv st (xW X.E ad Q kv (sF S 1 v))) : G X nL ce sl pc lv (.int v :: .ref (ad 0) :: st) (xW X.E ad Q kv S) := g_put (C := RX4) (T := TX4) (N := 16) (ty := .int) hX inX4 tyX4 tyX4_ok nmX4 13 rfl rfl 1 (by decide) wd_2_97 (fun _ h => h) rfl (by decide +kernel) rfl rfl (Nat.le_of_ble_eq_true rfl) (xW X.E ad Q kv (sF S 1 v)) rfl hdg kk
theorem xg_trust (hX : Ok X cc nL RX11) {v : Int32} (hv : S.2 2 = v) (hdg : decode cc pc = .ok (.getfield 69, 3)) (kk : G X nL ce sl (pc + 3) lv (.int v :: st) (xW X.E ad Q kv S)) : G X nL ce sl pc lv (.ref (ad 0) :: st) (xW X.E ad Q kv S) := by
  subst hv
  exact g_get (C := RX4) (T := TX4) (N := 16) hX inX4 13 rfl rfl 2 (by decide) wd_2_99 (fun _ h => h) rfl hdg kk
theorem xp_trust (hX : Ok X cc nL RX11) {v : Int32} (hdg : decode cc pc = .ok (.putfield 69, 3)) (kk : G X nL ce sl (pc + 3) lv st (xW X.E ad Q kv (sF S 2 v))) : G X nL ce sl pc lv (.int v :: .ref (ad 0) :: st) (xW X.E ad Q kv S) := g_put (C := RX4) (T := TX4) (N := 16) (ty := .int) hX inX4 tyX4 tyX4_ok nmX4 13 rfl rfl 2 (by decide) wd_2_99 (fun _ h => h) rfl (by decide +kernel) rfl rfl (Nat.le_of_ble_eq_true rfl) (xW X.E ad Q kv (sF S 2 v)) rfl hdg kk
theorem xg_day (hX : Ok X cc nL RX11) {v : Int32} (hv : S.2 3 = v) (hdg : decode cc pc = .ok (.getfield 166, 3)) (kk : G X nL ce sl (pc + 3) lv (.int v :: st) (xW X.E ad Q kv S)) : G X nL ce sl pc lv (.ref (ad 0) :: st) (xW X.E ad Q kv S) := by
  subst hv
  exact g_get (C := RX4) (T := TX4) (N := 16) hX inX4 13 rfl rfl 3 (by decide) wd_2_101 (fun _ h => h) rfl hdg kk
theorem xp_day (hX : Ok X cc nL RX11) {v : Int32} (hdg : decode cc pc = .ok (.putfield 166, 3)) (kk : G X nL ce sl (pc + 3) lv st (xW X.E ad Q kv (sF S 3 v))) : G X nL ce sl pc lv (.int v :: .ref (ad 0) :: st) (xW X.E ad Q kv S) := g_put (C := RX4) (T := TX4) (N := 16) (ty := .int) hX inX4 tyX4 tyX4_ok nmX4 13 rfl rfl 3 (by decide) wd_2_101 (fun _ h => h) rfl (by decide +kernel) rfl rfl (Nat.le_of_ble_eq_true rfl) (xW X.E ad Q kv (sF S 3 v)) rfl hdg kk
theorem xg_rides (hX : Ok X cc nL RX11) {v : Int32} (hv : S.2 4 = v) (hdg : decode cc pc = .ok (.getfield 271, 3)) (kk : G X nL ce sl (pc + 3) lv (.int v :: st) (xW X.E ad Q kv S)) : G X nL ce sl pc lv (.ref (ad 0) :: st) (xW X.E ad Q kv S) := by
  subst hv
  exact g_get (C := RX4) (T := TX4) (N := 16) hX inX4 13 rfl rfl 4 (by decide) wd_2_103 (fun _ h => h) rfl hdg kk
theorem xp_rides (hX : Ok X cc nL RX11) {v : Int32} (hdg : decode cc pc = .ok (.putfield 271, 3)) (kk : G X nL ce sl (pc + 3) lv st (xW X.E ad Q kv (sF S 4 v))) : G X nL ce sl pc lv (.int v :: .ref (ad 0) :: st) (xW X.E ad Q kv S) := g_put (C := RX4) (T := TX4) (N := 16) (ty := .int) hX inX4 tyX4 tyX4_ok nmX4 13 rfl rfl 4 (by decide) wd_2_103 (fun _ h => h) rfl (by decide +kernel) rfl rfl (Nat.le_of_ble_eq_true rfl) (xW X.E ad Q kv (sF S 4 v)) rfl hdg kk
theorem xg_z (hX : Ok X cc nL RX11) {v : Int32} (hv : S.2 5 = v) (hdg : decode cc pc = .ok (.getfield 212, 3)) (kk : G X nL ce sl (pc + 3) lv (.int v :: st) (xW X.E ad Q kv S)) : G X nL ce sl pc lv (.ref (ad 0) :: st) (xW X.E ad Q kv S) := by
  subst hv
  exact g_get (C := RX4) (T := TX4) (N := 16) hX inX4 13 rfl rfl 5 (by decide) wd_2_105 (fun _ h => h) rfl hdg kk
theorem xp_z (hX : Ok X cc nL RX11) {v : Int32} (hdg : decode cc pc = .ok (.putfield 212, 3)) (kk : G X nL ce sl (pc + 3) lv st (xW X.E ad Q kv (sF S 5 v))) : G X nL ce sl pc lv (.int v :: .ref (ad 0) :: st) (xW X.E ad Q kv S) := g_put (C := RX4) (T := TX4) (N := 16) (ty := .int) hX inX4 tyX4 tyX4_ok nmX4 13 rfl rfl 5 (by decide) wd_2_105 (fun _ h => h) rfl (by decide +kernel) rfl rfl (Nat.le_of_ble_eq_true rfl) (xW X.E ad Q kv (sF S 5 v)) rfl hdg kk
theorem xg_riderCount (hX : Ok X cc nL RX11) {v : Int32} (hv : S.2 6 = v) (hdg : decode cc pc = .ok (.getfield 75, 3)) (kk : G X nL ce sl (pc + 3) lv (.int v :: st) (xW X.E ad Q kv S)) : G X nL ce sl pc lv (.ref (ad 0) :: st) (xW X.E ad Q kv S) := by
  subst hv
  exact g_get (C := RX4) (T := TX4) (N := 16) hX inX4 13 rfl rfl 6 (by decide) wd_2_107 (fun _ h => h) rfl hdg kk
theorem xp_riderCount (hX : Ok X cc nL RX11) {v : Int32} (hdg : decode cc pc = .ok (.putfield 75, 3)) (kk : G X nL ce sl (pc + 3) lv st (xW X.E ad Q kv (sF S 6 v))) : G X nL ce sl pc lv (.int v :: .ref (ad 0) :: st) (xW X.E ad Q kv S) := g_put (C := RX4) (T := TX4) (N := 16) (ty := .int) hX inX4 tyX4 tyX4_ok nmX4 13 rfl rfl 6 (by decide) wd_2_107 (fun _ h => h) rfl (by decide +kernel) rfl rfl (Nat.le_of_ble_eq_true rfl) (xW X.E ad Q kv (sF S 6 v)) rfl hdg kk
theorem xg_riders (hX : Ok X cc nL RX11) (hdg : decode cc pc = .ok (.getfield 78, 3)) (kk : G X nL ce sl (pc + 3) lv (.ref (ad 1) :: st) (xW X.E ad Q kv S)) : G X nL ce sl pc lv (.ref (ad 0) :: st) (xW X.E ad Q kv S) := g_get (C := RX4) (T := TX4) (N := 16) hX inX4 13 rfl rfl 7 (by decide) wd_2_109 (fun _ h => h) rfl hdg kk
theorem xg_stories (hX : Ok X cc nL RX11) (hdg : decode cc pc = .ok (.getfield 86, 3)) (kk : G X nL ce sl (pc + 3) lv (.ref (ad 2) :: st) (xW X.E ad Q kv S)) : G X nL ce sl pc lv (.ref (ad 0) :: st) (xW X.E ad Q kv S) := g_get (C := RX4) (T := TX4) (N := 16) hX inX4 13 rfl rfl 8 (by decide) wd_2_111 (fun _ h => h) rfl hdg kk
theorem xg_tapeLength (hX : Ok X cc nL RX11) {v : Int32} (hv : S.2 7 = v) (hdg : decode cc pc = .ok (.getfield 137, 3)) (kk : G X nL ce sl (pc + 3) lv (.int v :: st) (xW X.E ad Q kv S)) : G X nL ce sl pc lv (.ref (ad 0) :: st) (xW X.E ad Q kv S) := by
  subst hv
  exact g_get (C := RX4) (T := TX4) (N := 16) hX inX4 13 rfl rfl 9 (by decide) wd_2_113 (fun _ h => h) rfl hdg kk
theorem xp_tapeLength (hX : Ok X cc nL RX11) {v : Int32} (hdg : decode cc pc = .ok (.putfield 137, 3)) (kk : G X nL ce sl (pc + 3) lv st (xW X.E ad Q kv (sF S 7 v))) : G X nL ce sl pc lv (.int v :: .ref (ad 0) :: st) (xW X.E ad Q kv S) := g_put (C := RX4) (T := TX4) (N := 16) (ty := .int) hX inX4 tyX4 tyX4_ok nmX4 13 rfl rfl 9 (by decide) wd_2_113 (fun _ h => h) rfl (by decide +kernel) rfl rfl (Nat.le_of_ble_eq_true rfl) (xW X.E ad Q kv (sF S 7 v)) rfl hdg kk
theorem xg_tape (hX : Ok X cc nL RX11) (hdg : decode cc pc = .ok (.getfield 140, 3)) (kk : G X nL ce sl (pc + 3) lv (.ref (ad 3) :: st) (xW X.E ad Q kv S)) : G X nL ce sl pc lv (.ref (ad 0) :: st) (xW X.E ad Q kv S) := g_get (C := RX4) (T := TX4) (N := 16) hX inX4 13 rfl rfl 10 (by decide) wd_2_115 (fun _ h => h) rfl hdg kk
theorem xg_waitingCount (hX : Ok X cc nL RX11) {v : Int32} (hv : S.2 8 = v) (hdg : decode cc pc = .ok (.getfield 265, 3)) (kk : G X nL ce sl (pc + 3) lv (.int v :: st) (xW X.E ad Q kv S)) : G X nL ce sl pc lv (.ref (ad 0) :: st) (xW X.E ad Q kv S) := by
  subst hv
  exact g_get (C := RX4) (T := TX4) (N := 16) hX inX4 13 rfl rfl 11 (by decide) wd_2_117 (fun _ h => h) rfl hdg kk
theorem xp_waitingCount (hX : Ok X cc nL RX11) {v : Int32} (hdg : decode cc pc = .ok (.putfield 265, 3)) (kk : G X nL ce sl (pc + 3) lv st (xW X.E ad Q kv (sF S 8 v))) : G X nL ce sl pc lv (.int v :: .ref (ad 0) :: st) (xW X.E ad Q kv S) := g_put (C := RX4) (T := TX4) (N := 16) (ty := .int) hX inX4 tyX4 tyX4_ok nmX4 13 rfl rfl 11 (by decide) wd_2_117 (fun _ h => h) rfl (by decide +kernel) rfl rfl (Nat.le_of_ble_eq_true rfl) (xW X.E ad Q kv (sF S 8 v)) rfl hdg kk
theorem xg_waiting (hX : Ok X cc nL RX11) (hdg : decode cc pc = .ok (.getfield 268, 3)) (kk : G X nL ce sl (pc + 3) lv (.ref (ad 4) :: st) (xW X.E ad Q kv S)) : G X nL ce sl pc lv (.ref (ad 0) :: st) (xW X.E ad Q kv S) := g_get (C := RX4) (T := TX4) (N := 16) hX inX4 13 rfl rfl 12 (by decide) wd_2_119 (fun _ h => h) rfl hdg kk
theorem xg_bodies (hX : Ok X cc nL RX11) (hdg : decode cc pc = .ok (.getfield 231, 3)) (kk : G X nL ce sl (pc + 3) lv (.ref (ad 15) :: st) (xW X.E ad Q kv S)) : G X nL ce sl pc lv (.ref (ad 14) :: st) (xW X.E ad Q kv S) := g_get (C := RX9) (T := TX9) (N := 2) hX inX9 0 rfl rfl 0 (by decide) wd_2_165 (fun _ h => h) rfl hdg kk
theorem xg_tlen (hX : Ok X cc nL RX11) {v : Int32} (hv : S.2 41 = v) (hdg : decode cc pc = .ok (.getfield 215, 3)) (kk : G X nL ce sl (pc + 3) lv (.int v :: st) (xW X.E ad Q kv S)) : G X nL ce sl pc lv (.ref (ad 14) :: st) (xW X.E ad Q kv S) := by
  subst hv
  exact g_get (C := RX9) (T := TX9) (N := 2) hX inX9 0 rfl rfl 1 (by decide) wd_2_167 (fun _ h => h) rfl hdg kk
theorem xp_tlen (hX : Ok X cc nL RX11) {v : Int32} (hdg : decode cc pc = .ok (.putfield 215, 3)) (kk : G X nL ce sl (pc + 3) lv st (xW X.E ad Q kv (sF S 41 v))) : G X nL ce sl pc lv (.int v :: .ref (ad 14) :: st) (xW X.E ad Q kv S) := g_put (C := RX9) (T := TX9) (N := 2) (ty := .int) hX inX9 tyX9 tyX9_ok nmX9 0 rfl rfl 1 (by decide) wd_2_167 (fun _ h => h) rfl (by decide +kernel) rfl rfl (Nat.le_of_ble_eq_true rfl) (xW X.E ad Q kv (sF S 41 v)) rfl hdg kk
theorem xg_numbers (hX : Ok X cc nL RX11) {k : Nat} (hk : k < 4) (hdg : decode cc pc = .ok (.getfield 243, 3)) (kk : G X nL ce sl (pc + 3) lv (.ref (ad (24 + k)) :: st) (xW X.E ad Q kv S)) : G X nL ce sl pc lv (.ref (ad (20 + k)) :: st) (xW X.E ad Q kv S) := by
  rcases (show k = 0 ∨ k = 1 ∨ k = 2 ∨ k = 3 by omega) with rfl | rfl | rfl | rfl
  · exact g_get (C := RX7) (T := TX7) (N := 3) hX inX7 2 rfl rfl 0 (by decide) wd_2_180 (fun _ h => h) rfl hdg kk
  · exact g_get (C := RX7) (T := TX7) (N := 3) hX inX7 4 rfl rfl 0 (by decide) wd_2_180 (fun _ h => h) rfl hdg kk
  · exact g_get (C := RX7) (T := TX7) (N := 3) hX inX7 6 rfl rfl 0 (by decide) wd_2_180 (fun _ h => h) rfl hdg kk
  · exact g_get (C := RX7) (T := TX7) (N := 3) hX inX7 8 rfl rfl 0 (by decide) wd_2_180 (fun _ h => h) rfl hdg kk
theorem xg_sbits (hX : Ok X cc nL RX11) {k : Nat} (hk : k < 4) (hdg : decode cc pc = .ok (.getfield 249, 3)) (kk : G X nL ce sl (pc + 3) lv (.int (S.2 (42 + k)) :: st) (xW X.E ad Q kv S)) : G X nL ce sl pc lv (.ref (ad (20 + k)) :: st) (xW X.E ad Q kv S) := by
  rcases (show k = 0 ∨ k = 1 ∨ k = 2 ∨ k = 3 by omega) with rfl | rfl | rfl | rfl
  · exact g_get (C := RX7) (T := TX7) (N := 3) hX inX7 2 rfl rfl 1 (by decide) wd_2_182 (fun _ h => h) rfl hdg kk
  · exact g_get (C := RX7) (T := TX7) (N := 3) hX inX7 4 rfl rfl 1 (by decide) wd_2_182 (fun _ h => h) rfl hdg kk
  · exact g_get (C := RX7) (T := TX7) (N := 3) hX inX7 6 rfl rfl 1 (by decide) wd_2_182 (fun _ h => h) rfl hdg kk
  · exact g_get (C := RX7) (T := TX7) (N := 3) hX inX7 8 rfl rfl 1 (by decide) wd_2_182 (fun _ h => h) rfl hdg kk
theorem xg_slength (hX : Ok X cc nL RX11) {k : Nat} (hk : k < 4) (hdg : decode cc pc = .ok (.getfield 242, 3)) (kk : G X nL ce sl (pc + 3) lv (.int (S.2 (46 + k)) :: st) (xW X.E ad Q kv S)) : G X nL ce sl pc lv (.ref (ad (20 + k)) :: st) (xW X.E ad Q kv S) := by
  rcases (show k = 0 ∨ k = 1 ∨ k = 2 ∨ k = 3 by omega) with rfl | rfl | rfl | rfl
  · exact g_get (C := RX7) (T := TX7) (N := 3) hX inX7 2 rfl rfl 2 (by decide) wd_2_185 (fun _ h => h) rfl hdg kk
  · exact g_get (C := RX7) (T := TX7) (N := 3) hX inX7 4 rfl rfl 2 (by decide) wd_2_185 (fun _ h => h) rfl hdg kk
  · exact g_get (C := RX7) (T := TX7) (N := 3) hX inX7 6 rfl rfl 2 (by decide) wd_2_185 (fun _ h => h) rfl hdg kk
  · exact g_get (C := RX7) (T := TX7) (N := 3) hX inX7 8 rfl rfl 2 (by decide) wd_2_185 (fun _ h => h) rfl hdg kk
theorem xg_rkind (hro : ∀ z ∈ roL Q RD, z ∈ X.ro) (hRk : ∀ k, k < 6 → isRk (RD k).1) {k : Nat} (hk : k < 6) (hX : Ok X cc nL RX11) {ws : va_W} (hdg : decode cc pc = .ok (.getfield 92, 3)) (kk : G X nL ce sl (pc + 3) lv (.int (RD k).2.1 :: st) ws) : G X nL ce sl pc lv (.ref (Q k) :: st) ws := by
  have hm := hro _ (roL_in hk)
  have hr := hRk k hk
  generalize RD k = R at hm hr kk
  obtain ⟨D, fk, fm, fn⟩ := R
  rcases hr with h | h | h | h | h | h | h
  · obtain rfl : D = 0 := h
    exact g_getR (C := RX0) (T := TX0) (N := 3) hX inX0 hm rfl 0 (by decide) wd_1_146 (fun _ h => h) rfl hdg kk
  · obtain rfl : D = 1 := h
    exact g_getR (C := RX1) (T := TX1) (N := 3) hX inX1 hm rfl 0 (by decide) wd_1_146 (fun _ h => h) rfl hdg kk
  · obtain rfl : D = 3 := h
    exact g_getR (C := RX3) (T := TX3) (N := 3) hX inX3 hm rfl 0 (by decide) wd_1_146 (fun _ h => h) rfl hdg kk
  · obtain rfl : D = 5 := h
    exact g_getR (C := RX5) (T := TX5) (N := 3) hX inX5 hm rfl 0 (by decide) wd_1_146 (fun _ h => h) rfl hdg kk
  · obtain rfl : D = 6 := h
    exact g_getR (C := RX6) (T := TX6) (N := 3) hX inX6 hm rfl 0 (by decide) wd_1_146 (fun _ h => h) rfl hdg kk
  · obtain rfl : D = 8 := h
    exact g_getR (C := RX8) (T := TX8) (N := 3) hX inX8 hm rfl 0 (by decide) wd_1_146 (fun _ h => h) rfl hdg kk
  · obtain rfl : D = 10 := h
    exact g_getR (C := RX10) (T := TX10) (N := 3) hX inX10 hm rfl 0 (by decide) wd_1_146 (fun _ h => h) rfl hdg kk
theorem xg_rm (hro : ∀ z ∈ roL Q RD, z ∈ X.ro) (hRk : ∀ k, k < 6 → isRk (RD k).1) {k : Nat} (hk : k < 6) (hX : Ok X cc nL RX11) {ws : va_W} (hdg : decode cc pc = .ok (.getfield 97, 3)) (kk : G X nL ce sl (pc + 3) lv (.int (RD k).2.2.1 :: st) ws) : G X nL ce sl pc lv (.ref (Q k) :: st) ws := by
  have hm := hro _ (roL_in hk)
  have hr := hRk k hk
  generalize RD k = R at hm hr kk
  obtain ⟨D, fk, fm, fn⟩ := R
  rcases hr with h | h | h | h | h | h | h
  · obtain rfl : D = 0 := h
    exact g_getR (C := RX0) (T := TX0) (N := 3) hX inX0 hm rfl 1 (by decide) wd_1_150 (fun _ h => h) rfl hdg kk
  · obtain rfl : D = 1 := h
    exact g_getR (C := RX1) (T := TX1) (N := 3) hX inX1 hm rfl 1 (by decide) wd_1_150 (fun _ h => h) rfl hdg kk
  · obtain rfl : D = 3 := h
    exact g_getR (C := RX3) (T := TX3) (N := 3) hX inX3 hm rfl 1 (by decide) wd_1_150 (fun _ h => h) rfl hdg kk
  · obtain rfl : D = 5 := h
    exact g_getR (C := RX5) (T := TX5) (N := 3) hX inX5 hm rfl 1 (by decide) wd_1_150 (fun _ h => h) rfl hdg kk
  · obtain rfl : D = 6 := h
    exact g_getR (C := RX6) (T := TX6) (N := 3) hX inX6 hm rfl 1 (by decide) wd_1_150 (fun _ h => h) rfl hdg kk
  · obtain rfl : D = 8 := h
    exact g_getR (C := RX8) (T := TX8) (N := 3) hX inX8 hm rfl 1 (by decide) wd_1_150 (fun _ h => h) rfl hdg kk
  · obtain rfl : D = 10 := h
    exact g_getR (C := RX10) (T := TX10) (N := 3) hX inX10 hm rfl 1 (by decide) wd_1_150 (fun _ h => h) rfl hdg kk
theorem xl_stories (hX : Ok X cc nL own) {i : Int32} (hin : vp_in i 6) (j : Nat) (hj : i.toNatClampNeg = j) (hdg : decode cc pc = .ok (.iaload, 1)) (kk : G X nL ce sl (pc + 1) lv (.int (S.1 1 j) :: st) (xW X.E ad Q kv S)) : G X nL ce sl pc lv (.int i :: .ref (ad 2) :: st) (xW X.E ad Q kv S) := g_iald hX 15 (n := 6) (f := S.1 1) rfl hin j hj hdg kk
theorem xs_stories (hX : Ok X cc nL own) {i x : Int32} (hin : vp_in i 6) (j : Nat) (hj : i.toNatClampNeg = j) (hdg : decode cc pc = .ok (.iastore, 1)) (kk : G X nL ce sl (pc + 1) lv st (xW X.E ad Q kv (sA S 1 j x))) : G X nL ce sl pc lv (.int x :: .int i :: .ref (ad 2) :: st) (xW X.E ad Q kv S) := g_iast hX 15 (n := 6) (f := S.1 1) rfl hin j hj (xW X.E ad Q kv (sA S 1 j x)) rfl hdg kk
theorem xl_waiting (hX : Ok X cc nL own) {i : Int32} (hin : vp_in i 20) (j : Nat) (hj : i.toNatClampNeg = j) (hdg : decode cc pc = .ok (.iaload, 1)) (kk : G X nL ce sl (pc + 1) lv (.int (S.1 3 j) :: st) (xW X.E ad Q kv S)) : G X nL ce sl pc lv (.int i :: .ref (ad 4) :: st) (xW X.E ad Q kv S) := g_iald hX 17 (n := 20) (f := S.1 3) rfl hin j hj hdg kk
theorem xs_waiting (hX : Ok X cc nL own) {i x : Int32} (hin : vp_in i 20) (j : Nat) (hj : i.toNatClampNeg = j) (hdg : decode cc pc = .ok (.iastore, 1)) (kk : G X nL ce sl (pc + 1) lv st (xW X.E ad Q kv (sA S 3 j x))) : G X nL ce sl pc lv (.int x :: .int i :: .ref (ad 4) :: st) (xW X.E ad Q kv S) := g_iast hX 17 (n := 20) (f := S.1 3) rfl hin j hj (xW X.E ad Q kv (sA S 3 j x)) rfl hdg kk
theorem xl_worth (hX : Ok X cc nL own) {i : Int32} (hin : vp_in i 729) (j : Nat) (hj : i.toNatClampNeg = j) (hdg : decode cc pc = .ok (.iaload, 1)) (kk : G X nL ce sl (pc + 1) lv (.int (S.1 4 j) :: st) (xW X.E ad Q kv S)) : G X nL ce sl pc lv (.int i :: .ref (ad 9) :: st) (xW X.E ad Q kv S) := g_iald hX 16 (n := 729) (f := S.1 4) rfl hin j hj hdg kk
theorem xs_worth (hX : Ok X cc nL own) {i x : Int32} (hin : vp_in i 729) (j : Nat) (hj : i.toNatClampNeg = j) (hdg : decode cc pc = .ok (.iastore, 1)) (kk : G X nL ce sl (pc + 1) lv st (xW X.E ad Q kv (sA S 4 j x))) : G X nL ce sl pc lv (.int x :: .int i :: .ref (ad 9) :: st) (xW X.E ad Q kv S) := g_iast hX 16 (n := 729) (f := S.1 4) rfl hin j hj (xW X.E ad Q kv (sA S 4 j x)) rfl hdg kk
theorem upd_b {f : Nat → Int32} {j : Nat} {x : Int32} : ∀ z : Nat, upd (fun k => ji2b (f k)) j x.toInt8.toInt32 z = ji2b (upd f j x z) := by
  intro z
  unfold upd
  by_cases h : z = j
  · rw [if_pos h, if_pos h]; rfl
  · rw [if_neg h, if_neg h]
theorem xs_tape (hX : Ok X cc nL own) {i x : Int32} (hin : vp_in i 50) (j : Nat) (hj : i.toNatClampNeg = j) (hdg : decode cc pc = .ok (.bastore, 1)) (kk : G X nL ce sl (pc + 1) lv st (xW X.E ad Q kv (sA S 2 j x))) : G X nL ce sl pc lv (.int x :: .int i :: .ref (ad 3) :: st) (xW X.E ad Q kv S) := by
  refine g_bast hX 18 (n := 50) (f := fun k => ji2b (S.1 2 k)) rfl hin j hj _ rfl hdg ?_
  exact g_arrX 18 (n := 50) (f := upd (fun k => ji2b (S.1 2 k)) j x.toInt8.toInt32) (g := fun k => ji2b (upd (S.1 2) j x k)) rfl (fun z _ => upd_b z) (xW X.E ad Q kv (sA S 2 j x)) rfl kk
theorem xl_errors (hX : Ok X cc nL own) {i : Int32} (hin : vp_in i 6) (j : Nat) (hj : i.toNatClampNeg = j) (hdg : decode cc pc = .ok (.iaload, 1)) (kk : G X nL ce sl (pc + 1) lv (.int (S.1 7 j) :: st) (xW X.E ad Q kv S)) : G X nL ce sl pc lv (.int i :: .ref (ad 11) :: st) (xW X.E ad Q kv S) := g_iald hX 11 (n := 6) (f := S.1 7) rfl hin j hj hdg kk
theorem xs_errors (hX : Ok X cc nL own) {i x : Int32} (hin : vp_in i 6) (j : Nat) (hj : i.toNatClampNeg = j) (hdg : decode cc pc = .ok (.iastore, 1)) (kk : G X nL ce sl (pc + 1) lv st (xW X.E ad Q kv (sA S 7 j x))) : G X nL ce sl pc lv (.int x :: .int i :: .ref (ad 11) :: st) (xW X.E ad Q kv S) := g_iast hX 11 (n := 6) (f := S.1 7) rfl hin j hj (xW X.E ad Q kv (sA S 7 j x)) rfl hdg kk
theorem xl_bodies (hX : Ok X cc nL own) {i : Int32} (hin : vp_in i 40) (j : Nat) (hj : i.toNatClampNeg = j) (hdg : decode cc pc = .ok (.iaload, 1)) (kk : G X nL ce sl (pc + 1) lv (.int (S.1 8 j) :: st) (xW X.E ad Q kv S)) : G X nL ce sl pc lv (.int i :: .ref (ad 15) :: st) (xW X.E ad Q kv S) := g_iald hX 1 (n := 40) (f := S.1 8) rfl hin j hj hdg kk
theorem xs_bodies (hX : Ok X cc nL own) {i x : Int32} (hin : vp_in i 40) (j : Nat) (hj : i.toNatClampNeg = j) (hdg : decode cc pc = .ok (.iastore, 1)) (kk : G X nL ce sl (pc + 1) lv st (xW X.E ad Q kv (sA S 8 j x))) : G X nL ce sl pc lv (.int x :: .int i :: .ref (ad 15) :: st) (xW X.E ad Q kv S) := g_iast hX 1 (n := 40) (f := S.1 8) rfl hin j hj (xW X.E ad Q kv (sA S 8 j x)) rfl hdg kk
theorem xl_nums (hX : Ok X cc nL own) {k : Nat} (hk : k < 4) {i : Int32} (hin : vp_in i 40) (j : Nat) (hj : i.toNatClampNeg = j) (hdg : decode cc pc = .ok (.iaload, 1)) (kk : G X nL ce sl (pc + 1) lv (.int (S.1 (10 + k) j) :: st) (xW X.E ad Q kv S)) : G X nL ce sl pc lv (.int i :: .ref (ad (24 + k)) :: st) (xW X.E ad Q kv S) := by
  rcases (show k = 0 ∨ k = 1 ∨ k = 2 ∨ k = 3 by omega) with rfl | rfl | rfl | rfl
  · exact g_iald hX 3 (n := 40) (f := S.1 10) rfl hin j hj hdg kk
  · exact g_iald hX 5 (n := 40) (f := S.1 11) rfl hin j hj hdg kk
  · exact g_iald hX 7 (n := 40) (f := S.1 12) rfl hin j hj hdg kk
  · exact g_iald hX 9 (n := 40) (f := S.1 13) rfl hin j hj hdg kk
theorem xs_nums (hX : Ok X cc nL own) {k : Nat} (hk : k < 4) {i x : Int32} (hin : vp_in i 40) (j : Nat) (hj : i.toNatClampNeg = j) (hdg : decode cc pc = .ok (.iastore, 1)) (kk : G X nL ce sl (pc + 1) lv st (xW X.E ad Q kv (sA S (10 + k) j x))) : G X nL ce sl pc lv (.int x :: .int i :: .ref (ad (24 + k)) :: st) (xW X.E ad Q kv S) := by
  rcases (show k = 0 ∨ k = 1 ∨ k = 2 ∨ k = 3 by omega) with rfl | rfl | rfl | rfl
  · exact g_iast hX 3 (n := 40) (f := S.1 10) rfl hin j hj (xW X.E ad Q kv (sA S 10 j x)) rfl hdg kk
  · exact g_iast hX 5 (n := 40) (f := S.1 11) rfl hin j hj (xW X.E ad Q kv (sA S 11 j x)) rfl hdg kk
  · exact g_iast hX 7 (n := 40) (f := S.1 12) rfl hin j hj (xW X.E ad Q kv (sA S 12 j x)) rfl hdg kk
  · exact g_iast hX 9 (n := 40) (f := S.1 13) rfl hin j hj (xW X.E ad Q kv (sA S 13 j x)) rfl hdg kk
theorem xl_riders (hX : Ok X cc nL own) {x : Int32} (hin : vp_in x 6) (k : Nat) (hj : x.toNatClampNeg = k) (hdg : decode cc pc = .ok (.aaload, 1)) (kk : G X nL ce sl (pc + 1) lv (.ref (Q k) :: st) (xW X.E ad Q kv S)) : G X nL ce sl pc lv (.int x :: .ref (ad 1) :: st) (xW X.E ad Q kv S) := by
  subst hj
  exact g_aald hX 14 2 (n := 6) (f := fun j => some (Q j)) rfl rfl hin rfl hdg kk
theorem xl_sheets (hX : Ok X cc nL own) {x : Int32} (hin : vp_in x 4) (k : Nat) (hj : x.toNatClampNeg = k) (hdg : decode cc pc = .ok (.aaload, 1)) (kk : G X nL ce sl (pc + 1) lv (.ref (ad (20 + k)) :: st) (xW X.E ad Q kv S)) : G X nL ce sl pc lv (.int x :: .ref (ad 12) :: st) (xW X.E ad Q kv S) := by
  subst hj
  exact g_aald hX 12 3 (n := 4) (f := fun j => some (ad (20 + j))) rfl rfl hin rfl hdg kk
end XWR

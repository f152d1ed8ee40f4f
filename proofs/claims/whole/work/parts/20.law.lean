abbrev pW (E : En) (ad : Nat → Nat) (i qt qr : Nat) (F : Nat → Int32) (S : MS) : va_W := [(ad 0, .inr (2, [.ref (E.aK i), .ref qt, .int (S.2 0), .ref qr, .int (S.2 1), .int (S.2 2), .int (S.2 3), .int (S.2 4), .int (S.2 5), .int (S.2 6)])), (ad 1, .inl (E.cB, 50, .inl F))]
section PWR
variable {X : Cx} {cc : ByteArray} {nL ce sl pc : Nat} {lv : List (Nat × Value)} {st : List Value} {ad : Nat → Nat} {S : MS} {i qt qr : Nat} {F : Nat → Int32}
theorem pg_names (hX : Ok X cc nL RX2) (hdg : decode cc pc = .ok (.getfield 41, 3)) (kk : G X nL ce sl (pc + 3) lv (.ref (X.E.aK i) :: st) (pW X.E ad i qt qr F S)) : G X nL ce sl pc lv (.ref (ad 0) :: st) (pW X.E ad i qt qr F S) := g_get (C := RX2) (T := TX2) (N := 10) hX inX2 0 rfl rfl 0 (by decide) wd_1_98 (fun _ h => h) rfl hdg kk
theorem pg_text (hX : Ok X cc nL RX2) (hdg : decode cc pc = .ok (.getfield 9, 3)) (kk : G X nL ce sl (pc + 3) lv (.ref qt :: st) (pW X.E ad i qt qr F S)) : G X nL ce sl pc lv (.ref (ad 0) :: st) (pW X.E ad i qt qr F S) := g_get (C := RX2) (T := TX2) (N := 10) hX inX2 0 rfl rfl 1 (by decide) wd_1_99 (fun _ h => h) rfl hdg kk
theorem pg_length (hX : Ok X cc nL RX2) {v : Int32} (hv : S.2 0 = v) (hdg : decode cc pc = .ok (.getfield 15, 3)) (kk : G X nL ce sl (pc + 3) lv (.int v :: st) (pW X.E ad i qt qr F S)) : G X nL ce sl pc lv (.ref (ad 0) :: st) (pW X.E ad i qt qr F S) := by
  subst hv
  exact g_get (C := RX2) (T := TX2) (N := 10) hX inX2 0 rfl rfl 2 (by decide) wd_1_100 (fun _ h => h) rfl hdg kk
theorem pp_length (hX : Ok X cc nL RX2) {v : Int32} (hdg : decode cc pc = .ok (.putfield 15, 3)) (kk : G X nL ce sl (pc + 3) lv st (pW X.E ad i qt qr F (sF S 0 v))) : G X nL ce sl pc lv (.int v :: .ref (ad 0) :: st) (pW X.E ad i qt qr F S) := g_put (C := RX2) (T := TX2) (N := 10) (ty := .int) hX inX2 tyX2 tyX2_ok nmX2 0 rfl rfl 2 (by decide) wd_1_100 (fun _ h => h) rfl (by decide +kernel) rfl rfl (Nat.le_of_ble_eq_true rfl) (pW X.E ad i qt qr F (sF S 0 v)) rfl hdg kk
theorem pg_row (hX : Ok X cc nL RX2) (hdg : decode cc pc = .ok (.getfield 19, 3)) (kk : G X nL ce sl (pc + 3) lv (.ref qr :: st) (pW X.E ad i qt qr F S)) : G X nL ce sl pc lv (.ref (ad 0) :: st) (pW X.E ad i qt qr F S) := g_get (C := RX2) (T := TX2) (N := 10) hX inX2 0 rfl rfl 3 (by decide) wd_1_101 (fun _ h => h) rfl hdg kk
theorem pg_end (hX : Ok X cc nL RX2) {v : Int32} (hv : S.2 1 = v) (hdg : decode cc pc = .ok (.getfield 22, 3)) (kk : G X nL ce sl (pc + 3) lv (.int v :: st) (pW X.E ad i qt qr F S)) : G X nL ce sl pc lv (.ref (ad 0) :: st) (pW X.E ad i qt qr F S) := by
  subst hv
  exact g_get (C := RX2) (T := TX2) (N := 10) hX inX2 0 rfl rfl 4 (by decide) wd_1_102 (fun _ h => h) rfl hdg kk
theorem pp_end (hX : Ok X cc nL RX2) {v : Int32} (hdg : decode cc pc = .ok (.putfield 22, 3)) (kk : G X nL ce sl (pc + 3) lv st (pW X.E ad i qt qr F (sF S 1 v))) : G X nL ce sl pc lv (.int v :: .ref (ad 0) :: st) (pW X.E ad i qt qr F S) := g_put (C := RX2) (T := TX2) (N := 10) (ty := .int) hX inX2 tyX2 tyX2_ok nmX2 0 rfl rfl 4 (by decide) wd_1_102 (fun _ h => h) rfl (by decide +kernel) rfl rfl (Nat.le_of_ble_eq_true rfl) (pW X.E ad i qt qr F (sF S 1 v)) rfl hdg kk
theorem pg_place (hX : Ok X cc nL RX2) {v : Int32} (hv : S.2 2 = v) (hdg : decode cc pc = .ok (.getfield 25, 3)) (kk : G X nL ce sl (pc + 3) lv (.int v :: st) (pW X.E ad i qt qr F S)) : G X nL ce sl pc lv (.ref (ad 0) :: st) (pW X.E ad i qt qr F S) := by
  subst hv
  exact g_get (C := RX2) (T := TX2) (N := 10) hX inX2 0 rfl rfl 5 (by decide) wd_1_103 (fun _ h => h) rfl hdg kk
theorem pp_place (hX : Ok X cc nL RX2) {v : Int32} (hdg : decode cc pc = .ok (.putfield 25, 3)) (kk : G X nL ce sl (pc + 3) lv st (pW X.E ad i qt qr F (sF S 2 v))) : G X nL ce sl pc lv (.int v :: .ref (ad 0) :: st) (pW X.E ad i qt qr F S) := g_put (C := RX2) (T := TX2) (N := 10) (ty := .int) hX inX2 tyX2 tyX2_ok nmX2 0 rfl rfl 5 (by decide) wd_1_103 (fun _ h => h) rfl (by decide +kernel) rfl rfl (Nat.le_of_ble_eq_true rfl) (pW X.E ad i qt qr F (sF S 2 v)) rfl hdg kk
theorem pg_faulty (hX : Ok X cc nL RX2) {v : Int32} (hv : S.2 3 = v) (hdg : decode cc pc = .ok (.getfield 28, 3)) (kk : G X nL ce sl (pc + 3) lv (.int v :: st) (pW X.E ad i qt qr F S)) : G X nL ce sl pc lv (.ref (ad 0) :: st) (pW X.E ad i qt qr F S) := by
  subst hv
  exact g_get (C := RX2) (T := TX2) (N := 10) hX inX2 0 rfl rfl 6 (by decide) wd_1_104 (fun _ h => h) rfl hdg kk
theorem pp_faulty (hX : Ok X cc nL RX2) {v : Int32} (hz : v = 0 ∨ v = 1) (hdg : decode cc pc = .ok (.putfield 28, 3)) (kk : G X nL ce sl (pc + 3) lv st (pW X.E ad i qt qr F (sF S 3 v))) : G X nL ce sl pc lv (.int v :: .ref (ad 0) :: st) (pW X.E ad i qt qr F S) := g_put (C := RX2) (T := TX2) (N := 10) (ty := .boolean) hX inX2 tyX2 tyX2_ok nmX2 0 rfl rfl 6 (by decide) wd_1_104 (fun _ h => h) rfl (by decide +kernel) (nar_z hz) (by rcases hz with rfl | rfl <;> rfl) (Nat.le_of_ble_eq_true rfl) (pW X.E ad i qt qr F (sF S 3 v)) rfl hdg kk
theorem pg_first (hX : Ok X cc nL RX2) {v : Int32} (hv : S.2 4 = v) (hdg : decode cc pc = .ok (.getfield 32, 3)) (kk : G X nL ce sl (pc + 3) lv (.int v :: st) (pW X.E ad i qt qr F S)) : G X nL ce sl pc lv (.ref (ad 0) :: st) (pW X.E ad i qt qr F S) := by
  subst hv
  exact g_get (C := RX2) (T := TX2) (N := 10) hX inX2 0 rfl rfl 7 (by decide) wd_1_105 (fun _ h => h) rfl hdg kk
theorem pp_first (hX : Ok X cc nL RX2) {v : Int32} (hdg : decode cc pc = .ok (.putfield 32, 3)) (kk : G X nL ce sl (pc + 3) lv st (pW X.E ad i qt qr F (sF S 4 v))) : G X nL ce sl pc lv (.int v :: .ref (ad 0) :: st) (pW X.E ad i qt qr F S) := g_put (C := RX2) (T := TX2) (N := 10) (ty := .int) hX inX2 tyX2 tyX2_ok nmX2 0 rfl rfl 7 (by decide) wd_1_105 (fun _ h => h) rfl (by decide +kernel) rfl rfl (Nat.le_of_ble_eq_true rfl) (pW X.E ad i qt qr F (sF S 4 v)) rfl hdg kk
theorem pg_second (hX : Ok X cc nL RX2) {v : Int32} (hv : S.2 5 = v) (hdg : decode cc pc = .ok (.getfield 35, 3)) (kk : G X nL ce sl (pc + 3) lv (.int v :: st) (pW X.E ad i qt qr F S)) : G X nL ce sl pc lv (.ref (ad 0) :: st) (pW X.E ad i qt qr F S) := by
  subst hv
  exact g_get (C := RX2) (T := TX2) (N := 10) hX inX2 0 rfl rfl 8 (by decide) wd_1_106 (fun _ h => h) rfl hdg kk
theorem pp_second (hX : Ok X cc nL RX2) {v : Int32} (hdg : decode cc pc = .ok (.putfield 35, 3)) (kk : G X nL ce sl (pc + 3) lv st (pW X.E ad i qt qr F (sF S 5 v))) : G X nL ce sl pc lv (.int v :: .ref (ad 0) :: st) (pW X.E ad i qt qr F S) := g_put (C := RX2) (T := TX2) (N := 10) (ty := .int) hX inX2 tyX2 tyX2_ok nmX2 0 rfl rfl 8 (by decide) wd_1_106 (fun _ h => h) rfl (by decide +kernel) rfl rfl (Nat.le_of_ble_eq_true rfl) (pW X.E ad i qt qr F (sF S 5 v)) rfl hdg kk
theorem pg_third (hX : Ok X cc nL RX2) {v : Int32} (hv : S.2 6 = v) (hdg : decode cc pc = .ok (.getfield 38, 3)) (kk : G X nL ce sl (pc + 3) lv (.int v :: st) (pW X.E ad i qt qr F S)) : G X nL ce sl pc lv (.ref (ad 0) :: st) (pW X.E ad i qt qr F S) := by
  subst hv
  exact g_get (C := RX2) (T := TX2) (N := 10) hX inX2 0 rfl rfl 9 (by decide) wd_1_107 (fun _ h => h) rfl hdg kk
theorem pp_third (hX : Ok X cc nL RX2) {v : Int32} (hdg : decode cc pc = .ok (.putfield 38, 3)) (kk : G X nL ce sl (pc + 3) lv st (pW X.E ad i qt qr F (sF S 6 v))) : G X nL ce sl pc lv (.int v :: .ref (ad 0) :: st) (pW X.E ad i qt qr F S) := g_put (C := RX2) (T := TX2) (N := 10) (ty := .int) hX inX2 tyX2 tyX2_ok nmX2 0 rfl rfl 9 (by decide) wd_1_107 (fun _ h => h) rfl (by decide +kernel) rfl rfl (Nat.le_of_ble_eq_true rfl) (pW X.E ad i qt qr F (sF S 6 v)) rfl hdg kk
theorem pp_row (hX : Ok X cc nL RX2) {q2 : Nat} (hdg : decode cc pc = .ok (.putfield 19, 3)) (kk : G X nL ce sl (pc + 3) lv st (pW X.E ad i qt q2 F S)) : G X nL ce sl pc lv (.ref q2 :: .ref (ad 0) :: st) (pW X.E ad i qt qr F S) := g_put (C := RX2) (T := TX2) (N := 10) (ty := .array .byte) hX inX2 tyX2 tyX2_ok nmX2 0 rfl rfl 3 (by decide) wd_1_101 (fun _ h => h) rfl (by decide +kernel) rfl rfl (Nat.le_of_ble_eq_true rfl) (pW X.E ad i qt q2 F S) rfl hdg kk
theorem pl_row {own : String} (hX : Ok X cc nL own) {x : Int32} (hin : vp_in x 50) (j : Nat) (hj : x.toNatClampNeg = j) (hdg : decode cc pc = .ok (.baload, 1)) (kk : G X nL ce sl (pc + 1) lv (.int (F j) :: st) (pW X.E ad i qt qr F S)) : G X nL ce sl pc lv (.int x :: .ref (ad 1) :: st) (pW X.E ad i qt qr F S) := g_bald hX 1 (n := 50) (f := F) rfl hin j hj hdg kk
theorem pl_len {own : String} (hX : Ok X cc nL own) (hdg : decode cc pc = .ok (.arraylength, 1)) (kk : G X nL ce sl (pc + 1) lv (.int 50 :: st) (pW X.E ad i qt qr F S)) : G X nL ce sl pc lv (.ref (ad 1) :: st) (pW X.E ad i qt qr F S) := g_alen hX 1 1 rfl rfl rfl hdg kk
end PWR
def f_X2_fail (i : Nat) (F : Nat → Int32) (S : MS) : Option (Int32 × MS) :=
  bI (S.2 2) fun v1 =>
  some (0, (sF (sF S 3 1) 1 v1))
set_option maxRecDepth 100000 in
set_option maxHeartbeats 4000000 in
theorem t_X2_fail_0 {X : Cx} {ad : Nat → Nat} {i qt : Nat} {F : Nat → Int32} (hi : i < 4) {PostX : Option Value → va_W → Prop} (hX : Ok X cX2_fail 1 RX2) (hq : Rq X 0 0 0 (some .int) PostX) {u : (Int32 × MS)} (hp : PostX (some (.int u.1)) (pW X.E ad i qt (ad 1) F u.2)) (S : MS) (hf : f_X2_fail i F S = some u) : G X 1 0 0 0 [(0, .ref (ad 0))] [] (pW X.E ad i qt (ad 1) F S) := by
  unfold f_X2_fail at hf
  refine g_aloadn hX 0 rfl rfl dX2_fail_0 ?_
  refine g_iconst hX (v := 1) (by decide) dX2_fail_1 ?_
  refine pp_faulty hX (by decide) dX2_fail_2 ?_
  refine g_aloadn hX 0 rfl rfl dX2_fail_5 ?_
  refine g_aloadn hX 0 rfl rfl dX2_fail_6 ?_
  refine pg_place hX (v := S.2 2) rfl dX2_fail_7 ?_
  obtain ⟨v1, ev1, hf⟩ := bI_open hf
  refine g_nm ev1 ?_
  refine pp_end hX dX2_fail_10 ?_
  refine g_iconst hX (v := 0) (by decide) dX2_fail_13 ?_
  obtain rfl := oi hf
  exact g_iret hX hq (by decide) (by decide) hp dX2_fail_14
theorem c_X2_fail {l : Launch} {E : En} {ad : Nat → Nat} {i qt : Nat} {F : Nat → Int32} (hi : i < 4) {r : Int32} {S S2 : MS} (hf : f_X2_fail i F S = some (r, S2)) : CP l E yX2_fail cX2_fail 1 (some .int) 0 0 0 [] [.ref (ad 0)] (pW E ad i qt (ad 1) F S) (fun rv w => rv = some (.int r) ∧ w = pW E ad i qt (ad 1) F S2) :=
  CP.of (lv := [(0, .ref (ad 0))]) (by decide +kernel) (Nat.le_of_ble_eq_true rfl) rfl (fun X hl hE hro hX hq hn => by subst hl; subst hE; exact t_X2_fail_0 hi hX hq ⟨rfl, rfl⟩ S hf)
theorem kw_RX2_X2_fail : KwV RX2 78 RX2 yX2_fail cX2_fail 1 (some .int) 0 := ⟨mem_wsV wd_2_17 wd_2_19 wd_s_8 wd_1_3 wd_2_20, rfl, ⟨by decide +kernel, by decide +kernel, by decide +kernel⟩, by decide⟩
theorem k_X2_fail {X : Cx} {cc : ByteArray} {nL ce sl pc : Nat} {lv : List (Nat × Value)} {st : List Value} {dX mcX msX : Nat} {retX : Option FieldType} {PostX : Option Value → va_W → Prop} {ad : Nat → Nat} {i qt : Nat} {F : Nat → Int32} {S S2 : MS} {d : Nat} (hX : Ok X cc nL RX2) (hq : Rq X dX mcX msX retX PostX) {r : Int32} (hM : CP X.l X.E yX2_fail cX2_fail 1 (some .int) d 0 0 [] [.ref (ad 0)] (pW X.E ad i qt (ad 1) F S) (fun rv w => rv = some (.int r) ∧ w = pW X.E ad i qt (ad 1) F S2)) (hd : d < dX) (hc : ce ≤ mcX) (hs : sl ≤ msX) (hcat : (st.map fun v => v.category).sum ≤ 8) (hdg : decode cc pc = .ok (.invokevirtual 78, 3)) (kk : G X nL ce sl (pc + 3) lv (.int r :: st) (pW X.E ad i qt (ad 1) F S2)) : G X nL ce sl pc lv (.ref (ad 0) :: st) (pW X.E ad i qt (ad 1) F S) :=
  g_eqW (app1 _) (g_callV (pre := []) (mid := pW X.E ad i qt (ad 1) F S) (post := []) [] hX hq kw_RX2_X2_fail hM (fun _ h => absurd h List.not_mem_nil) hd hc hs rfl (Recv.of 0 2 rfl rfl) rfl hcat hdg (fun rv ws2 hp => by obtain ⟨rfl, rfl⟩ := hp; exact g_eqW (app1 _).symm kk))
def f_X2_number_4 (i : Nat) (F : Nat → Int32) : Nat → Int32 → Int32 → MS → Option (Int32 × MS)
  | 0 => fun _ _ _ => none
  | n + 1 => fun x1 x2 S =>
    let lp4 := f_X2_number_4 i F n
    if (4 ≤ x2 : Prop) then
      some (x1, S)
    else
      if ((S.2 1) ≤ (S.2 2) : Prop) then
        some (x1, S)
      else
        gix (S.2 2) 50 fun k3 =>
        cs (f_X2_isDigit (F k3)) fun r4 =>
        if (r4 = 0 : Prop) then
          some (x1, S)
        else
          gix (S.2 2) 50 fun k7 =>
          bI (((x1 * 10) + (F k7)) - 48) fun v8 =>
          bI ((S.2 2) + 1) fun v9 =>
          bI (x2 + 1) fun v10 =>
          lp4 v8 v10 (sF S 2 v9)
def f_X2_number (i : Nat) (F : Nat → Int32) (S : MS) : Option (Int32 × MS) :=
  f_X2_number_4 i F 100 0 0 S
set_option maxRecDepth 100000 in
set_option maxHeartbeats 4000000 in
theorem t_X2_number_4 {X : Cx} {ad : Nat → Nat} {i qt : Nat} {F : Nat → Int32} (hi : i < 4) {PostX : Option Value → va_W → Prop} (hX : Ok X cX2_number 3 RX2) (hq : Rq X 1 0 0 (some .int) PostX) {u : (Int32 × MS)} (hp : PostX (some (.int u.1)) (pW X.E ad i qt (ad 1) F u.2)) : ∀ (n : Nat) (x1 : Int32) (x2 : Int32) (S : MS), f_X2_number_4 i F n x1 x2 S = some u → G X 3 0 0 4 [(0, .ref (ad 0)), (1, .int x1), (2, .int x2)] [] (pW X.E ad i qt (ad 1) F S) := by
  intro n
  induction n with
  | zero => intro _ _ _ hf; unfold f_X2_number_4 at hf; cases hf
  | succ n hlp4 =>
  intro x1 x2 S hf
  unfold f_X2_number_4 at hf
  refine g_iloadn hX 2 rfl rfl dX2_number_4 ?_
  refine g_iconst hX (v := 4) (by decide) dX2_number_5 ?_
  refine g_icmp_ge hX 69 (by decide) dX2_number_6 (fun c1 => ?_) (fun c1 => ?_)
  · have hf := ite_t c1 hf
    refine g_iloadn hX 1 rfl rfl dX2_number_69 ?_
    obtain rfl := oi hf
    exact g_iret hX hq (by decide) (by decide) hp dX2_number_70
  · have hf := ite_f c1 hf
    refine g_aloadn hX 0 rfl rfl dX2_number_9 ?_
    refine pg_place hX (v := S.2 2) rfl dX2_number_10 ?_
    refine g_aloadn hX 0 rfl rfl dX2_number_13 ?_
    refine pg_end hX (v := S.2 1) rfl dX2_number_14 ?_
    refine g_icmp_ge hX 69 (by decide) dX2_number_17 (fun c2 => ?_) (fun c2 => ?_)
    · have hf := ite_t c2 hf
      refine g_iloadn hX 1 rfl rfl dX2_number_69 ?_
      obtain rfl := oi hf
      exact g_iret hX hq (by decide) (by decide) hp dX2_number_70
    · have hf := ite_f c2 hf
      refine g_aloadn hX 0 rfl rfl dX2_number_20 ?_
      refine pg_row hX dX2_number_21 ?_
      refine g_aloadn hX 0 rfl rfl dX2_number_24 ?_
      refine pg_place hX (v := S.2 2) rfl dX2_number_25 ?_
      obtain ⟨k3, jk3, ik3, hf⟩ := gix_open hf
      refine pl_row hX ik3 k3 jk3 dX2_number_28 ?_
      obtain ⟨r4, h5, hf⟩ := cs_open hf
      refine k_RX2_X2_isDigit hX hq h5 (by decide) (by decide) (by decide) (Nat.le_of_ble_eq_true rfl) dX2_number_29 ?_
      refine g_if_eq hX 69 (by decide) dX2_number_32 (fun c6 => ?_) (fun c6 => ?_)
      · have hf := ite_t c6 hf
        refine g_iloadn hX 1 rfl rfl dX2_number_69 ?_
        obtain rfl := oi hf
        exact g_iret hX hq (by decide) (by decide) hp dX2_number_70
      · have hf := ite_f c6 hf
        refine g_iloadn hX 1 rfl rfl dX2_number_35 ?_
        refine g_bipush hX (v := 10) (by decide) dX2_number_36 ?_
        refine g_imul hX dX2_number_38 ?_
        refine g_aloadn hX 0 rfl rfl dX2_number_39 ?_
        refine pg_row hX dX2_number_40 ?_
        refine g_aloadn hX 0 rfl rfl dX2_number_43 ?_
        refine pg_place hX (v := S.2 2) rfl dX2_number_44 ?_
        obtain ⟨k7, jk7, ik7, hf⟩ := gix_open hf
        refine pl_row hX ik7 k7 jk7 dX2_number_47 ?_
        refine g_iadd hX dX2_number_48 ?_
        refine g_bipush hX (v := 48) (by decide) dX2_number_49 ?_
        refine g_isub hX dX2_number_51 ?_
        obtain ⟨v8, ev8, hf⟩ := bI_open hf
        refine g_nm ev8 ?_
        refine g_istoren hX [(1, .int v8), (0, .ref (ad 0)), (2, .int x2)] rfl (by decide) rfl dX2_number_52 ?_
        refine g_aloadn hX 1 rfl rfl dX2_number_53 ?_
        refine g_dup hX rfl dX2_number_54 ?_
        refine pg_place hX (v := S.2 2) rfl dX2_number_55 ?_
        refine g_iconst hX (v := 1) (by decide) dX2_number_58 ?_
        refine g_iadd hX dX2_number_59 ?_
        obtain ⟨v9, ev9, hf⟩ := bI_open hf
        refine g_nm ev9 ?_
        refine pp_place hX dX2_number_60 ?_
        obtain ⟨v10, ev10, hf⟩ := bI_open hf
        refine g_iinc hX 2 (v := v10) [(2, .int v10), (1, .int v8), (0, .ref (ad 0))] rfl (by rw [ev10]; rfl) (by decide) rfl dX2_number_63 ?_
        refine g_goto hX 4 (by decide) dX2_number_66 ?_
        refine g_lv [2, 1, 0] rfl ?_
        exact hlp4 _ _ _ hf
set_option maxRecDepth 100000 in
set_option maxHeartbeats 4000000 in
theorem t_X2_number_0 {X : Cx} {ad : Nat → Nat} {i qt : Nat} {F : Nat → Int32} (hi : i < 4) {PostX : Option Value → va_W → Prop} (hX : Ok X cX2_number 3 RX2) (hq : Rq X 1 0 0 (some .int) PostX) {u : (Int32 × MS)} (hp : PostX (some (.int u.1)) (pW X.E ad i qt (ad 1) F u.2)) (S : MS) (hf : f_X2_number i F S = some u) : G X 3 0 0 0 [(0, .ref (ad 0))] [] (pW X.E ad i qt (ad 1) F S) := by
  unfold f_X2_number at hf
  refine g_iconst hX (v := 0) (by decide) dX2_number_0 ?_
  refine g_istoren hX [(1, .int 0), (0, .ref (ad 0))] rfl (by decide) rfl dX2_number_1 ?_
  refine g_iconst hX (v := 0) (by decide) dX2_number_2 ?_
  refine g_istoren hX [(2, .int 0), (1, .int 0), (0, .ref (ad 0))] rfl (by decide) rfl dX2_number_3 ?_
  refine g_lv [2, 1, 0] rfl ?_
  exact t_X2_number_4 hi hX hq hp _ _ _ _ hf
theorem c_X2_number {l : Launch} {E : En} {ad : Nat → Nat} {i qt : Nat} {F : Nat → Int32} (hi : i < 4) {r : Int32} {S S2 : MS} (hf : f_X2_number i F S = some (r, S2)) : CP l E yX2_number cX2_number 3 (some .int) 1 0 0 [] [.ref (ad 0)] (pW E ad i qt (ad 1) F S) (fun rv w => rv = some (.int r) ∧ w = pW E ad i qt (ad 1) F S2) :=
  CP.of (lv := [(0, .ref (ad 0))]) (by decide +kernel) (Nat.le_of_ble_eq_true rfl) rfl (fun X hl hE hro hX hq hn => by subst hl; subst hE; exact t_X2_number_0 hi hX hq ⟨rfl, rfl⟩ S hf)
theorem kw_RX2_X2_number : KwV RX2 100 RX2 yX2_number cX2_number 3 (some .int) 0 := ⟨mem_wsV wd_2_24 wd_2_26 wd_s_9 wd_1_3 wd_2_27, rfl, ⟨by decide +kernel, by decide +kernel, by decide +kernel⟩, by decide⟩
theorem k_X2_number {X : Cx} {cc : ByteArray} {nL ce sl pc : Nat} {lv : List (Nat × Value)} {st : List Value} {dX mcX msX : Nat} {retX : Option FieldType} {PostX : Option Value → va_W → Prop} {ad : Nat → Nat} {i qt : Nat} {F : Nat → Int32} {S S2 : MS} {d : Nat} (hX : Ok X cc nL RX2) (hq : Rq X dX mcX msX retX PostX) {r : Int32} (hM : CP X.l X.E yX2_number cX2_number 3 (some .int) d 0 0 [] [.ref (ad 0)] (pW X.E ad i qt (ad 1) F S) (fun rv w => rv = some (.int r) ∧ w = pW X.E ad i qt (ad 1) F S2)) (hd : d < dX) (hc : ce ≤ mcX) (hs : sl ≤ msX) (hcat : (st.map fun v => v.category).sum ≤ 8) (hdg : decode cc pc = .ok (.invokevirtual 100, 3)) (kk : G X nL ce sl (pc + 3) lv (.int r :: st) (pW X.E ad i qt (ad 1) F S2)) : G X nL ce sl pc lv (.ref (ad 0) :: st) (pW X.E ad i qt (ad 1) F S) :=
  g_eqW (app1 _) (g_callV (pre := []) (mid := pW X.E ad i qt (ad 1) F S) (post := []) [] hX hq kw_RX2_X2_number hM (fun _ h => absurd h List.not_mem_nil) hd hc hs rfl (Recv.of 0 2 rfl rfl) rfl hcat hdg (fun rv ws2 hp => by obtain ⟨rfl, rfl⟩ := hp; exact g_eqW (app1 _).symm kk))
def f_X2_name (i : Nat) (F : Nat → Int32) (a1 : Int32) (S : MS) : Option (Int32 × MS) :=
  cs (f_J0_indexOf_0f7a4 i (ji2c (a1 &&& 255))) fun r2 =>
  if (0 ≤ r2 : Prop) then
    bI ((S.2 2) + 1) fun v4 =>
    if (r2 = 0 : Prop) then
      some ((S.2 4), (sF S 2 v4))
    else
      if (r2 = 1 : Prop) then
        some ((S.2 5), (sF S 2 v4))
      else
        some ((S.2 6), (sF S 2 v4))
  else
    cb (f_X2_fail i F S) fun r9 S7 =>
    some (r9, S7)
set_option maxRecDepth 100000 in
set_option maxHeartbeats 4000000 in
theorem t_X2_name_0 {X : Cx} {ad : Nat → Nat} {i qt : Nat} {F : Nat → Int32} (hi : i < 4) {PostX : Option Value → va_W → Prop} (hX : Ok X cX2_name 3 RX2) (hq : Rq X 4 0 0 (some .int) PostX) {u : (Int32 × MS)} (hp : PostX (some (.int u.1)) (pW X.E ad i qt (ad 1) F u.2)) (a1 : Int32) (S : MS) (hf : f_X2_name i F a1 S = some u) : G X 3 0 0 0 [(0, .ref (ad 0)), (1, .int a1)] [] (pW X.E ad i qt (ad 1) F S) := by
  unfold f_X2_name at hf
  refine g_aloadn hX 0 rfl rfl dX2_name_0 ?_
  refine pg_names hX dX2_name_1 ?_
  refine g_iloadn hX 1 rfl rfl dX2_name_4 ?_
  refine g_sipush hX (v := 255) (by decide) dX2_name_5 ?_
  refine g_iand hX dX2_name_8 ?_
  refine g_ji2c hX dX2_name_9 ?_
  obtain ⟨r2, h1, hf⟩ := cs_open hf
  refine g_eqW (app0 _) (g_callVs (pre := _) (mid := []) (post := []) [.int (ji2c (a1 &&& 255))] hX hq hi kw_RX2_J0_indexOf_0f7a4 (c_J0_indexOf_0f7a4 hi h1) (fun _ h => absurd h List.not_mem_nil) (by decide) (by decide) (by decide) rfl rfl (Nat.le_of_ble_eq_true rfl) dX2_name_10 (fun rv ws2 hp2 => ?_))
  obtain ⟨rfl, rfl⟩ := hp2
  refine g_eqW (app0 _).symm ?_
  refine g_istoren hX [(2, .int r2), (0, .ref (ad 0)), (1, .int a1)] rfl (by decide) rfl dX2_name_13 ?_
  refine g_iloadn hX 0 rfl rfl dX2_name_14 ?_
  refine g_if_ge hX 23 (by decide) dX2_name_15 (fun c3 => ?_) (fun c3 => ?_)
  · have hf := ite_t c3 hf
    refine g_aloadn hX 1 rfl rfl dX2_name_23 ?_
    refine g_dup hX rfl dX2_name_24 ?_
    refine pg_place hX (v := S.2 2) rfl dX2_name_25 ?_
    refine g_iconst hX (v := 1) (by decide) dX2_name_28 ?_
    refine g_iadd hX dX2_name_29 ?_
    obtain ⟨v4, ev4, hf⟩ := bI_open hf
    refine g_nm ev4 ?_
    refine pp_place hX dX2_name_30 ?_
    refine g_iloadn hX 0 rfl rfl dX2_name_33 ?_
    refine g_if_ne hX 44 (by decide) dX2_name_34 (fun c5 => ?_) (fun c5 => ?_)
    · have hf := ite_f c5 hf
      refine g_iloadn hX 0 rfl rfl dX2_name_44 ?_
      refine g_iconst hX (v := 1) (by decide) dX2_name_45 ?_
      refine g_icmp_ne hX 56 (by decide) dX2_name_46 (fun c6 => ?_) (fun c6 => ?_)
      · have hf := ite_f c6 hf
        refine g_aloadn hX 1 rfl rfl dX2_name_56 ?_
        refine pg_third hX (v := S.2 6) rfl dX2_name_57 ?_
        obtain rfl := oi hf
        exact g_iret hX hq (by decide) (by decide) hp dX2_name_60
      · have hf := ite_t c6 hf
        refine g_aloadn hX 1 rfl rfl dX2_name_49 ?_
        refine pg_second hX (v := S.2 5) rfl dX2_name_50 ?_
        refine g_goto hX 60 (by decide) dX2_name_53 ?_
        obtain rfl := oi hf
        exact g_iret hX hq (by decide) (by decide) hp dX2_name_60
    · have hf := ite_t c5 hf
      refine g_aloadn hX 1 rfl rfl dX2_name_37 ?_
      refine pg_first hX (v := S.2 4) rfl dX2_name_38 ?_
      refine g_goto hX 60 (by decide) dX2_name_41 ?_
      obtain rfl := oi hf
      exact g_iret hX hq (by decide) (by decide) hp dX2_name_60
  · have hf := ite_f c3 hf
    refine g_aloadn hX 1 rfl rfl dX2_name_18 ?_
    obtain ⟨r9, S7, h8, hf⟩ := cb_open hf
    refine k_X2_fail hX hq (c_X2_fail hi h8) (by decide) (by decide) (by decide) (Nat.le_of_ble_eq_true rfl) dX2_name_19 ?_
    obtain rfl := oi hf
    exact g_iret hX hq (by decide) (by decide) hp dX2_name_22
theorem c_X2_name {l : Launch} {E : En} {ad : Nat → Nat} {i qt : Nat} {F : Nat → Int32} (hi : i < 4) {a1 : Int32} {r : Int32} {S S2 : MS} (hf : f_X2_name i F a1 S = some (r, S2)) : CP l E yX2_name cX2_name 3 (some .int) 4 0 0 [] [.ref (ad 0), .int a1] (pW E ad i qt (ad 1) F S) (fun rv w => rv = some (.int r) ∧ w = pW E ad i qt (ad 1) F S2) :=
  CP.of (lv := [(0, .ref (ad 0)), (1, .int a1)]) (by decide +kernel) (Nat.le_of_ble_eq_true rfl) rfl (fun X hl hE hro hX hq hn => by subst hl; subst hE; exact t_X2_name_0 hi hX hq ⟨rfl, rfl⟩ a1 S hf)
theorem kw_RX2_X2_name : KwV RX2 103 RX2 yX2_name cX2_name 3 (some .int) 1 := ⟨mem_wsV wd_2_28 wd_2_30 wd_s_10 wd_1_3 wd_2_31, rfl, ⟨by decide +kernel, by decide +kernel, by decide +kernel⟩, by decide⟩
theorem k_X2_name {X : Cx} {cc : ByteArray} {nL ce sl pc : Nat} {lv : List (Nat × Value)} {st : List Value} {dX mcX msX : Nat} {retX : Option FieldType} {PostX : Option Value → va_W → Prop} {ad : Nat → Nat} {i qt : Nat} {F : Nat → Int32} {S S2 : MS} {d : Nat} (hX : Ok X cc nL RX2) (hq : Rq X dX mcX msX retX PostX) {a1 : Int32} {r : Int32} (hM : CP X.l X.E yX2_name cX2_name 3 (some .int) d 0 0 [] [.ref (ad 0), .int a1] (pW X.E ad i qt (ad 1) F S) (fun rv w => rv = some (.int r) ∧ w = pW X.E ad i qt (ad 1) F S2)) (hd : d < dX) (hc : ce ≤ mcX) (hs : sl ≤ msX) (hcat : (st.map fun v => v.category).sum ≤ 8) (hdg : decode cc pc = .ok (.invokevirtual 103, 3)) (kk : G X nL ce sl (pc + 3) lv (.int r :: st) (pW X.E ad i qt (ad 1) F S2)) : G X nL ce sl pc lv (.int a1 :: .ref (ad 0) :: st) (pW X.E ad i qt (ad 1) F S) :=
  g_eqW (app1 _) (g_callV (pre := []) (mid := pW X.E ad i qt (ad 1) F S) (post := []) [.int a1] hX hq kw_RX2_X2_name hM (fun _ h => absurd h List.not_mem_nil) hd hc hs rfl (Recv.of 0 2 rfl rfl) rfl hcat hdg (fun rv ws2 hp => by obtain ⟨rfl, rfl⟩ := hp; exact g_eqW (app1 _).symm kk))
theorem kw_RX2_X2_part : KwV RX2 93 RX2 yX2_part cX2_part 4 (some .int) 1 := ⟨mem_wsV wd_2_13 wd_2_15 wd_s_7 wd_1_3 wd_2_16, rfl, ⟨by decide +kernel, by decide +kernel, by decide +kernel⟩, by decide⟩
theorem k_X2_part {X : Cx} {cc : ByteArray} {nL ce sl pc : Nat} {lv : List (Nat × Value)} {st : List Value} {dX mcX msX : Nat} {retX : Option FieldType} {PostX : Option Value → va_W → Prop} {ad : Nat → Nat} {i qt : Nat} {F : Nat → Int32} {S S2 : MS} {d : Nat} (hX : Ok X cc nL RX2) (hq : Rq X dX mcX msX retX PostX) {a1 : Int32} {r : Int32} (hM : CP X.l X.E yX2_part cX2_part 4 (some .int) d 0 0 [] [.ref (ad 0), .int a1] (pW X.E ad i qt (ad 1) F S) (fun rv w => rv = some (.int r) ∧ w = pW X.E ad i qt (ad 1) F S2)) (hd : d < dX) (hc : ce ≤ mcX) (hs : sl ≤ msX) (hcat : (st.map fun v => v.category).sum ≤ 8) (hdg : decode cc pc = .ok (.invokevirtual 93, 3)) (kk : G X nL ce sl (pc + 3) lv (.int r :: st) (pW X.E ad i qt (ad 1) F S2)) : G X nL ce sl pc lv (.int a1 :: .ref (ad 0) :: st) (pW X.E ad i qt (ad 1) F S) :=
  g_eqW (app1 _) (g_callV (pre := []) (mid := pW X.E ad i qt (ad 1) F S) (post := []) [.int a1] hX hq kw_RX2_X2_part hM (fun _ h => absurd h List.not_mem_nil) hd hc hs rfl (Recv.of 0 2 rfl rfl) rfl hcat hdg (fun rv ws2 hp => by obtain ⟨rfl, rfl⟩ := hp; exact g_eqW (app1 _).symm kk))
def f_X2_product_128 (i : Nat) (F : Nat → Int32) (lp6 : Int32 → Int32 → MS → Option (Int32 × MS)) (fr : Int32 → MS → Option (Int32 × MS)) (x1 : Int32) (x2 : Int32) (S : MS) : Option (Int32 × MS) :=
  lp6 x1 x2 S
def f_X2_product_127 (i : Nat) (F : Nat → Int32) (lp6 : Int32 → Int32 → MS → Option (Int32 × MS)) (fr : Int32 → MS → Option (Int32 × MS)) (x1 : Int32) (y0 : Int32) (S : MS) : Option (Int32 × MS) :=
  f_X2_product_128 i F lp6 fr x1 y0 S
def f_X2_product_59 (i : Nat) (F : Nat → Int32) (lp6 : Int32 → Int32 → MS → Option (Int32 × MS)) (fr : Int32 → MS → Option (Int32 × MS)) (x1 : Int32) (x2 : Int32) (S : MS) : Option (Int32 × MS) :=
  gix (S.2 2) 50 fun k7 =>
  bI (F k7) fun v8 =>
  bI ((S.2 2) + 1) fun v9 =>
  cb (fr x1 (sF S 2 v9)) fun r12 S10 =>
  if (v8 = 42 : Prop) then
    bI (x2 * r12) fun v18 =>
    f_X2_product_128 i F lp6 fr x1 v18 S10
  else
    if (r12 = 0 : Prop) then
      f_X2_product_128 i F lp6 fr x1 0 S10
    else
      if (v8 = 47 : Prop) then
        gnz r12 <|
        f_X2_product_127 i F lp6 fr x1 (x2 / r12) S10
      else
        gnz r12 <|
        f_X2_product_127 i F lp6 fr x1 (jrem x2 r12) S10
def f_X2_product_6 (i : Nat) (F : Nat → Int32) (fr : Int32 → MS → Option (Int32 × MS)) : Nat → Int32 → Int32 → MS → Option (Int32 × MS)
  | 0 => fun _ _ _ => none
  | n + 1 => fun x1 x2 S =>
    let lp6 := f_X2_product_6 i F fr n
    if ((S.2 1) ≤ (S.2 2) : Prop) then
      some (x2, S)
    else
      gix (S.2 2) 50 fun k5 =>
      if ((F k5) = 42 : Prop) then
        f_X2_product_59 i F lp6 fr x1 x2 S
      else
        gix (S.2 2) 50 fun k19 =>
        if ((F k19) = 47 : Prop) then
          f_X2_product_59 i F lp6 fr x1 x2 S
        else
          gix (S.2 2) 50 fun k21 =>
          if ((F k21) = 37 : Prop) then
            f_X2_product_59 i F lp6 fr x1 x2 S
          else
            some (x2, S)
def f_X2_product (i : Nat) (F : Nat → Int32) (fr : Int32 → MS → Option (Int32 × MS)) (a1 : Int32) (S : MS) : Option (Int32 × MS) :=
  cb (fr a1 S) fun r3 S1 =>
  f_X2_product_6 i F fr 100 a1 r3 S1
set_option maxRecDepth 100000 in
set_option maxHeartbeats 4000000 in
theorem t_X2_product_128 {X : Cx} {ad : Nat → Nat} {i qt : Nat} {F : Nat → Int32} (hi : i < 4) {dk : Nat} (hdk : 12 ≤ dk) {PostX : Option Value → va_W → Prop} (hX : Ok X cX2_product 5 RX2) (hq : Rq X (dk + 1) 0 0 (some .int) PostX) {u : (Int32 × MS)} (hp : PostX (some (.int u.1)) (pW X.E ad i qt (ad 1) F u.2)) {fr : Int32 → MS → Option (Int32 × MS)} (hfr : ∀ (a1 : Int32) (S : MS) (r : Int32) (S2 : MS), fr a1 S = some (r, S2) → CP X.l X.E yX2_part cX2_part 4 (some .int) dk 0 0 [] [.ref (ad 0), .int a1] (pW X.E ad i qt (ad 1) F S) (fun rv w => rv = some (.int r) ∧ w = pW X.E ad i qt (ad 1) F S2)) {lp6 : Int32 → Int32 → MS → Option (Int32 × MS)} (hlp6 : ∀ (x1 : Int32) (x2 : Int32) (S : MS), lp6 x1 x2 S = some u → G X 5 0 0 6 [(0, .ref (ad 0)), (1, .int x1), (2, .int x2)] [] (pW X.E ad i qt (ad 1) F S)) (x1 : Int32) (x2 : Int32) (S : MS) (hf : f_X2_product_128 i F lp6 fr x1 x2 S = some u) : G X 5 0 0 128 [(0, .ref (ad 0)), (1, .int x1), (2, .int x2)] [] (pW X.E ad i qt (ad 1) F S) := by
  unfold f_X2_product_128 at hf
  refine g_goto hX 6 (by decide) dX2_product_128 ?_
  exact hlp6 _ _ _ hf
set_option maxRecDepth 100000 in
set_option maxHeartbeats 4000000 in
theorem t_X2_product_127 {X : Cx} {ad : Nat → Nat} {i qt : Nat} {F : Nat → Int32} (hi : i < 4) {dk : Nat} (hdk : 12 ≤ dk) {PostX : Option Value → va_W → Prop} (hX : Ok X cX2_product 5 RX2) (hq : Rq X (dk + 1) 0 0 (some .int) PostX) {u : (Int32 × MS)} (hp : PostX (some (.int u.1)) (pW X.E ad i qt (ad 1) F u.2)) {fr : Int32 → MS → Option (Int32 × MS)} (hfr : ∀ (a1 : Int32) (S : MS) (r : Int32) (S2 : MS), fr a1 S = some (r, S2) → CP X.l X.E yX2_part cX2_part 4 (some .int) dk 0 0 [] [.ref (ad 0), .int a1] (pW X.E ad i qt (ad 1) F S) (fun rv w => rv = some (.int r) ∧ w = pW X.E ad i qt (ad 1) F S2)) {lp6 : Int32 → Int32 → MS → Option (Int32 × MS)} (hlp6 : ∀ (x1 : Int32) (x2 : Int32) (S : MS), lp6 x1 x2 S = some u → G X 5 0 0 6 [(0, .ref (ad 0)), (1, .int x1), (2, .int x2)] [] (pW X.E ad i qt (ad 1) F S)) (x1 : Int32) (y0 : Int32) (S : MS) (hf : f_X2_product_127 i F lp6 fr x1 y0 S = some u) : G X 5 0 0 127 [(0, .ref (ad 0)), (1, .int x1)] [.int y0] (pW X.E ad i qt (ad 1) F S) := by
  unfold f_X2_product_127 at hf
  refine g_istoren hX [(2, .int y0), (0, .ref (ad 0)), (1, .int x1)] rfl (by decide) rfl dX2_product_127 ?_
  refine g_lv [1, 2, 0] rfl ?_
  exact t_X2_product_128 hi hdk hX hq hp hfr hlp6 _ _ _ hf
set_option maxRecDepth 100000 in
set_option maxHeartbeats 4000000 in
theorem t_X2_product_59 {X : Cx} {ad : Nat → Nat} {i qt : Nat} {F : Nat → Int32} (hi : i < 4) {dk : Nat} (hdk : 12 ≤ dk) {PostX : Option Value → va_W → Prop} (hX : Ok X cX2_product 5 RX2) (hq : Rq X (dk + 1) 0 0 (some .int) PostX) {u : (Int32 × MS)} (hp : PostX (some (.int u.1)) (pW X.E ad i qt (ad 1) F u.2)) {fr : Int32 → MS → Option (Int32 × MS)} (hfr : ∀ (a1 : Int32) (S : MS) (r : Int32) (S2 : MS), fr a1 S = some (r, S2) → CP X.l X.E yX2_part cX2_part 4 (some .int) dk 0 0 [] [.ref (ad 0), .int a1] (pW X.E ad i qt (ad 1) F S) (fun rv w => rv = some (.int r) ∧ w = pW X.E ad i qt (ad 1) F S2)) {lp6 : Int32 → Int32 → MS → Option (Int32 × MS)} (hlp6 : ∀ (x1 : Int32) (x2 : Int32) (S : MS), lp6 x1 x2 S = some u → G X 5 0 0 6 [(0, .ref (ad 0)), (1, .int x1), (2, .int x2)] [] (pW X.E ad i qt (ad 1) F S)) (x1 : Int32) (x2 : Int32) (S : MS) (hf : f_X2_product_59 i F lp6 fr x1 x2 S = some u) : G X 5 0 0 59 [(0, .ref (ad 0)), (1, .int x1), (2, .int x2)] [] (pW X.E ad i qt (ad 1) F S) := by
  unfold f_X2_product_59 at hf
  refine g_aloadn hX 0 rfl rfl dX2_product_59 ?_
  refine pg_row hX dX2_product_60 ?_
  refine g_aloadn hX 0 rfl rfl dX2_product_63 ?_
  refine pg_place hX (v := S.2 2) rfl dX2_product_64 ?_
  obtain ⟨k7, jk7, ik7, hf⟩ := gix_open hf
  refine pl_row hX ik7 k7 jk7 dX2_product_67 ?_
  obtain ⟨v8, ev8, hf⟩ := bI_open hf
  refine g_nm ev8 ?_
  refine g_istoren hX [(3, .int v8), (0, .ref (ad 0)), (1, .int x1), (2, .int x2)] rfl (by decide) rfl dX2_product_68 ?_
  refine g_aloadn hX 1 rfl rfl dX2_product_69 ?_
  refine g_dup hX rfl dX2_product_70 ?_
  refine pg_place hX (v := S.2 2) rfl dX2_product_71 ?_
  refine g_iconst hX (v := 1) (by decide) dX2_product_74 ?_
  refine g_iadd hX dX2_product_75 ?_
  obtain ⟨v9, ev9, hf⟩ := bI_open hf
  refine g_nm ev9 ?_
  refine pp_place hX dX2_product_76 ?_
  refine g_aloadn hX 1 rfl rfl dX2_product_79 ?_
  refine g_iloadn hX 2 rfl rfl dX2_product_80 ?_
  obtain ⟨r12, S10, h11, hf⟩ := cb_open hf
  refine k_X2_part hX hq (hfr _ _ _ _ h11) (by omega) (by decide) (by decide) (Nat.le_of_ble_eq_true rfl) dX2_product_81 ?_
  refine g_istore hX [(4, .int r12), (3, .int v8), (0, .ref (ad 0)), (1, .int x1), (2, .int x2)] (by decide) rfl dX2_product_84 ?_
  refine g_iloadn hX 1 rfl rfl dX2_product_86 ?_
  refine g_bipush hX (v := 42) (by decide) dX2_product_87 ?_
  refine g_icmp_ne hX 100 (by decide) dX2_product_89 (fun c13 => ?_) (fun c13 => ?_)
  · have hf := ite_f c13 hf
    refine g_iload hX 0 rfl dX2_product_100 ?_
    refine g_if_ne hX 110 (by decide) dX2_product_102 (fun c14 => ?_) (fun c14 => ?_)
    · have hf := ite_f c14 hf
      refine g_iloadn hX 1 rfl rfl dX2_product_110 ?_
      refine g_bipush hX (v := 47) (by decide) dX2_product_111 ?_
      refine g_icmp_ne hX 123 (by decide) dX2_product_113 (fun c15 => ?_) (fun c15 => ?_)
      · have hf := ite_f c15 hf
        refine g_iloadn hX 4 rfl rfl dX2_product_123 ?_
        refine g_iload hX 0 rfl dX2_product_124 ?_
        obtain ⟨h16, hf⟩ := gnz_open hf
        refine g_jrem hX h16 dX2_product_126 ?_
        refine g_lv [2, 3] rfl ?_
        exact t_X2_product_127 hi hdk hX hq hp hfr hlp6 _ _ _ hf
      · have hf := ite_t c15 hf
        refine g_iloadn hX 4 rfl rfl dX2_product_116 ?_
        refine g_iload hX 0 rfl dX2_product_117 ?_
        obtain ⟨h17, hf⟩ := gnz_open hf
        refine g_idiv hX h17 dX2_product_119 ?_
        refine g_goto hX 127 (by decide) dX2_product_120 ?_
        refine g_lv [2, 3] rfl ?_
        exact t_X2_product_127 hi hdk hX hq hp hfr hlp6 _ _ _ hf
    · have hf := ite_t c14 hf
      refine g_iconst hX (v := 0) (by decide) dX2_product_105 ?_
      refine g_istoren hX [(2, .int 0), (4, .int r12), (3, .int v8), (0, .ref (ad 0)), (1, .int x1)] rfl (by decide) rfl dX2_product_106 ?_
      refine g_goto hX 128 (by decide) dX2_product_107 ?_
      refine g_lv [3, 4, 0] rfl ?_
      exact t_X2_product_128 hi hdk hX hq hp hfr hlp6 _ _ _ hf
  · have hf := ite_t c13 hf
    refine g_iloadn hX 4 rfl rfl dX2_product_92 ?_
    refine g_iload hX 0 rfl dX2_product_93 ?_
    refine g_imul hX dX2_product_95 ?_
    obtain ⟨v18, ev18, hf⟩ := bI_open hf
    refine g_nm ev18 ?_
    refine g_istoren hX [(2, .int v18), (4, .int r12), (3, .int v8), (0, .ref (ad 0)), (1, .int x1)] rfl (by decide) rfl dX2_product_96 ?_
    refine g_goto hX 128 (by decide) dX2_product_97 ?_
    refine g_lv [3, 4, 0] rfl ?_
    exact t_X2_product_128 hi hdk hX hq hp hfr hlp6 _ _ _ hf
set_option maxRecDepth 100000 in
set_option maxHeartbeats 4000000 in
theorem t_X2_product_6 {X : Cx} {ad : Nat → Nat} {i qt : Nat} {F : Nat → Int32} (hi : i < 4) {dk : Nat} (hdk : 12 ≤ dk) {PostX : Option Value → va_W → Prop} (hX : Ok X cX2_product 5 RX2) (hq : Rq X (dk + 1) 0 0 (some .int) PostX) {u : (Int32 × MS)} (hp : PostX (some (.int u.1)) (pW X.E ad i qt (ad 1) F u.2)) {fr : Int32 → MS → Option (Int32 × MS)} (hfr : ∀ (a1 : Int32) (S : MS) (r : Int32) (S2 : MS), fr a1 S = some (r, S2) → CP X.l X.E yX2_part cX2_part 4 (some .int) dk 0 0 [] [.ref (ad 0), .int a1] (pW X.E ad i qt (ad 1) F S) (fun rv w => rv = some (.int r) ∧ w = pW X.E ad i qt (ad 1) F S2)) : ∀ (n : Nat) (x1 : Int32) (x2 : Int32) (S : MS), f_X2_product_6 i F fr n x1 x2 S = some u → G X 5 0 0 6 [(0, .ref (ad 0)), (1, .int x1), (2, .int x2)] [] (pW X.E ad i qt (ad 1) F S) := by
  intro n
  induction n with
  | zero => intro _ _ _ hf; unfold f_X2_product_6 at hf; cases hf
  | succ n hlp6 =>
  intro x1 x2 S hf
  unfold f_X2_product_6 at hf
  refine g_aloadn hX 0 rfl rfl dX2_product_6 ?_
  refine pg_place hX (v := S.2 2) rfl dX2_product_7 ?_
  refine g_aloadn hX 0 rfl rfl dX2_product_10 ?_
  refine pg_end hX (v := S.2 1) rfl dX2_product_11 ?_
  refine g_icmp_ge hX 131 (by decide) dX2_product_14 (fun c4 => ?_) (fun c4 => ?_)
  · have hf := ite_t c4 hf
    refine g_iloadn hX 2 rfl rfl dX2_product_131 ?_
    obtain rfl := oi hf
    exact g_iret hX hq (by decide) (by decide) hp dX2_product_132
  · have hf := ite_f c4 hf
    refine g_aloadn hX 0 rfl rfl dX2_product_17 ?_
    refine pg_row hX dX2_product_18 ?_
    refine g_aloadn hX 0 rfl rfl dX2_product_21 ?_
    refine pg_place hX (v := S.2 2) rfl dX2_product_22 ?_
    obtain ⟨k5, jk5, ik5, hf⟩ := gix_open hf
    refine pl_row hX ik5 k5 jk5 dX2_product_25 ?_
    refine g_bipush hX (v := 42) (by decide) dX2_product_26 ?_
    refine g_icmp_eq hX 59 (by decide) dX2_product_28 (fun c6 => ?_) (fun c6 => ?_)
    · have hf := ite_t c6 hf
      exact t_X2_product_59 hi hdk hX hq hp hfr hlp6 _ _ _ hf
    · have hf := ite_f c6 hf
      refine g_aloadn hX 0 rfl rfl dX2_product_31 ?_
      refine pg_row hX dX2_product_32 ?_
      refine g_aloadn hX 0 rfl rfl dX2_product_35 ?_
      refine pg_place hX (v := S.2 2) rfl dX2_product_36 ?_
      obtain ⟨k19, jk19, ik19, hf⟩ := gix_open hf
      refine pl_row hX ik19 k19 jk19 dX2_product_39 ?_
      refine g_bipush hX (v := 47) (by decide) dX2_product_40 ?_
      refine g_icmp_eq hX 59 (by decide) dX2_product_42 (fun c20 => ?_) (fun c20 => ?_)
      · have hf := ite_t c20 hf
        exact t_X2_product_59 hi hdk hX hq hp hfr hlp6 _ _ _ hf
      · have hf := ite_f c20 hf
        refine g_aloadn hX 0 rfl rfl dX2_product_45 ?_
        refine pg_row hX dX2_product_46 ?_
        refine g_aloadn hX 0 rfl rfl dX2_product_49 ?_
        refine pg_place hX (v := S.2 2) rfl dX2_product_50 ?_
        obtain ⟨k21, jk21, ik21, hf⟩ := gix_open hf
        refine pl_row hX ik21 k21 jk21 dX2_product_53 ?_
        refine g_bipush hX (v := 37) (by decide) dX2_product_54 ?_
        refine g_icmp_ne hX 131 (by decide) dX2_product_56 (fun c22 => ?_) (fun c22 => ?_)
        · have hf := ite_f c22 hf
          refine g_iloadn hX 2 rfl rfl dX2_product_131 ?_
          obtain rfl := oi hf
          exact g_iret hX hq (by decide) (by decide) hp dX2_product_132
        · have hf := ite_t c22 hf
          exact t_X2_product_59 hi hdk hX hq hp hfr hlp6 _ _ _ hf
set_option maxRecDepth 100000 in
set_option maxHeartbeats 4000000 in
theorem t_X2_product_0 {X : Cx} {ad : Nat → Nat} {i qt : Nat} {F : Nat → Int32} (hi : i < 4) {dk : Nat} (hdk : 12 ≤ dk) {PostX : Option Value → va_W → Prop} (hX : Ok X cX2_product 5 RX2) (hq : Rq X (dk + 1) 0 0 (some .int) PostX) {u : (Int32 × MS)} (hp : PostX (some (.int u.1)) (pW X.E ad i qt (ad 1) F u.2)) {fr : Int32 → MS → Option (Int32 × MS)} (hfr : ∀ (a1 : Int32) (S : MS) (r : Int32) (S2 : MS), fr a1 S = some (r, S2) → CP X.l X.E yX2_part cX2_part 4 (some .int) dk 0 0 [] [.ref (ad 0), .int a1] (pW X.E ad i qt (ad 1) F S) (fun rv w => rv = some (.int r) ∧ w = pW X.E ad i qt (ad 1) F S2)) (a1 : Int32) (S : MS) (hf : f_X2_product i F fr a1 S = some u) : G X 5 0 0 0 [(0, .ref (ad 0)), (1, .int a1)] [] (pW X.E ad i qt (ad 1) F S) := by
  unfold f_X2_product at hf
  refine g_aloadn hX 0 rfl rfl dX2_product_0 ?_
  refine g_iloadn hX 1 rfl rfl dX2_product_1 ?_
  obtain ⟨r3, S1, h2, hf⟩ := cb_open hf
  refine k_X2_part hX hq (hfr _ _ _ _ h2) (by omega) (by decide) (by decide) (Nat.le_of_ble_eq_true rfl) dX2_product_2 ?_
  refine g_istoren hX [(2, .int r3), (0, .ref (ad 0)), (1, .int a1)] rfl (by decide) rfl dX2_product_5 ?_
  refine g_lv [1, 2, 0] rfl ?_
  exact t_X2_product_6 hi hdk hX hq hp hfr _ _ _ _ hf
theorem c_X2_product {l : Launch} {E : En} {ad : Nat → Nat} {i qt : Nat} {F : Nat → Int32} (hi : i < 4) {dk : Nat} (hdk : 12 ≤ dk) {fr : Int32 → MS → Option (Int32 × MS)} (hfr : ∀ (a1 : Int32) (S : MS) (r : Int32) (S2 : MS), fr a1 S = some (r, S2) → CP l E yX2_part cX2_part 4 (some .int) dk 0 0 [] [.ref (ad 0), .int a1] (pW E ad i qt (ad 1) F S) (fun rv w => rv = some (.int r) ∧ w = pW E ad i qt (ad 1) F S2)) {a1 : Int32} {r : Int32} {S S2 : MS} (hf : f_X2_product i F fr a1 S = some (r, S2)) : CP l E yX2_product cX2_product 5 (some .int) (dk + 1) 0 0 [] [.ref (ad 0), .int a1] (pW E ad i qt (ad 1) F S) (fun rv w => rv = some (.int r) ∧ w = pW E ad i qt (ad 1) F S2) :=
  CP.of (lv := [(0, .ref (ad 0)), (1, .int a1)]) (by decide +kernel) (Nat.le_of_ble_eq_true rfl) rfl (fun X hl hE hro hX hq hn => by subst hl; subst hE; exact t_X2_product_0 hi hdk hX hq ⟨rfl, rfl⟩ hfr a1 S hf)
theorem kw_RX2_X2_product : KwV RX2 90 RX2 yX2_product cX2_product 5 (some .int) 1 := ⟨mem_wsV wd_2_9 wd_2_11 wd_s_6 wd_1_3 wd_2_12, rfl, ⟨by decide +kernel, by decide +kernel, by decide +kernel⟩, by decide⟩
theorem k_X2_product {X : Cx} {cc : ByteArray} {nL ce sl pc : Nat} {lv : List (Nat × Value)} {st : List Value} {dX mcX msX : Nat} {retX : Option FieldType} {PostX : Option Value → va_W → Prop} {ad : Nat → Nat} {i qt : Nat} {F : Nat → Int32} {S S2 : MS} {d : Nat} (hX : Ok X cc nL RX2) (hq : Rq X dX mcX msX retX PostX) {a1 : Int32} {r : Int32} (hM : CP X.l X.E yX2_product cX2_product 5 (some .int) d 0 0 [] [.ref (ad 0), .int a1] (pW X.E ad i qt (ad 1) F S) (fun rv w => rv = some (.int r) ∧ w = pW X.E ad i qt (ad 1) F S2)) (hd : d < dX) (hc : ce ≤ mcX) (hs : sl ≤ msX) (hcat : (st.map fun v => v.category).sum ≤ 8) (hdg : decode cc pc = .ok (.invokevirtual 90, 3)) (kk : G X nL ce sl (pc + 3) lv (.int r :: st) (pW X.E ad i qt (ad 1) F S2)) : G X nL ce sl pc lv (.int a1 :: .ref (ad 0) :: st) (pW X.E ad i qt (ad 1) F S) :=
  g_eqW (app1 _) (g_callV (pre := []) (mid := pW X.E ad i qt (ad 1) F S) (post := []) [.int a1] hX hq kw_RX2_X2_product hM (fun _ h => absurd h List.not_mem_nil) hd hc hs rfl (Recv.of 0 2 rfl rfl) rfl hcat hdg (fun rv ws2 hp => by obtain ⟨rfl, rfl⟩ := hp; exact g_eqW (app1 _).symm kk))
def f_X2_sum_89 (i : Nat) (F : Nat → Int32) (lp6 : Int32 → Int32 → MS → Option (Int32 × MS)) (fr : Int32 → MS → Option (Int32 × MS)) (x1 : Int32) (y0 : Int32) (S : MS) : Option (Int32 × MS) :=
  lp6 x1 y0 S
def f_X2_sum_45 (i : Nat) (F : Nat → Int32) (lp6 : Int32 → Int32 → MS → Option (Int32 × MS)) (fr : Int32 → MS → Option (Int32 × MS)) (x1 : Int32) (x2 : Int32) (S : MS) : Option (Int32 × MS) :=
  gix (S.2 2) 50 fun k7 =>
  bI (F k7) fun v8 =>
  bI ((S.2 2) + 1) fun v9 =>
  cb (f_X2_product i F fr x1 (sF S 2 v9)) fun r12 S10 =>
  if (v8 = 43 : Prop) then
    f_X2_sum_89 i F lp6 fr x1 (x2 + r12) S10
  else
    f_X2_sum_89 i F lp6 fr x1 (x2 - r12) S10
def f_X2_sum_6 (i : Nat) (F : Nat → Int32) (fr : Int32 → MS → Option (Int32 × MS)) : Nat → Int32 → Int32 → MS → Option (Int32 × MS)
  | 0 => fun _ _ _ => none
  | n + 1 => fun x1 x2 S =>
    let lp6 := f_X2_sum_6 i F fr n
    if ((S.2 1) ≤ (S.2 2) : Prop) then
      some (x2, S)
    else
      gix (S.2 2) 50 fun k5 =>
      if ((F k5) = 43 : Prop) then
        f_X2_sum_45 i F lp6 fr x1 x2 S
      else
        gix (S.2 2) 50 fun k14 =>
        if ((F k14) = 45 : Prop) then
          f_X2_sum_45 i F lp6 fr x1 x2 S
        else
          some (x2, S)
def f_X2_sum (i : Nat) (F : Nat → Int32) (fr : Int32 → MS → Option (Int32 × MS)) (a1 : Int32) (S : MS) : Option (Int32 × MS) :=
  cb (f_X2_product i F fr a1 S) fun r3 S1 =>
  f_X2_sum_6 i F fr 100 a1 r3 S1
set_option maxRecDepth 100000 in
set_option maxHeartbeats 4000000 in
theorem t_X2_sum_89 {X : Cx} {ad : Nat → Nat} {i qt : Nat} {F : Nat → Int32} (hi : i < 4) {dk : Nat} (hdk : 12 ≤ dk) {PostX : Option Value → va_W → Prop} (hX : Ok X cX2_sum 5 RX2) (hq : Rq X (dk + 2) 0 0 (some .int) PostX) {u : (Int32 × MS)} (hp : PostX (some (.int u.1)) (pW X.E ad i qt (ad 1) F u.2)) {fr : Int32 → MS → Option (Int32 × MS)} (hfr : ∀ (a1 : Int32) (S : MS) (r : Int32) (S2 : MS), fr a1 S = some (r, S2) → CP X.l X.E yX2_part cX2_part 4 (some .int) dk 0 0 [] [.ref (ad 0), .int a1] (pW X.E ad i qt (ad 1) F S) (fun rv w => rv = some (.int r) ∧ w = pW X.E ad i qt (ad 1) F S2)) {lp6 : Int32 → Int32 → MS → Option (Int32 × MS)} (hlp6 : ∀ (x1 : Int32) (x2 : Int32) (S : MS), lp6 x1 x2 S = some u → G X 5 0 0 6 [(0, .ref (ad 0)), (1, .int x1), (2, .int x2)] [] (pW X.E ad i qt (ad 1) F S)) (x1 : Int32) (y0 : Int32) (S : MS) (hf : f_X2_sum_89 i F lp6 fr x1 y0 S = some u) : G X 5 0 0 89 [(0, .ref (ad 0)), (1, .int x1)] [.int y0] (pW X.E ad i qt (ad 1) F S) := by
  unfold f_X2_sum_89 at hf
  refine g_istoren hX [(2, .int y0), (0, .ref (ad 0)), (1, .int x1)] rfl (by decide) rfl dX2_sum_89 ?_
  refine g_goto hX 6 (by decide) dX2_sum_90 ?_
  refine g_lv [1, 2, 0] rfl ?_
  exact hlp6 _ _ _ hf
set_option maxRecDepth 100000 in
set_option maxHeartbeats 4000000 in
theorem t_X2_sum_45 {X : Cx} {ad : Nat → Nat} {i qt : Nat} {F : Nat → Int32} (hi : i < 4) {dk : Nat} (hdk : 12 ≤ dk) {PostX : Option Value → va_W → Prop} (hX : Ok X cX2_sum 5 RX2) (hq : Rq X (dk + 2) 0 0 (some .int) PostX) {u : (Int32 × MS)} (hp : PostX (some (.int u.1)) (pW X.E ad i qt (ad 1) F u.2)) {fr : Int32 → MS → Option (Int32 × MS)} (hfr : ∀ (a1 : Int32) (S : MS) (r : Int32) (S2 : MS), fr a1 S = some (r, S2) → CP X.l X.E yX2_part cX2_part 4 (some .int) dk 0 0 [] [.ref (ad 0), .int a1] (pW X.E ad i qt (ad 1) F S) (fun rv w => rv = some (.int r) ∧ w = pW X.E ad i qt (ad 1) F S2)) {lp6 : Int32 → Int32 → MS → Option (Int32 × MS)} (hlp6 : ∀ (x1 : Int32) (x2 : Int32) (S : MS), lp6 x1 x2 S = some u → G X 5 0 0 6 [(0, .ref (ad 0)), (1, .int x1), (2, .int x2)] [] (pW X.E ad i qt (ad 1) F S)) (x1 : Int32) (x2 : Int32) (S : MS) (hf : f_X2_sum_45 i F lp6 fr x1 x2 S = some u) : G X 5 0 0 45 [(0, .ref (ad 0)), (1, .int x1), (2, .int x2)] [] (pW X.E ad i qt (ad 1) F S) := by
  unfold f_X2_sum_45 at hf
  refine g_aloadn hX 0 rfl rfl dX2_sum_45 ?_
  refine pg_row hX dX2_sum_46 ?_
  refine g_aloadn hX 0 rfl rfl dX2_sum_49 ?_
  refine pg_place hX (v := S.2 2) rfl dX2_sum_50 ?_
  obtain ⟨k7, jk7, ik7, hf⟩ := gix_open hf
  refine pl_row hX ik7 k7 jk7 dX2_sum_53 ?_
  obtain ⟨v8, ev8, hf⟩ := bI_open hf
  refine g_nm ev8 ?_
  refine g_istoren hX [(3, .int v8), (0, .ref (ad 0)), (1, .int x1), (2, .int x2)] rfl (by decide) rfl dX2_sum_54 ?_
  refine g_aloadn hX 1 rfl rfl dX2_sum_55 ?_
  refine g_dup hX rfl dX2_sum_56 ?_
  refine pg_place hX (v := S.2 2) rfl dX2_sum_57 ?_
  refine g_iconst hX (v := 1) (by decide) dX2_sum_60 ?_
  refine g_iadd hX dX2_sum_61 ?_
  obtain ⟨v9, ev9, hf⟩ := bI_open hf
  refine g_nm ev9 ?_
  refine pp_place hX dX2_sum_62 ?_
  refine g_aloadn hX 1 rfl rfl dX2_sum_65 ?_
  refine g_iloadn hX 2 rfl rfl dX2_sum_66 ?_
  obtain ⟨r12, S10, h11, hf⟩ := cb_open hf
  refine k_X2_product hX hq (c_X2_product hi hdk hfr h11) (by omega) (by decide) (by decide) (Nat.le_of_ble_eq_true rfl) dX2_sum_67 ?_
  refine g_istore hX [(4, .int r12), (3, .int v8), (0, .ref (ad 0)), (1, .int x1), (2, .int x2)] (by decide) rfl dX2_sum_70 ?_
  refine g_iloadn hX 1 rfl rfl dX2_sum_72 ?_
  refine g_bipush hX (v := 43) (by decide) dX2_sum_73 ?_
  refine g_icmp_ne hX 85 (by decide) dX2_sum_75 (fun c13 => ?_) (fun c13 => ?_)
  · have hf := ite_f c13 hf
    refine g_iloadn hX 4 rfl rfl dX2_sum_85 ?_
    refine g_iload hX 0 rfl dX2_sum_86 ?_
    refine g_isub hX dX2_sum_88 ?_
    refine g_lv [2, 3] rfl ?_
    exact t_X2_sum_89 hi hdk hX hq hp hfr hlp6 _ _ _ hf
  · have hf := ite_t c13 hf
    refine g_iloadn hX 4 rfl rfl dX2_sum_78 ?_
    refine g_iload hX 0 rfl dX2_sum_79 ?_
    refine g_iadd hX dX2_sum_81 ?_
    refine g_goto hX 89 (by decide) dX2_sum_82 ?_
    refine g_lv [2, 3] rfl ?_
    exact t_X2_sum_89 hi hdk hX hq hp hfr hlp6 _ _ _ hf
set_option maxRecDepth 100000 in
set_option maxHeartbeats 4000000 in
theorem t_X2_sum_6 {X : Cx} {ad : Nat → Nat} {i qt : Nat} {F : Nat → Int32} (hi : i < 4) {dk : Nat} (hdk : 12 ≤ dk) {PostX : Option Value → va_W → Prop} (hX : Ok X cX2_sum 5 RX2) (hq : Rq X (dk + 2) 0 0 (some .int) PostX) {u : (Int32 × MS)} (hp : PostX (some (.int u.1)) (pW X.E ad i qt (ad 1) F u.2)) {fr : Int32 → MS → Option (Int32 × MS)} (hfr : ∀ (a1 : Int32) (S : MS) (r : Int32) (S2 : MS), fr a1 S = some (r, S2) → CP X.l X.E yX2_part cX2_part 4 (some .int) dk 0 0 [] [.ref (ad 0), .int a1] (pW X.E ad i qt (ad 1) F S) (fun rv w => rv = some (.int r) ∧ w = pW X.E ad i qt (ad 1) F S2)) : ∀ (n : Nat) (x1 : Int32) (x2 : Int32) (S : MS), f_X2_sum_6 i F fr n x1 x2 S = some u → G X 5 0 0 6 [(0, .ref (ad 0)), (1, .int x1), (2, .int x2)] [] (pW X.E ad i qt (ad 1) F S) := by
  intro n
  induction n with
  | zero => intro _ _ _ hf; unfold f_X2_sum_6 at hf; cases hf
  | succ n hlp6 =>
  intro x1 x2 S hf
  unfold f_X2_sum_6 at hf
  refine g_aloadn hX 0 rfl rfl dX2_sum_6 ?_
  refine pg_place hX (v := S.2 2) rfl dX2_sum_7 ?_
  refine g_aloadn hX 0 rfl rfl dX2_sum_10 ?_
  refine pg_end hX (v := S.2 1) rfl dX2_sum_11 ?_
  refine g_icmp_ge hX 93 (by decide) dX2_sum_14 (fun c4 => ?_) (fun c4 => ?_)
  · have hf := ite_t c4 hf
    refine g_iloadn hX 2 rfl rfl dX2_sum_93 ?_
    obtain rfl := oi hf
    exact g_iret hX hq (by decide) (by decide) hp dX2_sum_94
  · have hf := ite_f c4 hf
    refine g_aloadn hX 0 rfl rfl dX2_sum_17 ?_
    refine pg_row hX dX2_sum_18 ?_
    refine g_aloadn hX 0 rfl rfl dX2_sum_21 ?_
    refine pg_place hX (v := S.2 2) rfl dX2_sum_22 ?_
    obtain ⟨k5, jk5, ik5, hf⟩ := gix_open hf
    refine pl_row hX ik5 k5 jk5 dX2_sum_25 ?_
    refine g_bipush hX (v := 43) (by decide) dX2_sum_26 ?_
    refine g_icmp_eq hX 45 (by decide) dX2_sum_28 (fun c6 => ?_) (fun c6 => ?_)
    · have hf := ite_t c6 hf
      exact t_X2_sum_45 hi hdk hX hq hp hfr hlp6 _ _ _ hf
    · have hf := ite_f c6 hf
      refine g_aloadn hX 0 rfl rfl dX2_sum_31 ?_
      refine pg_row hX dX2_sum_32 ?_
      refine g_aloadn hX 0 rfl rfl dX2_sum_35 ?_
      refine pg_place hX (v := S.2 2) rfl dX2_sum_36 ?_
      obtain ⟨k14, jk14, ik14, hf⟩ := gix_open hf
      refine pl_row hX ik14 k14 jk14 dX2_sum_39 ?_
      refine g_bipush hX (v := 45) (by decide) dX2_sum_40 ?_
      refine g_icmp_ne hX 93 (by decide) dX2_sum_42 (fun c15 => ?_) (fun c15 => ?_)
      · have hf := ite_f c15 hf
        refine g_iloadn hX 2 rfl rfl dX2_sum_93 ?_
        obtain rfl := oi hf
        exact g_iret hX hq (by decide) (by decide) hp dX2_sum_94
      · have hf := ite_t c15 hf
        exact t_X2_sum_45 hi hdk hX hq hp hfr hlp6 _ _ _ hf
set_option maxRecDepth 100000 in
set_option maxHeartbeats 4000000 in
theorem t_X2_sum_0 {X : Cx} {ad : Nat → Nat} {i qt : Nat} {F : Nat → Int32} (hi : i < 4) {dk : Nat} (hdk : 12 ≤ dk) {PostX : Option Value → va_W → Prop} (hX : Ok X cX2_sum 5 RX2) (hq : Rq X (dk + 2) 0 0 (some .int) PostX) {u : (Int32 × MS)} (hp : PostX (some (.int u.1)) (pW X.E ad i qt (ad 1) F u.2)) {fr : Int32 → MS → Option (Int32 × MS)} (hfr : ∀ (a1 : Int32) (S : MS) (r : Int32) (S2 : MS), fr a1 S = some (r, S2) → CP X.l X.E yX2_part cX2_part 4 (some .int) dk 0 0 [] [.ref (ad 0), .int a1] (pW X.E ad i qt (ad 1) F S) (fun rv w => rv = some (.int r) ∧ w = pW X.E ad i qt (ad 1) F S2)) (a1 : Int32) (S : MS) (hf : f_X2_sum i F fr a1 S = some u) : G X 5 0 0 0 [(0, .ref (ad 0)), (1, .int a1)] [] (pW X.E ad i qt (ad 1) F S) := by
  unfold f_X2_sum at hf
  refine g_aloadn hX 0 rfl rfl dX2_sum_0 ?_
  refine g_iloadn hX 1 rfl rfl dX2_sum_1 ?_
  obtain ⟨r3, S1, h2, hf⟩ := cb_open hf
  refine k_X2_product hX hq (c_X2_product hi hdk hfr h2) (by omega) (by decide) (by decide) (Nat.le_of_ble_eq_true rfl) dX2_sum_2 ?_
  refine g_istoren hX [(2, .int r3), (0, .ref (ad 0)), (1, .int a1)] rfl (by decide) rfl dX2_sum_5 ?_
  refine g_lv [1, 2, 0] rfl ?_
  exact t_X2_sum_6 hi hdk hX hq hp hfr _ _ _ _ hf
theorem c_X2_sum {l : Launch} {E : En} {ad : Nat → Nat} {i qt : Nat} {F : Nat → Int32} (hi : i < 4) {dk : Nat} (hdk : 12 ≤ dk) {fr : Int32 → MS → Option (Int32 × MS)} (hfr : ∀ (a1 : Int32) (S : MS) (r : Int32) (S2 : MS), fr a1 S = some (r, S2) → CP l E yX2_part cX2_part 4 (some .int) dk 0 0 [] [.ref (ad 0), .int a1] (pW E ad i qt (ad 1) F S) (fun rv w => rv = some (.int r) ∧ w = pW E ad i qt (ad 1) F S2)) {a1 : Int32} {r : Int32} {S S2 : MS} (hf : f_X2_sum i F fr a1 S = some (r, S2)) : CP l E yX2_sum cX2_sum 5 (some .int) (dk + 2) 0 0 [] [.ref (ad 0), .int a1] (pW E ad i qt (ad 1) F S) (fun rv w => rv = some (.int r) ∧ w = pW E ad i qt (ad 1) F S2) :=
  CP.of (lv := [(0, .ref (ad 0)), (1, .int a1)]) (by decide +kernel) (Nat.le_of_ble_eq_true rfl) rfl (fun X hl hE hro hX hq hn => by subst hl; subst hE; exact t_X2_sum_0 hi hdk hX hq ⟨rfl, rfl⟩ hfr a1 S hf)
theorem kw_RX2_X2_sum : KwV RX2 87 RX2 yX2_sum cX2_sum 5 (some .int) 1 := ⟨mem_wsV wd_2_5 wd_2_7 wd_s_5 wd_1_3 wd_2_8, rfl, ⟨by decide +kernel, by decide +kernel, by decide +kernel⟩, by decide⟩
theorem k_X2_sum {X : Cx} {cc : ByteArray} {nL ce sl pc : Nat} {lv : List (Nat × Value)} {st : List Value} {dX mcX msX : Nat} {retX : Option FieldType} {PostX : Option Value → va_W → Prop} {ad : Nat → Nat} {i qt : Nat} {F : Nat → Int32} {S S2 : MS} {d : Nat} (hX : Ok X cc nL RX2) (hq : Rq X dX mcX msX retX PostX) {a1 : Int32} {r : Int32} (hM : CP X.l X.E yX2_sum cX2_sum 5 (some .int) d 0 0 [] [.ref (ad 0), .int a1] (pW X.E ad i qt (ad 1) F S) (fun rv w => rv = some (.int r) ∧ w = pW X.E ad i qt (ad 1) F S2)) (hd : d < dX) (hc : ce ≤ mcX) (hs : sl ≤ msX) (hcat : (st.map fun v => v.category).sum ≤ 8) (hdg : decode cc pc = .ok (.invokevirtual 87, 3)) (kk : G X nL ce sl (pc + 3) lv (.int r :: st) (pW X.E ad i qt (ad 1) F S2)) : G X nL ce sl pc lv (.int a1 :: .ref (ad 0) :: st) (pW X.E ad i qt (ad 1) F S) :=
  g_eqW (app1 _) (g_callV (pre := []) (mid := pW X.E ad i qt (ad 1) F S) (post := []) [.int a1] hX hq kw_RX2_X2_sum hM (fun _ h => absurd h List.not_mem_nil) hd hc hs rfl (Recv.of 0 2 rfl rfl) rfl hcat hdg (fun rv ws2 hp => by obtain ⟨rfl, rfl⟩ := hp; exact g_eqW (app1 _).symm kk))
def f_X2_compared_117 (i : Nat) (F : Nat → Int32) (fr : Int32 → MS → Option (Int32 × MS)) (y0 : Int32) (S : MS) : Option (Int32 × MS) :=
  if (y0 = 0 : Prop) then
    some (0, S)
  else
    some (1, S)
def f_X2_compared_49 (i : Nat) (F : Nat → Int32) (fr : Int32 → MS → Option (Int32 × MS)) (x1 : Int32) (x2 : Int32) (x3 : Int32) (S : MS) : Option (Int32 × MS) :=
  bI ((S.2 2) + 1) fun v8 =>
  cb (f_X2_sum i F fr x1 (sF S 2 v8)) fun r11 S9 =>
  if (x3 = 60 : Prop) then
    if (r11 ≤ x2 : Prop) then
      f_X2_compared_117 i F fr 0 S9
    else
      f_X2_compared_117 i F fr 1 S9
  else
    if (x3 = 61 : Prop) then
      if (x2 = r11 : Prop) then
        f_X2_compared_117 i F fr 1 S9
      else
        f_X2_compared_117 i F fr 0 S9
    else
      if (x2 ≤ r11 : Prop) then
        f_X2_compared_117 i F fr 0 S9
      else
        f_X2_compared_117 i F fr 1 S9
def f_X2_compared (i : Nat) (F : Nat → Int32) (fr : Int32 → MS → Option (Int32 × MS)) (a1 : Int32) (S : MS) : Option (Int32 × MS) :=
  cb (f_X2_sum i F fr a1 S) fun r3 S1 =>
  if ((S1.2 2) < (S1.2 1) : Prop) then
    gix (S1.2 2) 50 fun k5 =>
    bI (F k5) fun v6 =>
    if (v6 = 60 : Prop) then
      f_X2_compared_49 i F fr a1 r3 v6 S1
    else
      if (v6 = 61 : Prop) then
        f_X2_compared_49 i F fr a1 r3 v6 S1
      else
        if (v6 = 62 : Prop) then
          f_X2_compared_49 i F fr a1 r3 v6 S1
        else
          some (r3, S1)
  else
    some (r3, S1)
set_option maxRecDepth 100000 in
set_option maxHeartbeats 4000000 in
theorem t_X2_compared_117 {X : Cx} {ad : Nat → Nat} {i qt : Nat} {F : Nat → Int32} (hi : i < 4) {dk : Nat} (hdk : 12 ≤ dk) {PostX : Option Value → va_W → Prop} (hX : Ok X cX2_compared 6 RX2) (hq : Rq X (dk + 3) 0 0 (some .int) PostX) {u : (Int32 × MS)} (hp : PostX (some (.int u.1)) (pW X.E ad i qt (ad 1) F u.2)) {fr : Int32 → MS → Option (Int32 × MS)} (hfr : ∀ (a1 : Int32) (S : MS) (r : Int32) (S2 : MS), fr a1 S = some (r, S2) → CP X.l X.E yX2_part cX2_part 4 (some .int) dk 0 0 [] [.ref (ad 0), .int a1] (pW X.E ad i qt (ad 1) F S) (fun rv w => rv = some (.int r) ∧ w = pW X.E ad i qt (ad 1) F S2)) (y0 : Int32) (S : MS) (hf : f_X2_compared_117 i F fr y0 S = some u) : G X 6 0 0 117 [(0, .ref (ad 0))] [.int y0] (pW X.E ad i qt (ad 1) F S) := by
  unfold f_X2_compared_117 at hf
  refine g_istore hX [(5, .int y0), (0, .ref (ad 0))] (by decide) rfl dX2_compared_117 ?_
  refine g_iload hX 0 rfl dX2_compared_119 ?_
  refine g_if_eq hX 128 (by decide) dX2_compared_121 (fun c15 => ?_) (fun c15 => ?_)
  · have hf := ite_t c15 hf
    refine g_iconst hX (v := 0) (by decide) dX2_compared_128 ?_
    obtain rfl := oi hf
    exact g_iret hX hq (by decide) (by decide) hp dX2_compared_129
  · have hf := ite_f c15 hf
    refine g_iconst hX (v := 1) (by decide) dX2_compared_124 ?_
    refine g_goto hX 129 (by decide) dX2_compared_125 ?_
    obtain rfl := oi hf
    exact g_iret hX hq (by decide) (by decide) hp dX2_compared_129
set_option maxRecDepth 100000 in
set_option maxHeartbeats 4000000 in
theorem t_X2_compared_49 {X : Cx} {ad : Nat → Nat} {i qt : Nat} {F : Nat → Int32} (hi : i < 4) {dk : Nat} (hdk : 12 ≤ dk) {PostX : Option Value → va_W → Prop} (hX : Ok X cX2_compared 6 RX2) (hq : Rq X (dk + 3) 0 0 (some .int) PostX) {u : (Int32 × MS)} (hp : PostX (some (.int u.1)) (pW X.E ad i qt (ad 1) F u.2)) {fr : Int32 → MS → Option (Int32 × MS)} (hfr : ∀ (a1 : Int32) (S : MS) (r : Int32) (S2 : MS), fr a1 S = some (r, S2) → CP X.l X.E yX2_part cX2_part 4 (some .int) dk 0 0 [] [.ref (ad 0), .int a1] (pW X.E ad i qt (ad 1) F S) (fun rv w => rv = some (.int r) ∧ w = pW X.E ad i qt (ad 1) F S2)) (x1 : Int32) (x2 : Int32) (x3 : Int32) (S : MS) (hf : f_X2_compared_49 i F fr x1 x2 x3 S = some u) : G X 6 0 0 49 [(0, .ref (ad 0)), (1, .int x1), (2, .int x2), (3, .int x3)] [] (pW X.E ad i qt (ad 1) F S) := by
  unfold f_X2_compared_49 at hf
  refine g_aloadn hX 0 rfl rfl dX2_compared_49 ?_
  refine g_dup hX rfl dX2_compared_50 ?_
  refine pg_place hX (v := S.2 2) rfl dX2_compared_51 ?_
  refine g_iconst hX (v := 1) (by decide) dX2_compared_54 ?_
  refine g_iadd hX dX2_compared_55 ?_
  obtain ⟨v8, ev8, hf⟩ := bI_open hf
  refine g_nm ev8 ?_
  refine pp_place hX dX2_compared_56 ?_
  refine g_aloadn hX 0 rfl rfl dX2_compared_59 ?_
  refine g_iloadn hX 1 rfl rfl dX2_compared_60 ?_
  obtain ⟨r11, S9, h10, hf⟩ := cb_open hf
  refine k_X2_sum hX hq (c_X2_sum hi hdk hfr h10) (by omega) (by decide) (by decide) (Nat.le_of_ble_eq_true rfl) dX2_compared_61 ?_
  refine g_istore hX [(4, .int r11), (0, .ref (ad 0)), (1, .int x1), (2, .int x2), (3, .int x3)] (by decide) rfl dX2_compared_64 ?_
  refine g_iloadn hX 4 rfl rfl dX2_compared_66 ?_
  refine g_bipush hX (v := 60) (by decide) dX2_compared_67 ?_
  refine g_icmp_ne hX 86 (by decide) dX2_compared_69 (fun c12 => ?_) (fun c12 => ?_)
  · have hf := ite_f c12 hf
    refine g_iloadn hX 4 rfl rfl dX2_compared_86 ?_
    refine g_bipush hX (v := 61) (by decide) dX2_compared_87 ?_
    refine g_icmp_ne hX 106 (by decide) dX2_compared_89 (fun c13 => ?_) (fun c13 => ?_)
    · have hf := ite_f c13 hf
      refine g_iloadn hX 3 rfl rfl dX2_compared_106 ?_
      refine g_iload hX 0 rfl dX2_compared_107 ?_
      refine g_icmp_le hX 116 (by decide) dX2_compared_109 (fun c14 => ?_) (fun c14 => ?_)
      · have hf := ite_t c14 hf
        refine g_iconst hX (v := 0) (by decide) dX2_compared_116 ?_
        refine g_lv [1] rfl ?_
        exact t_X2_compared_117 hi hdk hX hq hp hfr _ _ hf
      · have hf := ite_f c14 hf
        refine g_iconst hX (v := 1) (by decide) dX2_compared_112 ?_
        refine g_goto hX 117 (by decide) dX2_compared_113 ?_
        refine g_lv [1] rfl ?_
        exact t_X2_compared_117 hi hdk hX hq hp hfr _ _ hf
    · have hf := ite_t c13 hf
      refine g_iloadn hX 3 rfl rfl dX2_compared_92 ?_
      refine g_iload hX 0 rfl dX2_compared_93 ?_
      refine g_icmp_ne hX 102 (by decide) dX2_compared_95 (fun c16 => ?_) (fun c16 => ?_)
      · have hf := ite_f c16 hf
        refine g_iconst hX (v := 0) (by decide) dX2_compared_102 ?_
        refine g_goto hX 117 (by decide) dX2_compared_103 ?_
        refine g_lv [1] rfl ?_
        exact t_X2_compared_117 hi hdk hX hq hp hfr _ _ hf
      · have hf := ite_t c16 hf
        refine g_iconst hX (v := 1) (by decide) dX2_compared_98 ?_
        refine g_goto hX 117 (by decide) dX2_compared_99 ?_
        refine g_lv [1] rfl ?_
        exact t_X2_compared_117 hi hdk hX hq hp hfr _ _ hf
  · have hf := ite_t c12 hf
    refine g_iloadn hX 3 rfl rfl dX2_compared_72 ?_
    refine g_iload hX 0 rfl dX2_compared_73 ?_
    refine g_icmp_ge hX 82 (by decide) dX2_compared_75 (fun c17 => ?_) (fun c17 => ?_)
    · have hf := ite_t c17 hf
      refine g_iconst hX (v := 0) (by decide) dX2_compared_82 ?_
      refine g_goto hX 117 (by decide) dX2_compared_83 ?_
      refine g_lv [1] rfl ?_
      exact t_X2_compared_117 hi hdk hX hq hp hfr _ _ hf
    · have hf := ite_f c17 hf
      refine g_iconst hX (v := 1) (by decide) dX2_compared_78 ?_
      refine g_goto hX 117 (by decide) dX2_compared_79 ?_
      refine g_lv [1] rfl ?_
      exact t_X2_compared_117 hi hdk hX hq hp hfr _ _ hf
set_option maxRecDepth 100000 in
set_option maxHeartbeats 4000000 in
theorem t_X2_compared_0 {X : Cx} {ad : Nat → Nat} {i qt : Nat} {F : Nat → Int32} (hi : i < 4) {dk : Nat} (hdk : 12 ≤ dk) {PostX : Option Value → va_W → Prop} (hX : Ok X cX2_compared 6 RX2) (hq : Rq X (dk + 3) 0 0 (some .int) PostX) {u : (Int32 × MS)} (hp : PostX (some (.int u.1)) (pW X.E ad i qt (ad 1) F u.2)) {fr : Int32 → MS → Option (Int32 × MS)} (hfr : ∀ (a1 : Int32) (S : MS) (r : Int32) (S2 : MS), fr a1 S = some (r, S2) → CP X.l X.E yX2_part cX2_part 4 (some .int) dk 0 0 [] [.ref (ad 0), .int a1] (pW X.E ad i qt (ad 1) F S) (fun rv w => rv = some (.int r) ∧ w = pW X.E ad i qt (ad 1) F S2)) (a1 : Int32) (S : MS) (hf : f_X2_compared i F fr a1 S = some u) : G X 6 0 0 0 [(0, .ref (ad 0)), (1, .int a1)] [] (pW X.E ad i qt (ad 1) F S) := by
  unfold f_X2_compared at hf
  refine g_aloadn hX 0 rfl rfl dX2_compared_0 ?_
  refine g_iloadn hX 1 rfl rfl dX2_compared_1 ?_
  obtain ⟨r3, S1, h2, hf⟩ := cb_open hf
  refine k_X2_sum hX hq (c_X2_sum hi hdk hfr h2) (by omega) (by decide) (by decide) (Nat.le_of_ble_eq_true rfl) dX2_compared_2 ?_
  refine g_istoren hX [(2, .int r3), (0, .ref (ad 0)), (1, .int a1)] rfl (by decide) rfl dX2_compared_5 ?_
  refine g_aloadn hX 1 rfl rfl dX2_compared_6 ?_
  refine pg_place hX (v := S1.2 2) rfl dX2_compared_7 ?_
  refine g_aloadn hX 1 rfl rfl dX2_compared_10 ?_
  refine pg_end hX (v := S1.2 1) rfl dX2_compared_11 ?_
  refine g_icmp_lt hX 19 (by decide) dX2_compared_14 (fun c4 => ?_) (fun c4 => ?_)
  · have hf := ite_t c4 hf
    refine g_aloadn hX 1 rfl rfl dX2_compared_19 ?_
    refine pg_row hX dX2_compared_20 ?_
    refine g_aloadn hX 1 rfl rfl dX2_compared_23 ?_
    refine pg_place hX (v := S1.2 2) rfl dX2_compared_24 ?_
    obtain ⟨k5, jk5, ik5, hf⟩ := gix_open hf
    refine pl_row hX ik5 k5 jk5 dX2_compared_27 ?_
    obtain ⟨v6, ev6, hf⟩ := bI_open hf
    refine g_nm ev6 ?_
    refine g_istoren hX [(3, .int v6), (2, .int r3), (0, .ref (ad 0)), (1, .int a1)] rfl (by decide) rfl dX2_compared_28 ?_
    refine g_iloadn hX 0 rfl rfl dX2_compared_29 ?_
    refine g_bipush hX (v := 60) (by decide) dX2_compared_30 ?_
    refine g_icmp_eq hX 49 (by decide) dX2_compared_32 (fun c7 => ?_) (fun c7 => ?_)
    · have hf := ite_t c7 hf
      refine g_lv [2, 3, 1, 0] rfl ?_
      exact t_X2_compared_49 hi hdk hX hq hp hfr _ _ _ _ hf
    · have hf := ite_f c7 hf
      refine g_iloadn hX 0 rfl rfl dX2_compared_35 ?_
      refine g_bipush hX (v := 61) (by decide) dX2_compared_36 ?_
      refine g_icmp_eq hX 49 (by decide) dX2_compared_38 (fun c18 => ?_) (fun c18 => ?_)
      · have hf := ite_t c18 hf
        refine g_lv [2, 3, 1, 0] rfl ?_
        exact t_X2_compared_49 hi hdk hX hq hp hfr _ _ _ _ hf
      · have hf := ite_f c18 hf
        refine g_iloadn hX 0 rfl rfl dX2_compared_41 ?_
        refine g_bipush hX (v := 62) (by decide) dX2_compared_42 ?_
        refine g_icmp_eq hX 49 (by decide) dX2_compared_44 (fun c19 => ?_) (fun c19 => ?_)
        · have hf := ite_t c19 hf
          refine g_lv [2, 3, 1, 0] rfl ?_
          exact t_X2_compared_49 hi hdk hX hq hp hfr _ _ _ _ hf
        · have hf := ite_f c19 hf
          refine g_iloadn hX 1 rfl rfl dX2_compared_47 ?_
          obtain rfl := oi hf
          exact g_iret hX hq (by decide) (by decide) hp dX2_compared_48
  · have hf := ite_f c4 hf
    refine g_iloadn hX 0 rfl rfl dX2_compared_17 ?_
    obtain rfl := oi hf
    exact g_iret hX hq (by decide) (by decide) hp dX2_compared_18
theorem c_X2_compared {l : Launch} {E : En} {ad : Nat → Nat} {i qt : Nat} {F : Nat → Int32} (hi : i < 4) {dk : Nat} (hdk : 12 ≤ dk) {fr : Int32 → MS → Option (Int32 × MS)} (hfr : ∀ (a1 : Int32) (S : MS) (r : Int32) (S2 : MS), fr a1 S = some (r, S2) → CP l E yX2_part cX2_part 4 (some .int) dk 0 0 [] [.ref (ad 0), .int a1] (pW E ad i qt (ad 1) F S) (fun rv w => rv = some (.int r) ∧ w = pW E ad i qt (ad 1) F S2)) {a1 : Int32} {r : Int32} {S S2 : MS} (hf : f_X2_compared i F fr a1 S = some (r, S2)) : CP l E yX2_compared cX2_compared 6 (some .int) (dk + 3) 0 0 [] [.ref (ad 0), .int a1] (pW E ad i qt (ad 1) F S) (fun rv w => rv = some (.int r) ∧ w = pW E ad i qt (ad 1) F S2) :=
  CP.of (lv := [(0, .ref (ad 0)), (1, .int a1)]) (by decide +kernel) (Nat.le_of_ble_eq_true rfl) rfl (fun X hl hE hro hX hq hn => by subst hl; subst hE; exact t_X2_compared_0 hi hdk hX hq ⟨rfl, rfl⟩ hfr a1 S hf)
theorem kw_RX2_X2_compared : KwV RX2 84 RX2 yX2_compared cX2_compared 6 (some .int) 1 := ⟨mem_wsV wd_2_1 wd_2_3 wd_s_4 wd_1_3 wd_2_4, rfl, ⟨by decide +kernel, by decide +kernel, by decide +kernel⟩, by decide⟩
theorem k_X2_compared {X : Cx} {cc : ByteArray} {nL ce sl pc : Nat} {lv : List (Nat × Value)} {st : List Value} {dX mcX msX : Nat} {retX : Option FieldType} {PostX : Option Value → va_W → Prop} {ad : Nat → Nat} {i qt : Nat} {F : Nat → Int32} {S S2 : MS} {d : Nat} (hX : Ok X cc nL RX2) (hq : Rq X dX mcX msX retX PostX) {a1 : Int32} {r : Int32} (hM : CP X.l X.E yX2_compared cX2_compared 6 (some .int) d 0 0 [] [.ref (ad 0), .int a1] (pW X.E ad i qt (ad 1) F S) (fun rv w => rv = some (.int r) ∧ w = pW X.E ad i qt (ad 1) F S2)) (hd : d < dX) (hc : ce ≤ mcX) (hs : sl ≤ msX) (hcat : (st.map fun v => v.category).sum ≤ 8) (hdg : decode cc pc = .ok (.invokevirtual 84, 3)) (kk : G X nL ce sl (pc + 3) lv (.int r :: st) (pW X.E ad i qt (ad 1) F S2)) : G X nL ce sl pc lv (.int a1 :: .ref (ad 0) :: st) (pW X.E ad i qt (ad 1) F S) :=
  g_eqW (app1 _) (g_callV (pre := []) (mid := pW X.E ad i qt (ad 1) F S) (post := []) [.int a1] hX hq kw_RX2_X2_compared hM (fun _ h => absurd h List.not_mem_nil) hd hc hs rfl (Recv.of 0 2 rfl rfl) rfl hcat hdg (fun rv ws2 hp => by obtain ⟨rfl, rfl⟩ := hp; exact g_eqW (app1 _).symm kk))
def f_X2_both_60 (i : Nat) (F : Nat → Int32) (lp6 : Int32 → Int32 → MS → Option (Int32 × MS)) (fr : Int32 → MS → Option (Int32 × MS)) (x1 : Int32) (y0 : Int32) (S : MS) : Option (Int32 × MS) :=
  lp6 x1 y0 S
def f_X2_both_59 (i : Nat) (F : Nat → Int32) (lp6 : Int32 → Int32 → MS → Option (Int32 × MS)) (fr : Int32 → MS → Option (Int32 × MS)) (x1 : Int32) (S : MS) : Option (Int32 × MS) :=
  f_X2_both_60 i F lp6 fr x1 0 S
def f_X2_both_6 (i : Nat) (F : Nat → Int32) (fr : Int32 → MS → Option (Int32 × MS)) : Nat → Int32 → Int32 → MS → Option (Int32 × MS)
  | 0 => fun _ _ _ => none
  | n + 1 => fun x1 x2 S =>
    let lp6 := f_X2_both_6 i F fr n
    if ((S.2 1) ≤ (S.2 2) : Prop) then
      some (x2, S)
    else
      gix (S.2 2) 50 fun k5 =>
      if ((F k5) = 38 : Prop) then
        bI ((S.2 2) + 1) fun v7 =>
        cb (f_X2_compared i F fr x1 (sF S 2 v7)) fun r10 S8 =>
        if (x2 = 0 : Prop) then
          f_X2_both_59 i F lp6 fr x1 S8
        else
          if (r10 = 0 : Prop) then
            f_X2_both_59 i F lp6 fr x1 S8
          else
            f_X2_both_60 i F lp6 fr x1 1 S8
      else
        some (x2, S)
def f_X2_both (i : Nat) (F : Nat → Int32) (fr : Int32 → MS → Option (Int32 × MS)) (a1 : Int32) (S : MS) : Option (Int32 × MS) :=
  cb (f_X2_compared i F fr a1 S) fun r3 S1 =>
  f_X2_both_6 i F fr 100 a1 r3 S1
set_option maxRecDepth 100000 in
set_option maxHeartbeats 4000000 in
theorem t_X2_both_60 {X : Cx} {ad : Nat → Nat} {i qt : Nat} {F : Nat → Int32} (hi : i < 4) {dk : Nat} (hdk : 12 ≤ dk) {PostX : Option Value → va_W → Prop} (hX : Ok X cX2_both 4 RX2) (hq : Rq X (dk + 4) 0 0 (some .int) PostX) {u : (Int32 × MS)} (hp : PostX (some (.int u.1)) (pW X.E ad i qt (ad 1) F u.2)) {fr : Int32 → MS → Option (Int32 × MS)} (hfr : ∀ (a1 : Int32) (S : MS) (r : Int32) (S2 : MS), fr a1 S = some (r, S2) → CP X.l X.E yX2_part cX2_part 4 (some .int) dk 0 0 [] [.ref (ad 0), .int a1] (pW X.E ad i qt (ad 1) F S) (fun rv w => rv = some (.int r) ∧ w = pW X.E ad i qt (ad 1) F S2)) {lp6 : Int32 → Int32 → MS → Option (Int32 × MS)} (hlp6 : ∀ (x1 : Int32) (x2 : Int32) (S : MS), lp6 x1 x2 S = some u → G X 4 0 0 6 [(0, .ref (ad 0)), (1, .int x1), (2, .int x2)] [] (pW X.E ad i qt (ad 1) F S)) (x1 : Int32) (y0 : Int32) (S : MS) (hf : f_X2_both_60 i F lp6 fr x1 y0 S = some u) : G X 4 0 0 60 [(0, .ref (ad 0)), (1, .int x1)] [.int y0] (pW X.E ad i qt (ad 1) F S) := by
  unfold f_X2_both_60 at hf
  refine g_istoren hX [(2, .int y0), (0, .ref (ad 0)), (1, .int x1)] rfl (by decide) rfl dX2_both_60 ?_
  refine g_goto hX 6 (by decide) dX2_both_61 ?_
  refine g_lv [1, 2, 0] rfl ?_
  exact hlp6 _ _ _ hf
set_option maxRecDepth 100000 in
set_option maxHeartbeats 4000000 in
theorem t_X2_both_59 {X : Cx} {ad : Nat → Nat} {i qt : Nat} {F : Nat → Int32} (hi : i < 4) {dk : Nat} (hdk : 12 ≤ dk) {PostX : Option Value → va_W → Prop} (hX : Ok X cX2_both 4 RX2) (hq : Rq X (dk + 4) 0 0 (some .int) PostX) {u : (Int32 × MS)} (hp : PostX (some (.int u.1)) (pW X.E ad i qt (ad 1) F u.2)) {fr : Int32 → MS → Option (Int32 × MS)} (hfr : ∀ (a1 : Int32) (S : MS) (r : Int32) (S2 : MS), fr a1 S = some (r, S2) → CP X.l X.E yX2_part cX2_part 4 (some .int) dk 0 0 [] [.ref (ad 0), .int a1] (pW X.E ad i qt (ad 1) F S) (fun rv w => rv = some (.int r) ∧ w = pW X.E ad i qt (ad 1) F S2)) {lp6 : Int32 → Int32 → MS → Option (Int32 × MS)} (hlp6 : ∀ (x1 : Int32) (x2 : Int32) (S : MS), lp6 x1 x2 S = some u → G X 4 0 0 6 [(0, .ref (ad 0)), (1, .int x1), (2, .int x2)] [] (pW X.E ad i qt (ad 1) F S)) (x1 : Int32) (S : MS) (hf : f_X2_both_59 i F lp6 fr x1 S = some u) : G X 4 0 0 59 [(0, .ref (ad 0)), (1, .int x1)] [] (pW X.E ad i qt (ad 1) F S) := by
  unfold f_X2_both_59 at hf
  refine g_iconst hX (v := 0) (by decide) dX2_both_59 ?_
  exact t_X2_both_60 hi hdk hX hq hp hfr hlp6 _ _ _ hf
set_option maxRecDepth 100000 in
set_option maxHeartbeats 4000000 in
theorem t_X2_both_6 {X : Cx} {ad : Nat → Nat} {i qt : Nat} {F : Nat → Int32} (hi : i < 4) {dk : Nat} (hdk : 12 ≤ dk) {PostX : Option Value → va_W → Prop} (hX : Ok X cX2_both 4 RX2) (hq : Rq X (dk + 4) 0 0 (some .int) PostX) {u : (Int32 × MS)} (hp : PostX (some (.int u.1)) (pW X.E ad i qt (ad 1) F u.2)) {fr : Int32 → MS → Option (Int32 × MS)} (hfr : ∀ (a1 : Int32) (S : MS) (r : Int32) (S2 : MS), fr a1 S = some (r, S2) → CP X.l X.E yX2_part cX2_part 4 (some .int) dk 0 0 [] [.ref (ad 0), .int a1] (pW X.E ad i qt (ad 1) F S) (fun rv w => rv = some (.int r) ∧ w = pW X.E ad i qt (ad 1) F S2)) : ∀ (n : Nat) (x1 : Int32) (x2 : Int32) (S : MS), f_X2_both_6 i F fr n x1 x2 S = some u → G X 4 0 0 6 [(0, .ref (ad 0)), (1, .int x1), (2, .int x2)] [] (pW X.E ad i qt (ad 1) F S) := by
  intro n
  induction n with
  | zero => intro _ _ _ hf; unfold f_X2_both_6 at hf; cases hf
  | succ n hlp6 =>
  intro x1 x2 S hf
  unfold f_X2_both_6 at hf
  refine g_aloadn hX 0 rfl rfl dX2_both_6 ?_
  refine pg_place hX (v := S.2 2) rfl dX2_both_7 ?_
  refine g_aloadn hX 0 rfl rfl dX2_both_10 ?_
  refine pg_end hX (v := S.2 1) rfl dX2_both_11 ?_
  refine g_icmp_ge hX 64 (by decide) dX2_both_14 (fun c4 => ?_) (fun c4 => ?_)
  · have hf := ite_t c4 hf
    refine g_iloadn hX 2 rfl rfl dX2_both_64 ?_
    obtain rfl := oi hf
    exact g_iret hX hq (by decide) (by decide) hp dX2_both_65
  · have hf := ite_f c4 hf
    refine g_aloadn hX 0 rfl rfl dX2_both_17 ?_
    refine pg_row hX dX2_both_18 ?_
    refine g_aloadn hX 0 rfl rfl dX2_both_21 ?_
    refine pg_place hX (v := S.2 2) rfl dX2_both_22 ?_
    obtain ⟨k5, jk5, ik5, hf⟩ := gix_open hf
    refine pl_row hX ik5 k5 jk5 dX2_both_25 ?_
    refine g_bipush hX (v := 38) (by decide) dX2_both_26 ?_
    refine g_icmp_ne hX 64 (by decide) dX2_both_28 (fun c6 => ?_) (fun c6 => ?_)
    · have hf := ite_f c6 hf
      refine g_iloadn hX 2 rfl rfl dX2_both_64 ?_
      obtain rfl := oi hf
      exact g_iret hX hq (by decide) (by decide) hp dX2_both_65
    · have hf := ite_t c6 hf
      refine g_aloadn hX 0 rfl rfl dX2_both_31 ?_
      refine g_dup hX rfl dX2_both_32 ?_
      refine pg_place hX (v := S.2 2) rfl dX2_both_33 ?_
      refine g_iconst hX (v := 1) (by decide) dX2_both_36 ?_
      refine g_iadd hX dX2_both_37 ?_
      obtain ⟨v7, ev7, hf⟩ := bI_open hf
      refine g_nm ev7 ?_
      refine pp_place hX dX2_both_38 ?_
      refine g_aloadn hX 0 rfl rfl dX2_both_41 ?_
      refine g_iloadn hX 1 rfl rfl dX2_both_42 ?_
      obtain ⟨r10, S8, h9, hf⟩ := cb_open hf
      refine k_X2_compared hX hq (c_X2_compared hi hdk hfr h9) (by omega) (by decide) (by decide) (Nat.le_of_ble_eq_true rfl) dX2_both_43 ?_
      refine g_istoren hX [(3, .int r10), (0, .ref (ad 0)), (1, .int x1), (2, .int x2)] rfl (by decide) rfl dX2_both_46 ?_
      refine g_iloadn hX 3 rfl rfl dX2_both_47 ?_
      refine g_if_eq hX 59 (by decide) dX2_both_48 (fun c11 => ?_) (fun c11 => ?_)
      · have hf := ite_t c11 hf
        refine g_lv [1, 2] rfl ?_
        exact t_X2_both_59 hi hdk hX hq hp hfr hlp6 _ _ hf
      · have hf := ite_f c11 hf
        refine g_iloadn hX 0 rfl rfl dX2_both_51 ?_
        refine g_if_eq hX 59 (by decide) dX2_both_52 (fun c12 => ?_) (fun c12 => ?_)
        · have hf := ite_t c12 hf
          refine g_lv [1, 2] rfl ?_
          exact t_X2_both_59 hi hdk hX hq hp hfr hlp6 _ _ hf
        · have hf := ite_f c12 hf
          refine g_iconst hX (v := 1) (by decide) dX2_both_55 ?_
          refine g_goto hX 60 (by decide) dX2_both_56 ?_
          refine g_lv [1, 2] rfl ?_
          exact t_X2_both_60 hi hdk hX hq hp hfr hlp6 _ _ _ hf
set_option maxRecDepth 100000 in
set_option maxHeartbeats 4000000 in
theorem t_X2_both_0 {X : Cx} {ad : Nat → Nat} {i qt : Nat} {F : Nat → Int32} (hi : i < 4) {dk : Nat} (hdk : 12 ≤ dk) {PostX : Option Value → va_W → Prop} (hX : Ok X cX2_both 4 RX2) (hq : Rq X (dk + 4) 0 0 (some .int) PostX) {u : (Int32 × MS)} (hp : PostX (some (.int u.1)) (pW X.E ad i qt (ad 1) F u.2)) {fr : Int32 → MS → Option (Int32 × MS)} (hfr : ∀ (a1 : Int32) (S : MS) (r : Int32) (S2 : MS), fr a1 S = some (r, S2) → CP X.l X.E yX2_part cX2_part 4 (some .int) dk 0 0 [] [.ref (ad 0), .int a1] (pW X.E ad i qt (ad 1) F S) (fun rv w => rv = some (.int r) ∧ w = pW X.E ad i qt (ad 1) F S2)) (a1 : Int32) (S : MS) (hf : f_X2_both i F fr a1 S = some u) : G X 4 0 0 0 [(0, .ref (ad 0)), (1, .int a1)] [] (pW X.E ad i qt (ad 1) F S) := by
  unfold f_X2_both at hf
  refine g_aloadn hX 0 rfl rfl dX2_both_0 ?_
  refine g_iloadn hX 1 rfl rfl dX2_both_1 ?_
  obtain ⟨r3, S1, h2, hf⟩ := cb_open hf
  refine k_X2_compared hX hq (c_X2_compared hi hdk hfr h2) (by omega) (by decide) (by decide) (Nat.le_of_ble_eq_true rfl) dX2_both_2 ?_
  refine g_istoren hX [(2, .int r3), (0, .ref (ad 0)), (1, .int a1)] rfl (by decide) rfl dX2_both_5 ?_
  refine g_lv [1, 2, 0] rfl ?_
  exact t_X2_both_6 hi hdk hX hq hp hfr _ _ _ _ hf
theorem c_X2_both {l : Launch} {E : En} {ad : Nat → Nat} {i qt : Nat} {F : Nat → Int32} (hi : i < 4) {dk : Nat} (hdk : 12 ≤ dk) {fr : Int32 → MS → Option (Int32 × MS)} (hfr : ∀ (a1 : Int32) (S : MS) (r : Int32) (S2 : MS), fr a1 S = some (r, S2) → CP l E yX2_part cX2_part 4 (some .int) dk 0 0 [] [.ref (ad 0), .int a1] (pW E ad i qt (ad 1) F S) (fun rv w => rv = some (.int r) ∧ w = pW E ad i qt (ad 1) F S2)) {a1 : Int32} {r : Int32} {S S2 : MS} (hf : f_X2_both i F fr a1 S = some (r, S2)) : CP l E yX2_both cX2_both 4 (some .int) (dk + 4) 0 0 [] [.ref (ad 0), .int a1] (pW E ad i qt (ad 1) F S) (fun rv w => rv = some (.int r) ∧ w = pW E ad i qt (ad 1) F S2) :=
  CP.of (lv := [(0, .ref (ad 0)), (1, .int a1)]) (by decide +kernel) (Nat.le_of_ble_eq_true rfl) rfl (fun X hl hE hro hX hq hn => by subst hl; subst hE; exact t_X2_both_0 hi hdk hX hq ⟨rfl, rfl⟩ hfr a1 S hf)
theorem kw_RX2_X2_both : KwV RX2 81 RX2 yX2_both cX2_both 4 (some .int) 1 := ⟨mem_wsV wd_1_237 wd_1_239 wd_s_3 wd_1_3 wd_2_0, rfl, ⟨by decide +kernel, by decide +kernel, by decide +kernel⟩, by decide⟩
theorem k_X2_both {X : Cx} {cc : ByteArray} {nL ce sl pc : Nat} {lv : List (Nat × Value)} {st : List Value} {dX mcX msX : Nat} {retX : Option FieldType} {PostX : Option Value → va_W → Prop} {ad : Nat → Nat} {i qt : Nat} {F : Nat → Int32} {S S2 : MS} {d : Nat} (hX : Ok X cc nL RX2) (hq : Rq X dX mcX msX retX PostX) {a1 : Int32} {r : Int32} (hM : CP X.l X.E yX2_both cX2_both 4 (some .int) d 0 0 [] [.ref (ad 0), .int a1] (pW X.E ad i qt (ad 1) F S) (fun rv w => rv = some (.int r) ∧ w = pW X.E ad i qt (ad 1) F S2)) (hd : d < dX) (hc : ce ≤ mcX) (hs : sl ≤ msX) (hcat : (st.map fun v => v.category).sum ≤ 8) (hdg : decode cc pc = .ok (.invokevirtual 81, 3)) (kk : G X nL ce sl (pc + 3) lv (.int r :: st) (pW X.E ad i qt (ad 1) F S2)) : G X nL ce sl pc lv (.int a1 :: .ref (ad 0) :: st) (pW X.E ad i qt (ad 1) F S) :=
  g_eqW (app1 _) (g_callV (pre := []) (mid := pW X.E ad i qt (ad 1) F S) (post := []) [.int a1] hX hq kw_RX2_X2_both hM (fun _ h => absurd h List.not_mem_nil) hd hc hs rfl (Recv.of 0 2 rfl rfl) rfl hcat hdg (fun rv ws2 hp => by obtain ⟨rfl, rfl⟩ := hp; exact g_eqW (app1 _).symm kk))
def f_X2_either_60 (i : Nat) (F : Nat → Int32) (lp6 : Int32 → Int32 → MS → Option (Int32 × MS)) (fr : Int32 → MS → Option (Int32 × MS)) (x1 : Int32) (y0 : Int32) (S : MS) : Option (Int32 × MS) :=
  lp6 x1 y0 S
def f_X2_either_55 (i : Nat) (F : Nat → Int32) (lp6 : Int32 → Int32 → MS → Option (Int32 × MS)) (fr : Int32 → MS → Option (Int32 × MS)) (x1 : Int32) (S : MS) : Option (Int32 × MS) :=
  f_X2_either_60 i F lp6 fr x1 1 S
def f_X2_either_6 (i : Nat) (F : Nat → Int32) (fr : Int32 → MS → Option (Int32 × MS)) : Nat → Int32 → Int32 → MS → Option (Int32 × MS)
  | 0 => fun _ _ _ => none
  | n + 1 => fun x1 x2 S =>
    let lp6 := f_X2_either_6 i F fr n
    if ((S.2 1) ≤ (S.2 2) : Prop) then
      some (x2, S)
    else
      gix (S.2 2) 50 fun k5 =>
      if ((F k5) = 124 : Prop) then
        bI ((S.2 2) + 1) fun v7 =>
        cb (f_X2_both i F fr x1 (sF S 2 v7)) fun r10 S8 =>
        if (x2 = 0 : Prop) then
          if (r10 = 0 : Prop) then
            f_X2_either_60 i F lp6 fr x1 0 S8
          else
            f_X2_either_55 i F lp6 fr x1 S8
        else
          f_X2_either_55 i F lp6 fr x1 S8
      else
        some (x2, S)
def f_X2_either (i : Nat) (F : Nat → Int32) (fr : Int32 → MS → Option (Int32 × MS)) (a1 : Int32) (S : MS) : Option (Int32 × MS) :=
  cb (f_X2_both i F fr a1 S) fun r3 S1 =>
  f_X2_either_6 i F fr 100 a1 r3 S1
set_option maxRecDepth 100000 in
set_option maxHeartbeats 4000000 in
theorem t_X2_either_60 {X : Cx} {ad : Nat → Nat} {i qt : Nat} {F : Nat → Int32} (hi : i < 4) {dk : Nat} (hdk : 12 ≤ dk) {PostX : Option Value → va_W → Prop} (hX : Ok X cX2_either 4 RX2) (hq : Rq X (dk + 5) 0 0 (some .int) PostX) {u : (Int32 × MS)} (hp : PostX (some (.int u.1)) (pW X.E ad i qt (ad 1) F u.2)) {fr : Int32 → MS → Option (Int32 × MS)} (hfr : ∀ (a1 : Int32) (S : MS) (r : Int32) (S2 : MS), fr a1 S = some (r, S2) → CP X.l X.E yX2_part cX2_part 4 (some .int) dk 0 0 [] [.ref (ad 0), .int a1] (pW X.E ad i qt (ad 1) F S) (fun rv w => rv = some (.int r) ∧ w = pW X.E ad i qt (ad 1) F S2)) {lp6 : Int32 → Int32 → MS → Option (Int32 × MS)} (hlp6 : ∀ (x1 : Int32) (x2 : Int32) (S : MS), lp6 x1 x2 S = some u → G X 4 0 0 6 [(0, .ref (ad 0)), (1, .int x1), (2, .int x2)] [] (pW X.E ad i qt (ad 1) F S)) (x1 : Int32) (y0 : Int32) (S : MS) (hf : f_X2_either_60 i F lp6 fr x1 y0 S = some u) : G X 4 0 0 60 [(0, .ref (ad 0)), (1, .int x1)] [.int y0] (pW X.E ad i qt (ad 1) F S) := by
  unfold f_X2_either_60 at hf
  refine g_istoren hX [(2, .int y0), (0, .ref (ad 0)), (1, .int x1)] rfl (by decide) rfl dX2_either_60 ?_
  refine g_goto hX 6 (by decide) dX2_either_61 ?_
  refine g_lv [1, 2, 0] rfl ?_
  exact hlp6 _ _ _ hf
set_option maxRecDepth 100000 in
set_option maxHeartbeats 4000000 in
theorem t_X2_either_55 {X : Cx} {ad : Nat → Nat} {i qt : Nat} {F : Nat → Int32} (hi : i < 4) {dk : Nat} (hdk : 12 ≤ dk) {PostX : Option Value → va_W → Prop} (hX : Ok X cX2_either 4 RX2) (hq : Rq X (dk + 5) 0 0 (some .int) PostX) {u : (Int32 × MS)} (hp : PostX (some (.int u.1)) (pW X.E ad i qt (ad 1) F u.2)) {fr : Int32 → MS → Option (Int32 × MS)} (hfr : ∀ (a1 : Int32) (S : MS) (r : Int32) (S2 : MS), fr a1 S = some (r, S2) → CP X.l X.E yX2_part cX2_part 4 (some .int) dk 0 0 [] [.ref (ad 0), .int a1] (pW X.E ad i qt (ad 1) F S) (fun rv w => rv = some (.int r) ∧ w = pW X.E ad i qt (ad 1) F S2)) {lp6 : Int32 → Int32 → MS → Option (Int32 × MS)} (hlp6 : ∀ (x1 : Int32) (x2 : Int32) (S : MS), lp6 x1 x2 S = some u → G X 4 0 0 6 [(0, .ref (ad 0)), (1, .int x1), (2, .int x2)] [] (pW X.E ad i qt (ad 1) F S)) (x1 : Int32) (S : MS) (hf : f_X2_either_55 i F lp6 fr x1 S = some u) : G X 4 0 0 55 [(0, .ref (ad 0)), (1, .int x1)] [] (pW X.E ad i qt (ad 1) F S) := by
  unfold f_X2_either_55 at hf
  refine g_iconst hX (v := 1) (by decide) dX2_either_55 ?_
  refine g_goto hX 60 (by decide) dX2_either_56 ?_
  exact t_X2_either_60 hi hdk hX hq hp hfr hlp6 _ _ _ hf
set_option maxRecDepth 100000 in
set_option maxHeartbeats 4000000 in
theorem t_X2_either_6 {X : Cx} {ad : Nat → Nat} {i qt : Nat} {F : Nat → Int32} (hi : i < 4) {dk : Nat} (hdk : 12 ≤ dk) {PostX : Option Value → va_W → Prop} (hX : Ok X cX2_either 4 RX2) (hq : Rq X (dk + 5) 0 0 (some .int) PostX) {u : (Int32 × MS)} (hp : PostX (some (.int u.1)) (pW X.E ad i qt (ad 1) F u.2)) {fr : Int32 → MS → Option (Int32 × MS)} (hfr : ∀ (a1 : Int32) (S : MS) (r : Int32) (S2 : MS), fr a1 S = some (r, S2) → CP X.l X.E yX2_part cX2_part 4 (some .int) dk 0 0 [] [.ref (ad 0), .int a1] (pW X.E ad i qt (ad 1) F S) (fun rv w => rv = some (.int r) ∧ w = pW X.E ad i qt (ad 1) F S2)) : ∀ (n : Nat) (x1 : Int32) (x2 : Int32) (S : MS), f_X2_either_6 i F fr n x1 x2 S = some u → G X 4 0 0 6 [(0, .ref (ad 0)), (1, .int x1), (2, .int x2)] [] (pW X.E ad i qt (ad 1) F S) := by
  intro n
  induction n with
  | zero => intro _ _ _ hf; unfold f_X2_either_6 at hf; cases hf
  | succ n hlp6 =>
  intro x1 x2 S hf
  unfold f_X2_either_6 at hf
  refine g_aloadn hX 0 rfl rfl dX2_either_6 ?_
  refine pg_place hX (v := S.2 2) rfl dX2_either_7 ?_
  refine g_aloadn hX 0 rfl rfl dX2_either_10 ?_
  refine pg_end hX (v := S.2 1) rfl dX2_either_11 ?_
  refine g_icmp_ge hX 64 (by decide) dX2_either_14 (fun c4 => ?_) (fun c4 => ?_)
  · have hf := ite_t c4 hf
    refine g_iloadn hX 2 rfl rfl dX2_either_64 ?_
    obtain rfl := oi hf
    exact g_iret hX hq (by decide) (by decide) hp dX2_either_65
  · have hf := ite_f c4 hf
    refine g_aloadn hX 0 rfl rfl dX2_either_17 ?_
    refine pg_row hX dX2_either_18 ?_
    refine g_aloadn hX 0 rfl rfl dX2_either_21 ?_
    refine pg_place hX (v := S.2 2) rfl dX2_either_22 ?_
    obtain ⟨k5, jk5, ik5, hf⟩ := gix_open hf
    refine pl_row hX ik5 k5 jk5 dX2_either_25 ?_
    refine g_bipush hX (v := 124) (by decide) dX2_either_26 ?_
    refine g_icmp_ne hX 64 (by decide) dX2_either_28 (fun c6 => ?_) (fun c6 => ?_)
    · have hf := ite_f c6 hf
      refine g_iloadn hX 2 rfl rfl dX2_either_64 ?_
      obtain rfl := oi hf
      exact g_iret hX hq (by decide) (by decide) hp dX2_either_65
    · have hf := ite_t c6 hf
      refine g_aloadn hX 0 rfl rfl dX2_either_31 ?_
      refine g_dup hX rfl dX2_either_32 ?_
      refine pg_place hX (v := S.2 2) rfl dX2_either_33 ?_
      refine g_iconst hX (v := 1) (by decide) dX2_either_36 ?_
      refine g_iadd hX dX2_either_37 ?_
      obtain ⟨v7, ev7, hf⟩ := bI_open hf
      refine g_nm ev7 ?_
      refine pp_place hX dX2_either_38 ?_
      refine g_aloadn hX 0 rfl rfl dX2_either_41 ?_
      refine g_iloadn hX 1 rfl rfl dX2_either_42 ?_
      obtain ⟨r10, S8, h9, hf⟩ := cb_open hf
      refine k_X2_both hX hq (c_X2_both hi hdk hfr h9) (by omega) (by decide) (by decide) (Nat.le_of_ble_eq_true rfl) dX2_either_43 ?_
      refine g_istoren hX [(3, .int r10), (0, .ref (ad 0)), (1, .int x1), (2, .int x2)] rfl (by decide) rfl dX2_either_46 ?_
      refine g_iloadn hX 3 rfl rfl dX2_either_47 ?_
      refine g_if_ne hX 55 (by decide) dX2_either_48 (fun c11 => ?_) (fun c11 => ?_)
      · have hf := ite_f c11 hf
        refine g_lv [1, 2] rfl ?_
        exact t_X2_either_55 hi hdk hX hq hp hfr hlp6 _ _ hf
      · have hf := ite_t c11 hf
        refine g_iloadn hX 0 rfl rfl dX2_either_51 ?_
        refine g_if_eq hX 59 (by decide) dX2_either_52 (fun c12 => ?_) (fun c12 => ?_)
        · have hf := ite_t c12 hf
          refine g_iconst hX (v := 0) (by decide) dX2_either_59 ?_
          refine g_lv [1, 2] rfl ?_
          exact t_X2_either_60 hi hdk hX hq hp hfr hlp6 _ _ _ hf
        · have hf := ite_f c12 hf
          refine g_lv [1, 2] rfl ?_
          exact t_X2_either_55 hi hdk hX hq hp hfr hlp6 _ _ hf
set_option maxRecDepth 100000 in
set_option maxHeartbeats 4000000 in
theorem t_X2_either_0 {X : Cx} {ad : Nat → Nat} {i qt : Nat} {F : Nat → Int32} (hi : i < 4) {dk : Nat} (hdk : 12 ≤ dk) {PostX : Option Value → va_W → Prop} (hX : Ok X cX2_either 4 RX2) (hq : Rq X (dk + 5) 0 0 (some .int) PostX) {u : (Int32 × MS)} (hp : PostX (some (.int u.1)) (pW X.E ad i qt (ad 1) F u.2)) {fr : Int32 → MS → Option (Int32 × MS)} (hfr : ∀ (a1 : Int32) (S : MS) (r : Int32) (S2 : MS), fr a1 S = some (r, S2) → CP X.l X.E yX2_part cX2_part 4 (some .int) dk 0 0 [] [.ref (ad 0), .int a1] (pW X.E ad i qt (ad 1) F S) (fun rv w => rv = some (.int r) ∧ w = pW X.E ad i qt (ad 1) F S2)) (a1 : Int32) (S : MS) (hf : f_X2_either i F fr a1 S = some u) : G X 4 0 0 0 [(0, .ref (ad 0)), (1, .int a1)] [] (pW X.E ad i qt (ad 1) F S) := by
  unfold f_X2_either at hf
  refine g_aloadn hX 0 rfl rfl dX2_either_0 ?_
  refine g_iloadn hX 1 rfl rfl dX2_either_1 ?_
  obtain ⟨r3, S1, h2, hf⟩ := cb_open hf
  refine k_X2_both hX hq (c_X2_both hi hdk hfr h2) (by omega) (by decide) (by decide) (Nat.le_of_ble_eq_true rfl) dX2_either_2 ?_
  refine g_istoren hX [(2, .int r3), (0, .ref (ad 0)), (1, .int a1)] rfl (by decide) rfl dX2_either_5 ?_
  refine g_lv [1, 2, 0] rfl ?_
  exact t_X2_either_6 hi hdk hX hq hp hfr _ _ _ _ hf
theorem c_X2_either {l : Launch} {E : En} {ad : Nat → Nat} {i qt : Nat} {F : Nat → Int32} (hi : i < 4) {dk : Nat} (hdk : 12 ≤ dk) {fr : Int32 → MS → Option (Int32 × MS)} (hfr : ∀ (a1 : Int32) (S : MS) (r : Int32) (S2 : MS), fr a1 S = some (r, S2) → CP l E yX2_part cX2_part 4 (some .int) dk 0 0 [] [.ref (ad 0), .int a1] (pW E ad i qt (ad 1) F S) (fun rv w => rv = some (.int r) ∧ w = pW E ad i qt (ad 1) F S2)) {a1 : Int32} {r : Int32} {S S2 : MS} (hf : f_X2_either i F fr a1 S = some (r, S2)) : CP l E yX2_either cX2_either 4 (some .int) (dk + 5) 0 0 [] [.ref (ad 0), .int a1] (pW E ad i qt (ad 1) F S) (fun rv w => rv = some (.int r) ∧ w = pW E ad i qt (ad 1) F S2) :=
  CP.of (lv := [(0, .ref (ad 0)), (1, .int a1)]) (by decide +kernel) (Nat.le_of_ble_eq_true rfl) rfl (fun X hl hE hro hX hq hn => by subst hl; subst hE; exact t_X2_either_0 hi hdk hX hq ⟨rfl, rfl⟩ hfr a1 S hf)
theorem kw_RX2_X2_either : KwV RX2 74 RX2 yX2_either cX2_either 4 (some .int) 1 := ⟨mem_wsV wd_1_233 wd_1_235 wd_s_2 wd_1_3 wd_1_236, rfl, ⟨by decide +kernel, by decide +kernel, by decide +kernel⟩, by decide⟩
theorem k_X2_either {X : Cx} {cc : ByteArray} {nL ce sl pc : Nat} {lv : List (Nat × Value)} {st : List Value} {dX mcX msX : Nat} {retX : Option FieldType} {PostX : Option Value → va_W → Prop} {ad : Nat → Nat} {i qt : Nat} {F : Nat → Int32} {S S2 : MS} {d : Nat} (hX : Ok X cc nL RX2) (hq : Rq X dX mcX msX retX PostX) {a1 : Int32} {r : Int32} (hM : CP X.l X.E yX2_either cX2_either 4 (some .int) d 0 0 [] [.ref (ad 0), .int a1] (pW X.E ad i qt (ad 1) F S) (fun rv w => rv = some (.int r) ∧ w = pW X.E ad i qt (ad 1) F S2)) (hd : d < dX) (hc : ce ≤ mcX) (hs : sl ≤ msX) (hcat : (st.map fun v => v.category).sum ≤ 8) (hdg : decode cc pc = .ok (.invokevirtual 74, 3)) (kk : G X nL ce sl (pc + 3) lv (.int r :: st) (pW X.E ad i qt (ad 1) F S2)) : G X nL ce sl pc lv (.int a1 :: .ref (ad 0) :: st) (pW X.E ad i qt (ad 1) F S) :=
  g_eqW (app1 _) (g_callV (pre := []) (mid := pW X.E ad i qt (ad 1) F S) (post := []) [.int a1] hX hq kw_RX2_X2_either hM (fun _ h => absurd h List.not_mem_nil) hd hc hs rfl (Recv.of 0 2 rfl rfl) rfl hcat hdg (fun rv ws2 hp => by obtain ⟨rfl, rfl⟩ := hp; exact g_eqW (app1 _).symm kk))
def f_X2_part_131 (i : Nat) (F : Nat → Int32) (fr : Int32 → MS → Option (Int32 × MS)) (S : MS) : Option (Int32 × MS) :=
  cb (f_X2_fail i F S) fun r17 S15 =>
  some (r17, S15)
def f_X2_part_56 (i : Nat) (F : Nat → Int32) (fr : Int32 → MS → Option (Int32 × MS)) (x1 : Int32) (x2 : Int32) (S : MS) : Option (Int32 × MS) :=
  if (x1 < 5 : Prop) then
    bI ((S.2 2) + 1) fun v9 =>
    if (x2 = 33 : Prop) then
      cb (fr (x1 + 1) (sF S 2 v9)) fun r23 S21 =>
      if (r23 = 0 : Prop) then
        some (1, S21)
      else
        some (0, S21)
    else
      cb (f_X2_either i F fr (x1 + 1) (sF S 2 v9)) fun r13 S11 =>
      if ((S11.2 1) ≤ (S11.2 2) : Prop) then
        f_X2_part_131 i F fr S11
      else
        gix (S11.2 2) 50 fun k18 =>
        if ((F k18) = 41 : Prop) then
          bI ((S11.2 2) + 1) fun v20 =>
          some (r13, (sF S11 2 v20))
        else
          f_X2_part_131 i F fr S11
  else
    cb (f_X2_fail i F S) fun r27 S25 =>
    some (r27, S25)
def f_X2_part (i : Nat) (F : Nat → Int32) (fr : Int32 → MS → Option (Int32 × MS)) (a1 : Int32) (S : MS) : Option (Int32 × MS) :=
  if ((S.2 2) < (S.2 1) : Prop) then
    gix (S.2 2) 50 fun k2 =>
    bI (F k2) fun v3 =>
    cs (f_X2_isDigit v3) fun r4 =>
    if (r4 = 0 : Prop) then
      if (v3 = 33 : Prop) then
        f_X2_part_56 i F fr a1 v3 S
      else
        if (v3 = 40 : Prop) then
          f_X2_part_56 i F fr a1 v3 S
        else
          cb (f_X2_name i F v3 S) fun r31 S29 =>
          some (r31, S29)
    else
      cb (f_X2_number i F S) fun r34 S32 =>
      some (r34, S32)
  else
    cb (f_X2_fail i F S) fun r37 S35 =>
    some (r37, S35)
set_option maxRecDepth 100000 in
set_option maxHeartbeats 4000000 in
theorem t_X2_part_131 {X : Cx} {ad : Nat → Nat} {i qt : Nat} {F : Nat → Int32} (hi : i < 4) {dk : Nat} (hdk : 12 ≤ dk) {PostX : Option Value → va_W → Prop} (hX : Ok X cX2_part 4 RX2) (hq : Rq X (dk + 6) 0 0 (some .int) PostX) {u : (Int32 × MS)} (hp : PostX (some (.int u.1)) (pW X.E ad i qt (ad 1) F u.2)) {fr : Int32 → MS → Option (Int32 × MS)} (hfr : ∀ (a1 : Int32) (S : MS) (r : Int32) (S2 : MS), fr a1 S = some (r, S2) → CP X.l X.E yX2_part cX2_part 4 (some .int) dk 0 0 [] [.ref (ad 0), .int a1] (pW X.E ad i qt (ad 1) F S) (fun rv w => rv = some (.int r) ∧ w = pW X.E ad i qt (ad 1) F S2)) (S : MS) (hf : f_X2_part_131 i F fr S = some u) : G X 4 0 0 131 [(0, .ref (ad 0))] [] (pW X.E ad i qt (ad 1) F S) := by
  unfold f_X2_part_131 at hf
  refine g_aloadn hX 0 rfl rfl dX2_part_131 ?_
  obtain ⟨r17, S15, h16, hf⟩ := cb_open hf
  refine k_X2_fail hX hq (c_X2_fail hi h16) (by omega) (by decide) (by decide) (Nat.le_of_ble_eq_true rfl) dX2_part_132 ?_
  obtain rfl := oi hf
  exact g_iret hX hq (by decide) (by decide) hp dX2_part_135
set_option maxRecDepth 100000 in
set_option maxHeartbeats 4000000 in
theorem t_X2_part_56 {X : Cx} {ad : Nat → Nat} {i qt : Nat} {F : Nat → Int32} (hi : i < 4) {dk : Nat} (hdk : 12 ≤ dk) {PostX : Option Value → va_W → Prop} (hX : Ok X cX2_part 4 RX2) (hq : Rq X (dk + 6) 0 0 (some .int) PostX) {u : (Int32 × MS)} (hp : PostX (some (.int u.1)) (pW X.E ad i qt (ad 1) F u.2)) {fr : Int32 → MS → Option (Int32 × MS)} (hfr : ∀ (a1 : Int32) (S : MS) (r : Int32) (S2 : MS), fr a1 S = some (r, S2) → CP X.l X.E yX2_part cX2_part 4 (some .int) dk 0 0 [] [.ref (ad 0), .int a1] (pW X.E ad i qt (ad 1) F S) (fun rv w => rv = some (.int r) ∧ w = pW X.E ad i qt (ad 1) F S2)) (x1 : Int32) (x2 : Int32) (S : MS) (hf : f_X2_part_56 i F fr x1 x2 S = some u) : G X 4 0 0 56 [(0, .ref (ad 0)), (1, .int x1), (2, .int x2)] [] (pW X.E ad i qt (ad 1) F S) := by
  unfold f_X2_part_56 at hf
  refine g_iloadn hX 1 rfl rfl dX2_part_56 ?_
  refine g_iconst hX (v := 5) (by decide) dX2_part_57 ?_
  refine g_icmp_lt hX 66 (by decide) dX2_part_58 (fun c8 => ?_) (fun c8 => ?_)
  · have hf := ite_t c8 hf
    refine g_aloadn hX 0 rfl rfl dX2_part_66 ?_
    refine g_dup hX rfl dX2_part_67 ?_
    refine pg_place hX (v := S.2 2) rfl dX2_part_68 ?_
    refine g_iconst hX (v := 1) (by decide) dX2_part_71 ?_
    refine g_iadd hX dX2_part_72 ?_
    obtain ⟨v9, ev9, hf⟩ := bI_open hf
    refine g_nm ev9 ?_
    refine pp_place hX dX2_part_73 ?_
    refine g_iloadn hX 2 rfl rfl dX2_part_76 ?_
    refine g_bipush hX (v := 33) (by decide) dX2_part_77 ?_
    refine g_icmp_ne hX 98 (by decide) dX2_part_79 (fun c10 => ?_) (fun c10 => ?_)
    · have hf := ite_f c10 hf
      refine g_aloadn hX 0 rfl rfl dX2_part_98 ?_
      refine g_iloadn hX 1 rfl rfl dX2_part_99 ?_
      refine g_iconst hX (v := 1) (by decide) dX2_part_100 ?_
      refine g_iadd hX dX2_part_101 ?_
      obtain ⟨r13, S11, h12, hf⟩ := cb_open hf
      refine k_X2_either hX hq (c_X2_either hi hdk hfr h12) (by omega) (by decide) (by decide) (Nat.le_of_ble_eq_true rfl) dX2_part_102 ?_
      refine g_istoren hX [(3, .int r13), (0, .ref (ad 0)), (1, .int x1), (2, .int x2)] rfl (by decide) rfl dX2_part_105 ?_
      refine g_aloadn hX 1 rfl rfl dX2_part_106 ?_
      refine pg_place hX (v := S11.2 2) rfl dX2_part_107 ?_
      refine g_aloadn hX 1 rfl rfl dX2_part_110 ?_
      refine pg_end hX (v := S11.2 1) rfl dX2_part_111 ?_
      refine g_icmp_ge hX 131 (by decide) dX2_part_114 (fun c14 => ?_) (fun c14 => ?_)
      · have hf := ite_t c14 hf
        refine g_lv [1] rfl ?_
        exact t_X2_part_131 hi hdk hX hq hp hfr _ hf
      · have hf := ite_f c14 hf
        refine g_aloadn hX 1 rfl rfl dX2_part_117 ?_
        refine pg_row hX dX2_part_118 ?_
        refine g_aloadn hX 1 rfl rfl dX2_part_121 ?_
        refine pg_place hX (v := S11.2 2) rfl dX2_part_122 ?_
        obtain ⟨k18, jk18, ik18, hf⟩ := gix_open hf
        refine pl_row hX ik18 k18 jk18 dX2_part_125 ?_
        refine g_bipush hX (v := 41) (by decide) dX2_part_126 ?_
        refine g_icmp_eq hX 136 (by decide) dX2_part_128 (fun c19 => ?_) (fun c19 => ?_)
        · have hf := ite_t c19 hf
          refine g_aloadn hX 1 rfl rfl dX2_part_136 ?_
          refine g_dup hX rfl dX2_part_137 ?_
          refine pg_place hX (v := S11.2 2) rfl dX2_part_138 ?_
          refine g_iconst hX (v := 1) (by decide) dX2_part_141 ?_
          refine g_iadd hX dX2_part_142 ?_
          obtain ⟨v20, ev20, hf⟩ := bI_open hf
          refine g_nm ev20 ?_
          refine pp_place hX dX2_part_143 ?_
          refine g_iloadn hX 0 rfl rfl dX2_part_146 ?_
          obtain rfl := oi hf
          exact g_iret hX hq (by decide) (by decide) hp dX2_part_147
        · have hf := ite_f c19 hf
          refine g_lv [1] rfl ?_
          exact t_X2_part_131 hi hdk hX hq hp hfr _ hf
    · have hf := ite_t c10 hf
      refine g_aloadn hX 0 rfl rfl dX2_part_82 ?_
      refine g_iloadn hX 1 rfl rfl dX2_part_83 ?_
      refine g_iconst hX (v := 1) (by decide) dX2_part_84 ?_
      refine g_iadd hX dX2_part_85 ?_
      obtain ⟨r23, S21, h22, hf⟩ := cb_open hf
      refine k_X2_part hX hq (hfr _ _ _ _ h22) (by omega) (by decide) (by decide) (Nat.le_of_ble_eq_true rfl) dX2_part_86 ?_
      refine g_if_ne hX 96 (by decide) dX2_part_89 (fun c24 => ?_) (fun c24 => ?_)
      · have hf := ite_f c24 hf
        refine g_iconst hX (v := 0) (by decide) dX2_part_96 ?_
        obtain rfl := oi hf
        exact g_iret hX hq (by decide) (by decide) hp dX2_part_97
      · have hf := ite_t c24 hf
        refine g_iconst hX (v := 1) (by decide) dX2_part_92 ?_
        refine g_goto hX 97 (by decide) dX2_part_93 ?_
        obtain rfl := oi hf
        exact g_iret hX hq (by decide) (by decide) hp dX2_part_97
  · have hf := ite_f c8 hf
    refine g_aloadn hX 0 rfl rfl dX2_part_61 ?_
    obtain ⟨r27, S25, h26, hf⟩ := cb_open hf
    refine k_X2_fail hX hq (c_X2_fail hi h26) (by omega) (by decide) (by decide) (Nat.le_of_ble_eq_true rfl) dX2_part_62 ?_
    obtain rfl := oi hf
    exact g_iret hX hq (by decide) (by decide) hp dX2_part_65
set_option maxRecDepth 100000 in
set_option maxHeartbeats 4000000 in
theorem t_X2_part_0 {X : Cx} {ad : Nat → Nat} {i qt : Nat} {F : Nat → Int32} (hi : i < 4) {dk : Nat} (hdk : 12 ≤ dk) {PostX : Option Value → va_W → Prop} (hX : Ok X cX2_part 4 RX2) (hq : Rq X (dk + 6) 0 0 (some .int) PostX) {u : (Int32 × MS)} (hp : PostX (some (.int u.1)) (pW X.E ad i qt (ad 1) F u.2)) {fr : Int32 → MS → Option (Int32 × MS)} (hfr : ∀ (a1 : Int32) (S : MS) (r : Int32) (S2 : MS), fr a1 S = some (r, S2) → CP X.l X.E yX2_part cX2_part 4 (some .int) dk 0 0 [] [.ref (ad 0), .int a1] (pW X.E ad i qt (ad 1) F S) (fun rv w => rv = some (.int r) ∧ w = pW X.E ad i qt (ad 1) F S2)) (a1 : Int32) (S : MS) (hf : f_X2_part i F fr a1 S = some u) : G X 4 0 0 0 [(0, .ref (ad 0)), (1, .int a1)] [] (pW X.E ad i qt (ad 1) F S) := by
  unfold f_X2_part at hf
  refine g_aloadn hX 0 rfl rfl dX2_part_0 ?_
  refine pg_place hX (v := S.2 2) rfl dX2_part_1 ?_
  refine g_aloadn hX 0 rfl rfl dX2_part_4 ?_
  refine pg_end hX (v := S.2 1) rfl dX2_part_5 ?_
  refine g_icmp_lt hX 16 (by decide) dX2_part_8 (fun c1 => ?_) (fun c1 => ?_)
  · have hf := ite_t c1 hf
    refine g_aloadn hX 0 rfl rfl dX2_part_16 ?_
    refine pg_row hX dX2_part_17 ?_
    refine g_aloadn hX 0 rfl rfl dX2_part_20 ?_
    refine pg_place hX (v := S.2 2) rfl dX2_part_21 ?_
    obtain ⟨k2, jk2, ik2, hf⟩ := gix_open hf
    refine pl_row hX ik2 k2 jk2 dX2_part_24 ?_
    obtain ⟨v3, ev3, hf⟩ := bI_open hf
    refine g_nm ev3 ?_
    refine g_istoren hX [(2, .int v3), (0, .ref (ad 0)), (1, .int a1)] rfl (by decide) rfl dX2_part_25 ?_
    refine g_iloadn hX 0 rfl rfl dX2_part_26 ?_
    obtain ⟨r4, h5, hf⟩ := cs_open hf
    refine k_RX2_X2_isDigit hX hq h5 (by omega) (by decide) (by decide) (Nat.le_of_ble_eq_true rfl) dX2_part_27 ?_
    refine g_if_eq hX 38 (by decide) dX2_part_30 (fun c6 => ?_) (fun c6 => ?_)
    · have hf := ite_t c6 hf
      refine g_iloadn hX 0 rfl rfl dX2_part_38 ?_
      refine g_bipush hX (v := 33) (by decide) dX2_part_39 ?_
      refine g_icmp_eq hX 56 (by decide) dX2_part_41 (fun c7 => ?_) (fun c7 => ?_)
      · have hf := ite_t c7 hf
        refine g_lv [1, 2, 0] rfl ?_
        exact t_X2_part_56 hi hdk hX hq hp hfr _ _ _ hf
      · have hf := ite_f c7 hf
        refine g_iloadn hX 0 rfl rfl dX2_part_44 ?_
        refine g_bipush hX (v := 40) (by decide) dX2_part_45 ?_
        refine g_icmp_eq hX 56 (by decide) dX2_part_47 (fun c28 => ?_) (fun c28 => ?_)
        · have hf := ite_t c28 hf
          refine g_lv [1, 2, 0] rfl ?_
          exact t_X2_part_56 hi hdk hX hq hp hfr _ _ _ hf
        · have hf := ite_f c28 hf
          refine g_aloadn hX 1 rfl rfl dX2_part_50 ?_
          refine g_iloadn hX 0 rfl rfl dX2_part_51 ?_
          obtain ⟨r31, S29, h30, hf⟩ := cb_open hf
          refine k_X2_name hX hq (c_X2_name hi h30) (by omega) (by decide) (by decide) (Nat.le_of_ble_eq_true rfl) dX2_part_52 ?_
          obtain rfl := oi hf
          exact g_iret hX hq (by decide) (by decide) hp dX2_part_55
    · have hf := ite_f c6 hf
      refine g_aloadn hX 1 rfl rfl dX2_part_33 ?_
      obtain ⟨r34, S32, h33, hf⟩ := cb_open hf
      refine k_X2_number hX hq (c_X2_number hi h33) (by omega) (by decide) (by decide) (Nat.le_of_ble_eq_true rfl) dX2_part_34 ?_
      obtain rfl := oi hf
      exact g_iret hX hq (by decide) (by decide) hp dX2_part_37
  · have hf := ite_f c1 hf
    refine g_aloadn hX 0 rfl rfl dX2_part_11 ?_
    obtain ⟨r37, S35, h36, hf⟩ := cb_open hf
    refine k_X2_fail hX hq (c_X2_fail hi h36) (by omega) (by decide) (by decide) (Nat.le_of_ble_eq_true rfl) dX2_part_12 ?_
    obtain rfl := oi hf
    exact g_iret hX hq (by decide) (by decide) hp dX2_part_15
theorem c_X2_part {l : Launch} {E : En} {ad : Nat → Nat} {i qt : Nat} {F : Nat → Int32} (hi : i < 4) {dk : Nat} (hdk : 12 ≤ dk) {fr : Int32 → MS → Option (Int32 × MS)} (hfr : ∀ (a1 : Int32) (S : MS) (r : Int32) (S2 : MS), fr a1 S = some (r, S2) → CP l E yX2_part cX2_part 4 (some .int) dk 0 0 [] [.ref (ad 0), .int a1] (pW E ad i qt (ad 1) F S) (fun rv w => rv = some (.int r) ∧ w = pW E ad i qt (ad 1) F S2)) {a1 : Int32} {r : Int32} {S S2 : MS} (hf : f_X2_part i F fr a1 S = some (r, S2)) : CP l E yX2_part cX2_part 4 (some .int) (dk + 6) 0 0 [] [.ref (ad 0), .int a1] (pW E ad i qt (ad 1) F S) (fun rv w => rv = some (.int r) ∧ w = pW E ad i qt (ad 1) F S2) :=
  CP.of (lv := [(0, .ref (ad 0)), (1, .int a1)]) (by decide +kernel) (Nat.le_of_ble_eq_true rfl) rfl (fun X hl hE hro hX hq hn => by subst hl; subst hE; exact t_X2_part_0 hi hdk hX hq ⟨rfl, rfl⟩ hfr a1 S hf)
def fr_X2_part (i : Nat) (F : Nat → Int32) : Nat → Int32 → MS → Option (Int32 × MS)
  | 0 => fun _ _ => none
  | n + 1 => f_X2_part i F (fr_X2_part i F n)
theorem cr_X2_part {l : Launch} {E : En} {ad : Nat → Nat} {i qt : Nat} {F : Nat → Int32} (hi : i < 4) : ∀ (n : Nat) (a1 : Int32) (S : MS) (r : Int32) (S2 : MS), fr_X2_part i F n a1 S = some (r, S2) → CP l E yX2_part cX2_part 4 (some .int) (12 + n * 6) 0 0 [] [.ref (ad 0), .int a1] (pW E ad i qt (ad 1) F S) (fun rv w => rv = some (.int r) ∧ w = pW E ad i qt (ad 1) F S2) := by
  intro n
  induction n with
  | zero => intro a1 S r S2 hf; cases hf
  | succ n ih =>
    intro a1 S r S2 hf
    have h := c_X2_part hi (l := l) (E := E) (ad := ad) (dk := 12 + n * 6) (by omega) (fun a1 S r S2 h => ih a1 S r S2 h) hf
    have e : 12 + n * 6 + 6 = 12 + (n + 1) * 6 := by omega
    rw [e] at h
    exact h
def f_X2_read (i : Nat) (F : Nat → Int32) (a2 : Int32) (S : MS) : Option (Int32 × MS) :=
  bI (jmin a2 50) fun v1 =>
  cb (f_X2_either i F (fr_X2_part i F 8) 0 (sF (sF (sF S 1 v1) 2 0) 3 0)) fun r4 S2 =>
  if ((S2.2 1) ≤ (S2.2 2) : Prop) then
    some (r4, S2)
  else
    cb (f_X2_fail i F S2) fun r8 S6 =>
    some (r8, S6)
set_option maxRecDepth 100000 in
set_option maxHeartbeats 4000000 in
theorem t_X2_read_0 {X : Cx} {ad : Nat → Nat} {i qt : Nat} {F : Nat → Int32} (hi : i < 4) {q0 : Nat} {PostX : Option Value → va_W → Prop} (hX : Ok X cX2_read 4 RX2) (hq : Rq X 66 0 0 (some .int) PostX) {u : (Int32 × MS)} (hp : PostX (some (.int u.1)) (pW X.E ad i qt (ad 1) F u.2)) (a2 : Int32) (S : MS) (hf : f_X2_read i F a2 S = some u) : G X 4 0 0 0 [(0, .ref (ad 0)), (1, .ref (ad 1)), (2, .int a2)] [] (pW X.E ad i qt q0 F S) := by
  unfold f_X2_read at hf
  refine g_aloadn hX 0 rfl rfl dX2_read_0 ?_
  refine g_aloadn hX 1 rfl rfl dX2_read_1 ?_
  refine pp_row hX dX2_read_2 ?_
  refine g_aloadn hX 0 rfl rfl dX2_read_5 ?_
  refine g_iloadn hX 2 rfl rfl dX2_read_6 ?_
  refine g_aloadn hX 1 rfl rfl dX2_read_7 ?_
  refine pl_len hX dX2_read_8 ?_
  refine g_jmin hX hq km_RX2_min (by decide) (by decide) (by decide) (Nat.le_of_ble_eq_true rfl) dX2_read_9 ?_
  obtain ⟨v1, ev1, hf⟩ := bI_open hf
  refine g_nm ev1 ?_
  refine pp_end hX dX2_read_12 ?_
  refine g_aloadn hX 0 rfl rfl dX2_read_15 ?_
  refine g_iconst hX (v := 0) (by decide) dX2_read_16 ?_
  refine pp_place hX dX2_read_17 ?_
  refine g_aloadn hX 0 rfl rfl dX2_read_20 ?_
  refine g_iconst hX (v := 0) (by decide) dX2_read_21 ?_
  refine pp_faulty hX (by decide) dX2_read_22 ?_
  refine g_aloadn hX 0 rfl rfl dX2_read_25 ?_
  refine g_iconst hX (v := 0) (by decide) dX2_read_26 ?_
  obtain ⟨r4, S2, h3, hf⟩ := cb_open hf
  refine k_X2_either hX hq (c_X2_either hi (dk := 60) (by decide) (cr_X2_part hi 8) h3) (by decide) (by decide) (by decide) (Nat.le_of_ble_eq_true rfl) dX2_read_27 ?_
  refine g_istoren hX [(3, .int r4), (0, .ref (ad 0)), (1, .ref (ad 1)), (2, .int a2)] rfl (by decide) rfl dX2_read_30 ?_
  refine g_aloadn hX 1 rfl rfl dX2_read_31 ?_
  refine pg_place hX (v := S2.2 2) rfl dX2_read_32 ?_
  refine g_aloadn hX 1 rfl rfl dX2_read_35 ?_
  refine pg_end hX (v := S2.2 1) rfl dX2_read_36 ?_
  refine g_icmp_ge hX 49 (by decide) dX2_read_39 (fun c5 => ?_) (fun c5 => ?_)
  · have hf := ite_t c5 hf
    refine g_iloadn hX 0 rfl rfl dX2_read_49 ?_
    obtain rfl := oi hf
    exact g_iret hX hq (by decide) (by decide) hp dX2_read_50
  · have hf := ite_f c5 hf
    refine g_aloadn hX 1 rfl rfl dX2_read_42 ?_
    obtain ⟨r8, S6, h7, hf⟩ := cb_open hf
    refine k_X2_fail hX hq (c_X2_fail hi h7) (by decide) (by decide) (by decide) (Nat.le_of_ble_eq_true rfl) dX2_read_43 ?_
    refine g_goto hX 50 (by decide) dX2_read_46 ?_
    obtain rfl := oi hf
    exact g_iret hX hq (by decide) (by decide) hp dX2_read_50
theorem c_X2_read {l : Launch} {E : En} {ad : Nat → Nat} {i qt q0 : Nat} {F : Nat → Int32} (hi : i < 4) {a2 r : Int32} {S S2 : MS} (hf : f_X2_read i F a2 S = some (r, S2)) : CP l E yX2_read cX2_read 4 (some .int) 66 0 0 [] [.ref (ad 0), .ref (ad 1), .int a2] (pW E ad i qt q0 F S) (fun rv w => rv = some (.int r) ∧ w = pW E ad i qt (ad 1) F S2) :=
  CP.of (lv := [(0, .ref (ad 0)), (1, .ref (ad 1)), (2, .int a2)]) (by decide +kernel) (Nat.le_of_ble_eq_true rfl) rfl (fun X hl hE hro hX hq hn => by subst hl; subst hE; exact t_X2_read_0 hi hX hq ⟨rfl, rfl⟩ a2 S hf)
theorem kw_RX2_X2_read : KwV RX2 66 RX2 yX2_read cX2_read 4 (some .int) 2 := ⟨mem_wsV wd_1_229 wd_1_231 wd_s_1 wd_1_3 wd_1_232, rfl, ⟨by decide +kernel, by decide +kernel, by decide +kernel⟩, by decide⟩

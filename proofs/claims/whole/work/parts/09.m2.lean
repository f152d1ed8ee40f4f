theorem kw_RX12_X12_moveAll : KwV RX12 180 RX12 yX12_moveAll cX12_moveAll 4 none 2 := ⟨mem_wsV wd_5_228 wd_5_230 wd_s_40 wd_1_19 wd_5_231, rfl, ⟨by decide +kernel, by decide +kernel, by decide +kernel⟩, by decide⟩
theorem k_moveAll_1_3 {X : Cx} {cc : ByteArray} {nL ce sl pc : Nat} {lv : List (Nat × Value)} {st : List Value} {dX mcX msX : Nat} {retX : Option FieldType} {PostX : Option Value → va_W → Prop} {ad : Nat → Nat} {S : MS} (hX : Ok X cc nL RX12) (hq : Rq X dX mcX msX retX PostX) (hd : 0 < dX) (hc : ce ≤ mcX) (hs : sl ≤ msX) (hcat : (st.map fun v => v.category).sum ≤ 8) (hdg : decode cc pc = .ok (.invokevirtual 180, 3)) (kk : G X nL ce sl (pc + 3) lv st (mW X.E ad (sM S 1 3))) : G X nL ce sl pc lv (.ref (ad 3) :: .ref (ad 1) :: .ref (ad 0) :: st) (mW X.E ad S) :=
  g_eqW (app1 _) (g_callV (pre := []) (mid := mW X.E ad S) (post := []) [.ref (ad 1), .ref (ad 3)] hX hq kw_RX12_X12_moveAll (c_X12_moveAll (a := 1) (b := 3) (by decide) (by decide) (by decide)) (fun _ h => absurd h List.not_mem_nil) hd hc hs rfl (Recv.of 0 12 rfl rfl) rfl hcat hdg (fun rv ws2 hp => by obtain ⟨rfl, rfl⟩ := hp; exact g_eqW (app1 _).symm kk))
theorem k_moveAll_3_1 {X : Cx} {cc : ByteArray} {nL ce sl pc : Nat} {lv : List (Nat × Value)} {st : List Value} {dX mcX msX : Nat} {retX : Option FieldType} {PostX : Option Value → va_W → Prop} {ad : Nat → Nat} {S : MS} (hX : Ok X cc nL RX12) (hq : Rq X dX mcX msX retX PostX) (hd : 0 < dX) (hc : ce ≤ mcX) (hs : sl ≤ msX) (hcat : (st.map fun v => v.category).sum ≤ 8) (hdg : decode cc pc = .ok (.invokevirtual 180, 3)) (kk : G X nL ce sl (pc + 3) lv st (mW X.E ad (sM S 3 1))) : G X nL ce sl pc lv (.ref (ad 1) :: .ref (ad 3) :: .ref (ad 0) :: st) (mW X.E ad S) :=
  g_eqW (app1 _) (g_callV (pre := []) (mid := mW X.E ad S) (post := []) [.ref (ad 3), .ref (ad 1)] hX hq kw_RX12_X12_moveAll (c_X12_moveAll (a := 3) (b := 1) (by decide) (by decide) (by decide)) (fun _ h => absurd h List.not_mem_nil) hd hc hs rfl (Recv.of 0 12 rfl rfl) rfl hcat hdg (fun rv ws2 hp => by obtain ⟨rfl, rfl⟩ := hp; exact g_eqW (app1 _).symm kk))
theorem k_moveAll_1_4 {X : Cx} {cc : ByteArray} {nL ce sl pc : Nat} {lv : List (Nat × Value)} {st : List Value} {dX mcX msX : Nat} {retX : Option FieldType} {PostX : Option Value → va_W → Prop} {ad : Nat → Nat} {S : MS} (hX : Ok X cc nL RX12) (hq : Rq X dX mcX msX retX PostX) (hd : 0 < dX) (hc : ce ≤ mcX) (hs : sl ≤ msX) (hcat : (st.map fun v => v.category).sum ≤ 8) (hdg : decode cc pc = .ok (.invokevirtual 180, 3)) (kk : G X nL ce sl (pc + 3) lv st (mW X.E ad (sM S 1 4))) : G X nL ce sl pc lv (.ref (ad 4) :: .ref (ad 1) :: .ref (ad 0) :: st) (mW X.E ad S) :=
  g_eqW (app1 _) (g_callV (pre := []) (mid := mW X.E ad S) (post := []) [.ref (ad 1), .ref (ad 4)] hX hq kw_RX12_X12_moveAll (c_X12_moveAll (a := 1) (b := 4) (by decide) (by decide) (by decide)) (fun _ h => absurd h List.not_mem_nil) hd hc hs rfl (Recv.of 0 12 rfl rfl) rfl hcat hdg (fun rv ws2 hp => by obtain ⟨rfl, rfl⟩ := hp; exact g_eqW (app1 _).symm kk))
theorem k_moveAll_4_1 {X : Cx} {cc : ByteArray} {nL ce sl pc : Nat} {lv : List (Nat × Value)} {st : List Value} {dX mcX msX : Nat} {retX : Option FieldType} {PostX : Option Value → va_W → Prop} {ad : Nat → Nat} {S : MS} (hX : Ok X cc nL RX12) (hq : Rq X dX mcX msX retX PostX) (hd : 0 < dX) (hc : ce ≤ mcX) (hs : sl ≤ msX) (hcat : (st.map fun v => v.category).sum ≤ 8) (hdg : decode cc pc = .ok (.invokevirtual 180, 3)) (kk : G X nL ce sl (pc + 3) lv st (mW X.E ad (sM S 4 1))) : G X nL ce sl pc lv (.ref (ad 1) :: .ref (ad 4) :: .ref (ad 0) :: st) (mW X.E ad S) :=
  g_eqW (app1 _) (g_callV (pre := []) (mid := mW X.E ad S) (post := []) [.ref (ad 4), .ref (ad 1)] hX hq kw_RX12_X12_moveAll (c_X12_moveAll (a := 4) (b := 1) (by decide) (by decide) (by decide)) (fun _ h => absurd h List.not_mem_nil) hd hc hs rfl (Recv.of 0 12 rfl rfl) rfl hcat hdg (fun rv ws2 hp => by obtain ⟨rfl, rfl⟩ := hp; exact g_eqW (app1 _).symm kk))
theorem k_moveAll_1_2 {X : Cx} {cc : ByteArray} {nL ce sl pc : Nat} {lv : List (Nat × Value)} {st : List Value} {dX mcX msX : Nat} {retX : Option FieldType} {PostX : Option Value → va_W → Prop} {ad : Nat → Nat} {S : MS} (hX : Ok X cc nL RX12) (hq : Rq X dX mcX msX retX PostX) (hd : 0 < dX) (hc : ce ≤ mcX) (hs : sl ≤ msX) (hcat : (st.map fun v => v.category).sum ≤ 8) (hdg : decode cc pc = .ok (.invokevirtual 180, 3)) (kk : G X nL ce sl (pc + 3) lv st (mW X.E ad (sM S 1 2))) : G X nL ce sl pc lv (.ref (ad 2) :: .ref (ad 1) :: .ref (ad 0) :: st) (mW X.E ad S) :=
  g_eqW (app1 _) (g_callV (pre := []) (mid := mW X.E ad S) (post := []) [.ref (ad 1), .ref (ad 2)] hX hq kw_RX12_X12_moveAll (c_X12_moveAll (a := 1) (b := 2) (by decide) (by decide) (by decide)) (fun _ h => absurd h List.not_mem_nil) hd hc hs rfl (Recv.of 0 12 rfl rfl) rfl hcat hdg (fun rv ws2 hp => by obtain ⟨rfl, rfl⟩ := hp; exact g_eqW (app1 _).symm kk))
theorem k_moveAll_2_1 {X : Cx} {cc : ByteArray} {nL ce sl pc : Nat} {lv : List (Nat × Value)} {st : List Value} {dX mcX msX : Nat} {retX : Option FieldType} {PostX : Option Value → va_W → Prop} {ad : Nat → Nat} {S : MS} (hX : Ok X cc nL RX12) (hq : Rq X dX mcX msX retX PostX) (hd : 0 < dX) (hc : ce ≤ mcX) (hs : sl ≤ msX) (hcat : (st.map fun v => v.category).sum ≤ 8) (hdg : decode cc pc = .ok (.invokevirtual 180, 3)) (kk : G X nL ce sl (pc + 3) lv st (mW X.E ad (sM S 2 1))) : G X nL ce sl pc lv (.ref (ad 1) :: .ref (ad 2) :: .ref (ad 0) :: st) (mW X.E ad S) :=
  g_eqW (app1 _) (g_callV (pre := []) (mid := mW X.E ad S) (post := []) [.ref (ad 2), .ref (ad 1)] hX hq kw_RX12_X12_moveAll (c_X12_moveAll (a := 2) (b := 1) (by decide) (by decide) (by decide)) (fun _ h => absurd h List.not_mem_nil) hd hc hs rfl (Recv.of 0 12 rfl rfl) rfl hcat hdg (fun rv ws2 hp => by obtain ⟨rfl, rfl⟩ := hp; exact g_eqW (app1 _).symm kk))
def f_X12_hear_16 (S : MS) : Option (Int32 × MS) :=
  cb (f_X12_errs (-1000000001) S) fun r6 S4 =>
  some (r6, S4)
def f_X12_hear (a1 : Int32) (a2 : Int32) (S : MS) : Option (Int32 × MS) :=
  cs (f_X12_isFact a1) fun r1 =>
  if (r1 = 0 : Prop) then
    f_X12_hear_16 S
  else
    cs (f_X12_in a2 0 2) fun r7 =>
    if (r7 = 0 : Prop) then
      f_X12_hear_16 S
    else
      gix (10 + a1) 206 fun k10 =>
      bI (S.1 1 k10) fun v11 =>
      gix (10 + a1) 206 fun k12 =>
      some (v11, (sA S 1 k12 a2))
set_option maxRecDepth 100000 in
set_option maxHeartbeats 4000000 in
theorem t_X12_hear_16 {X : Cx} {ad : Nat → Nat} {PostX : Option Value → va_W → Prop} (hX : Ok X cX12_hear 4 RX12) (hq : Rq X 2 0 0 (some .int) PostX) {u : (Int32 × MS)} (hp : PostX (some (.int u.1)) (mW X.E ad u.2)) (S : MS) (hf : f_X12_hear_16 S = some u) : G X 4 0 0 16 [(0, .ref (ad 0))] [] (mW X.E ad S) := by
  unfold f_X12_hear_16 at hf
  refine g_aloadn hX 0 rfl rfl dX12_hear_16 ?_
  refine g_ldc hX (v := (-1000000001)) wd_5_74 dX12_hear_17 ?_
  obtain ⟨r6, S4, h5, hf⟩ := cb_open hf
  refine k_X12_errs hX hq (c_X12_errs h5) (by decide) (by decide) (by decide) (Nat.le_of_ble_eq_true rfl) dX12_hear_19 ?_
  obtain rfl := oi hf
  exact g_iret hX hq (by decide) (by decide) hp dX12_hear_22
set_option maxRecDepth 100000 in
set_option maxHeartbeats 4000000 in
theorem t_X12_hear_0 {X : Cx} {ad : Nat → Nat} {PostX : Option Value → va_W → Prop} (hX : Ok X cX12_hear 4 RX12) (hq : Rq X 2 0 0 (some .int) PostX) {u : (Int32 × MS)} (hp : PostX (some (.int u.1)) (mW X.E ad u.2)) (a1 : Int32) (a2 : Int32) (S : MS) (hf : f_X12_hear a1 a2 S = some u) : G X 4 0 0 0 [(0, .ref (ad 0)), (1, .int a1), (2, .int a2)] [] (mW X.E ad S) := by
  unfold f_X12_hear at hf
  refine g_iloadn hX 1 rfl rfl dX12_hear_0 ?_
  obtain ⟨r1, h2, hf⟩ := cs_open hf
  refine k_RX12_X12_isFact hX hq h2 (by decide) (by decide) (by decide) (Nat.le_of_ble_eq_true rfl) dX12_hear_1 ?_
  refine g_if_eq hX 16 (by decide) dX12_hear_4 (fun c3 => ?_) (fun c3 => ?_)
  · have hf := ite_t c3 hf
    refine g_lv [0] rfl ?_
    exact t_X12_hear_16 hX hq hp _ hf
  · have hf := ite_f c3 hf
    refine g_iloadn hX 2 rfl rfl dX12_hear_7 ?_
    refine g_iconst hX (v := 0) (by decide) dX12_hear_8 ?_
    refine g_iconst hX (v := 2) (by decide) dX12_hear_9 ?_
    obtain ⟨r7, h8, hf⟩ := cs_open hf
    refine k_RX12_X12_in hX hq h8 (by decide) (by decide) (by decide) (Nat.le_of_ble_eq_true rfl) dX12_hear_10 ?_
    refine g_if_ne hX 23 (by decide) dX12_hear_13 (fun c9 => ?_) (fun c9 => ?_)
    · have hf := ite_f c9 hf
      refine g_aloadn hX 0 rfl rfl dX12_hear_23 ?_
      refine mg_row hX dX12_hear_24 ?_
      refine g_bipush hX (v := 10) (by decide) dX12_hear_27 ?_
      refine g_iloadn hX 1 rfl rfl dX12_hear_29 ?_
      refine g_iadd hX dX12_hear_30 ?_
      obtain ⟨k10, jk10, ik10, hf⟩ := gix_open hf
      refine ml_row hX ik10 k10 jk10 (v := S.1 1 k10) rfl dX12_hear_31 ?_
      obtain ⟨v11, ev11, hf⟩ := bI_open hf
      refine g_nm ev11 ?_
      refine g_istoren hX [(3, .int v11), (0, .ref (ad 0)), (1, .int a1), (2, .int a2)] rfl (by decide) rfl dX12_hear_32 ?_
      refine g_aloadn hX 1 rfl rfl dX12_hear_33 ?_
      refine mg_row hX dX12_hear_34 ?_
      refine g_bipush hX (v := 10) (by decide) dX12_hear_37 ?_
      refine g_iloadn hX 2 rfl rfl dX12_hear_39 ?_
      refine g_iadd hX dX12_hear_40 ?_
      refine g_iloadn hX 3 rfl rfl dX12_hear_41 ?_
      obtain ⟨k12, jk12, ik12, hf⟩ := gix_open hf
      refine ms_row hX ik12 k12 jk12 dX12_hear_42 ?_
      refine g_iloadn hX 0 rfl rfl dX12_hear_43 ?_
      obtain rfl := oi hf
      exact g_iret hX hq (by decide) (by decide) hp dX12_hear_44
    · have hf := ite_t c9 hf
      refine g_lv [0] rfl ?_
      exact t_X12_hear_16 hX hq hp _ hf
theorem c_X12_hear {l : Launch} {E : En} {ad : Nat → Nat} {a1 : Int32} {a2 : Int32} {r : Int32} {S S2 : MS} (hf : f_X12_hear a1 a2 S = some (r, S2)) : CP l E yX12_hear cX12_hear 4 (some .int) 2 0 0 [] [.ref (ad 0), .int a1, .int a2] (mW E ad S) (fun rv w => rv = some (.int r) ∧ w = mW E ad S2) :=
  CP.of (lv := [(0, .ref (ad 0)), (1, .int a1), (2, .int a2)]) (by decide +kernel) (Nat.le_of_ble_eq_true rfl) rfl (fun X hl hE hro hX hq hn => by subst hl; subst hE; exact t_X12_hear_0 hX hq ⟨rfl, rfl⟩ a1 a2 S hf)
def f_X12_heard (S : MS) : Option (Int32 × MS) :=
  cb (f_X12_heardAll S) fun r3 S1 =>
  some (r3, S1)
set_option maxRecDepth 100000 in
set_option maxHeartbeats 4000000 in
theorem t_X12_heard_0 {X : Cx} {ad : Nat → Nat} {PostX : Option Value → va_W → Prop} (hX : Ok X cX12_heard 1 RX12) (hq : Rq X 1 0 0 (some .int) PostX) {u : (Int32 × MS)} (hp : PostX (some (.int u.1)) (mW X.E ad u.2)) (S : MS) (hf : f_X12_heard S = some u) : G X 1 0 0 0 [(0, .ref (ad 0))] [] (mW X.E ad S) := by
  unfold f_X12_heard at hf
  refine g_aloadn hX 0 rfl rfl dX12_heard_0 ?_
  obtain ⟨r3, S1, h2, hf⟩ := cb_open hf
  refine k_X12_heardAll hX hq (c_X12_heardAll h2) (by decide) (by decide) (by decide) (Nat.le_of_ble_eq_true rfl) dX12_heard_1 ?_
  obtain rfl := oi hf
  exact g_iret hX hq (by decide) (by decide) hp dX12_heard_4
theorem c_X12_heard {l : Launch} {E : En} {ad : Nat → Nat} {r : Int32} {S S2 : MS} (hf : f_X12_heard S = some (r, S2)) : CP l E yX12_heard cX12_heard 1 (some .int) 1 0 0 [] [.ref (ad 0)] (mW E ad S) (fun rv w => rv = some (.int r) ∧ w = mW E ad S2) :=
  CP.of (lv := [(0, .ref (ad 0))]) (by decide +kernel) (Nat.le_of_ble_eq_true rfl) rfl (fun X hl hE hro hX hq hn => by subst hl; subst hE; exact t_X12_heard_0 hX hq ⟨rfl, rfl⟩ S hf)
def f_X12_hearsAll_2 : Nat → Int32 → Int32 → MS → Option (Int32 × MS)
  | 0 => fun _ _ _ => none
  | n + 1 => fun x1 x2 S =>
    let lp2 := f_X12_hearsAll_2 n
    if (8 ≤ x2 : Prop) then
      some (0, S)
    else
      gix x2 8 fun k2 =>
      gnz (S.1 5 k2) <|
      bI (jrem (x1 / (S.1 5 k2)) 3) fun v4 =>
      gix (10 + x2) 206 fun k5 =>
      bI (x2 + 1) fun v6 =>
      lp2 x1 v6 (sA S 1 k5 v4)
def f_X12_hearsAll (a1 : Int32) (S : MS) : Option (Int32 × MS) :=
  f_X12_hearsAll_2 100 a1 0 S
set_option maxRecDepth 100000 in
set_option maxHeartbeats 4000000 in
theorem t_X12_hearsAll_2 {X : Cx} {ad : Nat → Nat} {PostX : Option Value → va_W → Prop} (hX : Ok X cX12_hearsAll 3 RX12) (hq : Rq X 0 0 0 none PostX) {u : (Int32 × MS)} (hp : PostX none (mW X.E ad u.2)) : ∀ (n : Nat) (x1 : Int32) (x2 : Int32) (S : MS), f_X12_hearsAll_2 n x1 x2 S = some u → G X 3 0 0 2 [(0, .ref (ad 0)), (1, .int x1), (2, .int x2)] [] (mW X.E ad S) := by
  intro n
  induction n with
  | zero => intro _ _ _ hf; unfold f_X12_hearsAll_2 at hf; cases hf
  | succ n hlp2 =>
  intro x1 x2 S hf
  unfold f_X12_hearsAll_2 at hf
  refine g_iloadn hX 2 rfl rfl dX12_hearsAll_2 ?_
  refine g_bipush hX (v := 8) (by decide) dX12_hearsAll_3 ?_
  refine g_icmp_ge hX 33 (by decide) dX12_hearsAll_5 (fun c1 => ?_) (fun c1 => ?_)
  · have hf := ite_t c1 hf
    obtain rfl := oi hf
    exact g_vret hX hq (by decide) (by decide) hp dX12_hearsAll_33
  · have hf := ite_f c1 hf
    refine g_aloadn hX 0 rfl rfl dX12_hearsAll_8 ?_
    refine mg_row hX dX12_hearsAll_9 ?_
    refine g_bipush hX (v := 10) (by decide) dX12_hearsAll_12 ?_
    refine g_iloadn hX 2 rfl rfl dX12_hearsAll_14 ?_
    refine g_iadd hX dX12_hearsAll_15 ?_
    refine g_iloadn hX 1 rfl rfl dX12_hearsAll_16 ?_
    refine g_aloadn hX 0 rfl rfl dX12_hearsAll_17 ?_
    refine mg_power hX dX12_hearsAll_18 ?_
    refine g_iloadn hX 2 rfl rfl dX12_hearsAll_21 ?_
    obtain ⟨k2, jk2, ik2, hf⟩ := gix_open hf
    refine ml_power hX ik2 k2 jk2 (v := S.1 5 k2) rfl dX12_hearsAll_22 ?_
    obtain ⟨h3, hf⟩ := gnz_open hf
    refine g_idiv hX h3 dX12_hearsAll_23 ?_
    refine g_iconst hX (v := 3) (by decide) dX12_hearsAll_24 ?_
    refine g_jrem hX (by decide) dX12_hearsAll_25 ?_
    obtain ⟨v4, ev4, hf⟩ := bI_open hf
    refine g_nm ev4 ?_
    obtain ⟨k5, jk5, ik5, hf⟩ := gix_open hf
    refine ms_row hX ik5 k5 jk5 dX12_hearsAll_26 ?_
    obtain ⟨v6, ev6, hf⟩ := bI_open hf
    refine g_iinc hX 2 (v := v6) [(2, .int v6), (0, .ref (ad 0)), (1, .int x1)] rfl (by rw [ev6]; rfl) (by decide) rfl dX12_hearsAll_27 ?_
    refine g_goto hX 2 (by decide) dX12_hearsAll_30 ?_
    refine g_lv [1, 2, 0] rfl ?_
    exact hlp2 _ _ _ hf
set_option maxRecDepth 100000 in
set_option maxHeartbeats 4000000 in
theorem t_X12_hearsAll_0 {X : Cx} {ad : Nat → Nat} {PostX : Option Value → va_W → Prop} (hX : Ok X cX12_hearsAll 3 RX12) (hq : Rq X 0 0 0 none PostX) {u : (Int32 × MS)} (hp : PostX none (mW X.E ad u.2)) (a1 : Int32) (S : MS) (hf : f_X12_hearsAll a1 S = some u) : G X 3 0 0 0 [(0, .ref (ad 0)), (1, .int a1)] [] (mW X.E ad S) := by
  unfold f_X12_hearsAll at hf
  refine g_iconst hX (v := 0) (by decide) dX12_hearsAll_0 ?_
  refine g_istoren hX [(2, .int 0), (0, .ref (ad 0)), (1, .int a1)] rfl (by decide) rfl dX12_hearsAll_1 ?_
  refine g_lv [1, 2, 0] rfl ?_
  exact t_X12_hearsAll_2 hX hq hp _ _ _ _ hf
theorem c_X12_hearsAll {l : Launch} {E : En} {ad : Nat → Nat} {a1 : Int32} {r : Int32} {S S2 : MS} (hf : f_X12_hearsAll a1 S = some (r, S2)) : CP l E yX12_hearsAll cX12_hearsAll 3 none 0 0 0 [] [.ref (ad 0), .int a1] (mW E ad S) (fun rv w => rv = none ∧ w = mW E ad S2) :=
  CP.of (lv := [(0, .ref (ad 0)), (1, .int a1)]) (by decide +kernel) (Nat.le_of_ble_eq_true rfl) rfl (fun X hl hE hro hX hq hn => by subst hl; subst hE; exact t_X12_hearsAll_0 hX hq ⟨rfl, rfl⟩ a1 S hf)
theorem kw_RX12_X12_hearsAll : KwV RX12 215 RX12 yX12_hearsAll cX12_hearsAll 3 none 1 := ⟨mem_wsV wd_6_76 wd_6_78 wd_s_47 wd_1_19 wd_6_79, rfl, ⟨by decide +kernel, by decide +kernel, by decide +kernel⟩, by decide⟩
theorem k_X12_hearsAll {X : Cx} {cc : ByteArray} {nL ce sl pc : Nat} {lv : List (Nat × Value)} {st : List Value} {dX mcX msX : Nat} {retX : Option FieldType} {PostX : Option Value → va_W → Prop} {ad : Nat → Nat} {S S2 : MS} {d : Nat} (hX : Ok X cc nL RX12) (hq : Rq X dX mcX msX retX PostX) {a1 : Int32} (hM : CP X.l X.E yX12_hearsAll cX12_hearsAll 3 none d 0 0 [] [.ref (ad 0), .int a1] (mW X.E ad S) (fun rv w => rv = none ∧ w = mW X.E ad S2)) (hd : d < dX) (hc : ce ≤ mcX) (hs : sl ≤ msX) (hcat : (st.map fun v => v.category).sum ≤ 8) (hdg : decode cc pc = .ok (.invokevirtual 215, 3)) (kk : G X nL ce sl (pc + 3) lv st (mW X.E ad S2)) : G X nL ce sl pc lv (.int a1 :: .ref (ad 0) :: st) (mW X.E ad S) :=
  g_eqW (app1 _) (g_callV (pre := []) (mid := mW X.E ad S) (post := []) [.int a1] hX hq kw_RX12_X12_hearsAll hM (fun _ h => absurd h List.not_mem_nil) hd hc hs rfl (Recv.of 0 12 rfl rfl) rfl hcat hdg (fun rv ws2 hp => by obtain ⟨rfl, rfl⟩ := hp; exact g_eqW (app1 _).symm kk))
def f_X12_world (a1 : Int32) (S : MS) : Option (Int32 × MS) :=
  cs (f_X12_in a1 0 255) fun r1 =>
  if (r1 = 0 : Prop) then
    cb (f_X12_errs (-1000000001) S) fun r7 S5 =>
    some (r7, S5)
  else
    bI (S.1 1 8) fun v4 =>
    some (v4, (sA S 1 8 a1))
set_option maxRecDepth 100000 in
set_option maxHeartbeats 4000000 in
theorem t_X12_world_0 {X : Cx} {ad : Nat → Nat} {PostX : Option Value → va_W → Prop} (hX : Ok X cX12_world 3 RX12) (hq : Rq X 1 0 0 (some .int) PostX) {u : (Int32 × MS)} (hp : PostX (some (.int u.1)) (mW X.E ad u.2)) (a1 : Int32) (S : MS) (hf : f_X12_world a1 S = some u) : G X 3 0 0 0 [(0, .ref (ad 0)), (1, .int a1)] [] (mW X.E ad S) := by
  unfold f_X12_world at hf
  refine g_iloadn hX 1 rfl rfl dX12_world_0 ?_
  refine g_iconst hX (v := 0) (by decide) dX12_world_1 ?_
  refine g_sipush hX (v := 255) (by decide) dX12_world_2 ?_
  obtain ⟨r1, h2, hf⟩ := cs_open hf
  refine k_RX12_X12_in hX hq h2 (by decide) (by decide) (by decide) (Nat.le_of_ble_eq_true rfl) dX12_world_5 ?_
  refine g_if_ne hX 18 (by decide) dX12_world_8 (fun c3 => ?_) (fun c3 => ?_)
  · have hf := ite_f c3 hf
    refine g_aloadn hX 0 rfl rfl dX12_world_18 ?_
    refine mg_row hX dX12_world_19 ?_
    refine g_bipush hX (v := 8) (by decide) dX12_world_22 ?_
    refine ml_row hX (vpc (by decide)) 8 (by decide) (v := S.1 1 8) rfl dX12_world_24 ?_
    obtain ⟨v4, ev4, hf⟩ := bI_open hf
    refine g_nm ev4 ?_
    refine g_istoren hX [(2, .int v4), (0, .ref (ad 0)), (1, .int a1)] rfl (by decide) rfl dX12_world_25 ?_
    refine g_aloadn hX 1 rfl rfl dX12_world_26 ?_
    refine mg_row hX dX12_world_27 ?_
    refine g_bipush hX (v := 8) (by decide) dX12_world_30 ?_
    refine g_iloadn hX 2 rfl rfl dX12_world_32 ?_
    refine ms_row hX (vpc (by decide)) 8 (by decide) dX12_world_33 ?_
    refine g_iloadn hX 0 rfl rfl dX12_world_34 ?_
    obtain rfl := oi hf
    exact g_iret hX hq (by decide) (by decide) hp dX12_world_35
  · have hf := ite_t c3 hf
    refine g_aloadn hX 0 rfl rfl dX12_world_11 ?_
    refine g_ldc hX (v := (-1000000001)) wd_5_74 dX12_world_12 ?_
    obtain ⟨r7, S5, h6, hf⟩ := cb_open hf
    refine k_X12_errs hX hq (c_X12_errs h6) (by decide) (by decide) (by decide) (Nat.le_of_ble_eq_true rfl) dX12_world_14 ?_
    obtain rfl := oi hf
    exact g_iret hX hq (by decide) (by decide) hp dX12_world_17
theorem c_X12_world {l : Launch} {E : En} {ad : Nat → Nat} {a1 : Int32} {r : Int32} {S S2 : MS} (hf : f_X12_world a1 S = some (r, S2)) : CP l E yX12_world cX12_world 3 (some .int) 1 0 0 [] [.ref (ad 0), .int a1] (mW E ad S) (fun rv w => rv = some (.int r) ∧ w = mW E ad S2) :=
  CP.of (lv := [(0, .ref (ad 0)), (1, .int a1)]) (by decide +kernel) (Nat.le_of_ble_eq_true rfl) rfl (fun X hl hE hro hX hq hn => by subst hl; subst hE; exact t_X12_world_0 hX hq ⟨rfl, rfl⟩ a1 S hf)
def f_X12_trust (a1 : Int32) (S : MS) : Option (Int32 × MS) :=
  cs (f_X12_in a1 0 9) fun r1 =>
  if (r1 = 0 : Prop) then
    cb (f_X12_errs (-1000000001) S) fun r7 S5 =>
    some (r7, S5)
  else
    bI (S.1 1 9) fun v4 =>
    some (v4, (sA S 1 9 a1))
set_option maxRecDepth 100000 in
set_option maxHeartbeats 4000000 in
theorem t_X12_trust_0 {X : Cx} {ad : Nat → Nat} {PostX : Option Value → va_W → Prop} (hX : Ok X cX12_trust 3 RX12) (hq : Rq X 1 0 0 (some .int) PostX) {u : (Int32 × MS)} (hp : PostX (some (.int u.1)) (mW X.E ad u.2)) (a1 : Int32) (S : MS) (hf : f_X12_trust a1 S = some u) : G X 3 0 0 0 [(0, .ref (ad 0)), (1, .int a1)] [] (mW X.E ad S) := by
  unfold f_X12_trust at hf
  refine g_iloadn hX 1 rfl rfl dX12_trust_0 ?_
  refine g_iconst hX (v := 0) (by decide) dX12_trust_1 ?_
  refine g_bipush hX (v := 9) (by decide) dX12_trust_2 ?_
  obtain ⟨r1, h2, hf⟩ := cs_open hf
  refine k_RX12_X12_in hX hq h2 (by decide) (by decide) (by decide) (Nat.le_of_ble_eq_true rfl) dX12_trust_4 ?_
  refine g_if_ne hX 17 (by decide) dX12_trust_7 (fun c3 => ?_) (fun c3 => ?_)
  · have hf := ite_f c3 hf
    refine g_aloadn hX 0 rfl rfl dX12_trust_17 ?_
    refine mg_row hX dX12_trust_18 ?_
    refine g_bipush hX (v := 9) (by decide) dX12_trust_21 ?_
    refine ml_row hX (vpc (by decide)) 9 (by decide) (v := S.1 1 9) rfl dX12_trust_23 ?_
    obtain ⟨v4, ev4, hf⟩ := bI_open hf
    refine g_nm ev4 ?_
    refine g_istoren hX [(2, .int v4), (0, .ref (ad 0)), (1, .int a1)] rfl (by decide) rfl dX12_trust_24 ?_
    refine g_aloadn hX 1 rfl rfl dX12_trust_25 ?_
    refine mg_row hX dX12_trust_26 ?_
    refine g_bipush hX (v := 9) (by decide) dX12_trust_29 ?_
    refine g_iloadn hX 2 rfl rfl dX12_trust_31 ?_
    refine ms_row hX (vpc (by decide)) 9 (by decide) dX12_trust_32 ?_
    refine g_iloadn hX 0 rfl rfl dX12_trust_33 ?_
    obtain rfl := oi hf
    exact g_iret hX hq (by decide) (by decide) hp dX12_trust_34
  · have hf := ite_t c3 hf
    refine g_aloadn hX 0 rfl rfl dX12_trust_10 ?_
    refine g_ldc hX (v := (-1000000001)) wd_5_74 dX12_trust_11 ?_
    obtain ⟨r7, S5, h6, hf⟩ := cb_open hf
    refine k_X12_errs hX hq (c_X12_errs h6) (by decide) (by decide) (by decide) (Nat.le_of_ble_eq_true rfl) dX12_trust_13 ?_
    obtain rfl := oi hf
    exact g_iret hX hq (by decide) (by decide) hp dX12_trust_16
theorem c_X12_trust {l : Launch} {E : En} {ad : Nat → Nat} {a1 : Int32} {r : Int32} {S S2 : MS} (hf : f_X12_trust a1 S = some (r, S2)) : CP l E yX12_trust cX12_trust 3 (some .int) 1 0 0 [] [.ref (ad 0), .int a1] (mW E ad S) (fun rv w => rv = some (.int r) ∧ w = mW E ad S2) :=
  CP.of (lv := [(0, .ref (ad 0)), (1, .int a1)]) (by decide +kernel) (Nat.le_of_ble_eq_true rfl) rfl (fun X hl hE hro hX hq hn => by subst hl; subst hE; exact t_X12_trust_0 hX hq ⟨rfl, rfl⟩ a1 S hf)
def f_X12_isRider (a1 : Int32) (S : MS) : Option (Int32 × MS) :=
  cs (f_X12_in a1 0 ((S.1 1 3) - 1)) fun r1 =>
  gz r1 <| some (r1, S)
set_option maxRecDepth 100000 in
set_option maxHeartbeats 4000000 in
theorem t_X12_isRider_0 {X : Cx} {ad : Nat → Nat} {PostX : Option Value → va_W → Prop} (hX : Ok X cX12_isRider 2 RX12) (hq : Rq X 1 0 0 (some .boolean) PostX) {u : (Int32 × MS)} (hp : PostX (some (.int u.1)) (mW X.E ad u.2)) (a1 : Int32) (S : MS) (hf : f_X12_isRider a1 S = some u) : G X 2 0 0 0 [(0, .ref (ad 0)), (1, .int a1)] [] (mW X.E ad S) := by
  unfold f_X12_isRider at hf
  refine g_iloadn hX 1 rfl rfl dX12_isRider_0 ?_
  refine g_iconst hX (v := 0) (by decide) dX12_isRider_1 ?_
  refine g_aloadn hX 0 rfl rfl dX12_isRider_2 ?_
  refine mg_row hX dX12_isRider_3 ?_
  refine g_iconst hX (v := 3) (by decide) dX12_isRider_6 ?_
  refine ml_row hX (vpc (by decide)) 3 (by decide) (v := S.1 1 3) rfl dX12_isRider_7 ?_
  refine g_iconst hX (v := 1) (by decide) dX12_isRider_8 ?_
  refine g_isub hX dX12_isRider_9 ?_
  obtain ⟨r1, h2, hf⟩ := cs_open hf
  refine k_RX12_X12_in hX hq h2 (by decide) (by decide) (by decide) (Nat.le_of_ble_eq_true rfl) dX12_isRider_10 ?_
  obtain ⟨h3, hf⟩ := gz_open hf
  obtain rfl := oi hf
  exact g_zret hX hq (by decide) (by decide) (nar_z h3) hp dX12_isRider_13
theorem c_X12_isRider {l : Launch} {E : En} {ad : Nat → Nat} {a1 : Int32} {r : Int32} {S S2 : MS} (hf : f_X12_isRider a1 S = some (r, S2)) : CP l E yX12_isRider cX12_isRider 2 (some .boolean) 1 0 0 [] [.ref (ad 0), .int a1] (mW E ad S) (fun rv w => rv = some (.int r) ∧ w = mW E ad S2) :=
  CP.of (lv := [(0, .ref (ad 0)), (1, .int a1)]) (by decide +kernel) (Nat.le_of_ble_eq_true rfl) rfl (fun X hl hE hro hX hq hn => by subst hl; subst hE; exact t_X12_isRider_0 hX hq ⟨rfl, rfl⟩ a1 S hf)
theorem kw_RX12_X12_isRider : KwV RX12 100 RX12 yX12_isRider cX12_isRider 2 (some .boolean) 1 := ⟨mem_wsV wd_5_105 wd_5_107 wd_s_19 wd_1_19 wd_5_108, rfl, ⟨by decide +kernel, by decide +kernel, by decide +kernel⟩, by decide⟩
theorem k_X12_isRider {X : Cx} {cc : ByteArray} {nL ce sl pc : Nat} {lv : List (Nat × Value)} {st : List Value} {dX mcX msX : Nat} {retX : Option FieldType} {PostX : Option Value → va_W → Prop} {ad : Nat → Nat} {S S2 : MS} {d : Nat} (hX : Ok X cc nL RX12) (hq : Rq X dX mcX msX retX PostX) {a1 : Int32} {r : Int32} (hM : CP X.l X.E yX12_isRider cX12_isRider 2 (some .boolean) d 0 0 [] [.ref (ad 0), .int a1] (mW X.E ad S) (fun rv w => rv = some (.int r) ∧ w = mW X.E ad S2)) (hd : d < dX) (hc : ce ≤ mcX) (hs : sl ≤ msX) (hcat : (st.map fun v => v.category).sum ≤ 8) (hdg : decode cc pc = .ok (.invokevirtual 100, 3)) (kk : G X nL ce sl (pc + 3) lv (.int r :: st) (mW X.E ad S2)) : G X nL ce sl pc lv (.int a1 :: .ref (ad 0) :: st) (mW X.E ad S) :=
  g_eqW (app1 _) (g_callV (pre := []) (mid := mW X.E ad S) (post := []) [.int a1] hX hq kw_RX12_X12_isRider hM (fun _ h => absurd h List.not_mem_nil) hd hc hs rfl (Recv.of 0 12 rfl rfl) rfl hcat hdg (fun rv ws2 hp => by obtain ⟨rfl, rfl⟩ := hp; exact g_eqW (app1 _).symm kk))
def f_X12_rider (a1 : Int32) (S : MS) : Option (Int32 × MS) :=
  cs (f_X12_in a1 0 69) fun r1 =>
  if (r1 = 0 : Prop) then
    cb (f_X12_errs (-1000000001) S) fun r17 S15 =>
    some (r17, S15)
  else
    if ((S.1 1 3) = 6 : Prop) then
      cb (f_X12_errs (-1000000004) S) fun r14 S12 =>
      some (r14, S12)
    else
      bI (18 + (3 * (S.1 1 3))) fun v5 =>
      bI (a1 / 10) fun v6 =>
      gix v5 206 fun k7 =>
      bI (jrem a1 10) fun v8 =>
      gix (v5 + 1) 206 fun k9 =>
      gix (v5 + 2) 206 fun k10 =>
      bI (((sA (sA (sA S 1 k7 v6) 1 k9 v8) 1 k10 0).1 1 3) + 1) fun v11 =>
      some ((((sA (sA (sA (sA S 1 k7 v6) 1 k9 v8) 1 k10 0) 1 3 v11).1 1 3) - 1), (sA (sA (sA (sA S 1 k7 v6) 1 k9 v8) 1 k10 0) 1 3 v11))
set_option maxRecDepth 100000 in
set_option maxHeartbeats 4000000 in
theorem t_X12_rider_0 {X : Cx} {ad : Nat → Nat} {PostX : Option Value → va_W → Prop} (hX : Ok X cX12_rider 3 RX12) (hq : Rq X 1 0 0 (some .int) PostX) {u : (Int32 × MS)} (hp : PostX (some (.int u.1)) (mW X.E ad u.2)) (a1 : Int32) (S : MS) (hf : f_X12_rider a1 S = some u) : G X 3 0 0 0 [(0, .ref (ad 0)), (1, .int a1)] [] (mW X.E ad S) := by
  unfold f_X12_rider at hf
  refine g_iloadn hX 1 rfl rfl dX12_rider_0 ?_
  refine g_iconst hX (v := 0) (by decide) dX12_rider_1 ?_
  refine g_bipush hX (v := 69) (by decide) dX12_rider_2 ?_
  obtain ⟨r1, h2, hf⟩ := cs_open hf
  refine k_RX12_X12_in hX hq h2 (by decide) (by decide) (by decide) (Nat.le_of_ble_eq_true rfl) dX12_rider_4 ?_
  refine g_if_ne hX 17 (by decide) dX12_rider_7 (fun c3 => ?_) (fun c3 => ?_)
  · have hf := ite_f c3 hf
    refine g_aloadn hX 0 rfl rfl dX12_rider_17 ?_
    refine mg_row hX dX12_rider_18 ?_
    refine g_iconst hX (v := 3) (by decide) dX12_rider_21 ?_
    refine ml_row hX (vpc (by decide)) 3 (by decide) (v := S.1 1 3) rfl dX12_rider_22 ?_
    refine g_bipush hX (v := 6) (by decide) dX12_rider_23 ?_
    refine g_icmp_ne hX 35 (by decide) dX12_rider_25 (fun c4 => ?_) (fun c4 => ?_)
    · have hf := ite_f c4 hf
      refine g_bipush hX (v := 18) (by decide) dX12_rider_35 ?_
      refine g_iconst hX (v := 3) (by decide) dX12_rider_37 ?_
      refine g_aloadn hX 0 rfl rfl dX12_rider_38 ?_
      refine mg_row hX dX12_rider_39 ?_
      refine g_iconst hX (v := 3) (by decide) dX12_rider_42 ?_
      refine ml_row hX (vpc (by decide)) 3 (by decide) (v := S.1 1 3) rfl dX12_rider_43 ?_
      refine g_imul hX dX12_rider_44 ?_
      refine g_iadd hX dX12_rider_45 ?_
      obtain ⟨v5, ev5, hf⟩ := bI_open hf
      refine g_nm ev5 ?_
      refine g_istoren hX [(2, .int v5), (0, .ref (ad 0)), (1, .int a1)] rfl (by decide) rfl dX12_rider_46 ?_
      refine g_aloadn hX 1 rfl rfl dX12_rider_47 ?_
      refine mg_row hX dX12_rider_48 ?_
      refine g_iloadn hX 0 rfl rfl dX12_rider_51 ?_
      refine g_iloadn hX 2 rfl rfl dX12_rider_52 ?_
      refine g_bipush hX (v := 10) (by decide) dX12_rider_53 ?_
      refine g_idiv hX (by decide) dX12_rider_55 ?_
      obtain ⟨v6, ev6, hf⟩ := bI_open hf
      refine g_nm ev6 ?_
      obtain ⟨k7, jk7, ik7, hf⟩ := gix_open hf
      refine ms_row hX ik7 k7 jk7 dX12_rider_56 ?_
      refine g_aloadn hX 1 rfl rfl dX12_rider_57 ?_
      refine mg_row hX dX12_rider_58 ?_
      refine g_iloadn hX 0 rfl rfl dX12_rider_61 ?_
      refine g_iconst hX (v := 1) (by decide) dX12_rider_62 ?_
      refine g_iadd hX dX12_rider_63 ?_
      refine g_iloadn hX 2 rfl rfl dX12_rider_64 ?_
      refine g_bipush hX (v := 10) (by decide) dX12_rider_65 ?_
      refine g_jrem hX (by decide) dX12_rider_67 ?_
      obtain ⟨v8, ev8, hf⟩ := bI_open hf
      refine g_nm ev8 ?_
      obtain ⟨k9, jk9, ik9, hf⟩ := gix_open hf
      refine ms_row hX ik9 k9 jk9 dX12_rider_68 ?_
      refine g_aloadn hX 1 rfl rfl dX12_rider_69 ?_
      refine mg_row hX dX12_rider_70 ?_
      refine g_iloadn hX 0 rfl rfl dX12_rider_73 ?_
      refine g_iconst hX (v := 2) (by decide) dX12_rider_74 ?_
      refine g_iadd hX dX12_rider_75 ?_
      refine g_iconst hX (v := 0) (by decide) dX12_rider_76 ?_
      obtain ⟨k10, jk10, ik10, hf⟩ := gix_open hf
      refine ms_row hX ik10 k10 jk10 dX12_rider_77 ?_
      refine g_aloadn hX 1 rfl rfl dX12_rider_78 ?_
      refine mg_row hX dX12_rider_79 ?_
      refine g_iconst hX (v := 3) (by decide) dX12_rider_82 ?_
      refine g_dup2 hX rfl rfl dX12_rider_83 ?_
      refine ml_row hX (vpc (by decide)) 3 (by decide) (v := (sA (sA (sA S 1 k7 v6) 1 k9 v8) 1 k10 0).1 1 3) rfl dX12_rider_84 ?_
      refine g_iconst hX (v := 1) (by decide) dX12_rider_85 ?_
      refine g_iadd hX dX12_rider_86 ?_
      obtain ⟨v11, ev11, hf⟩ := bI_open hf
      refine g_nm ev11 ?_
      refine ms_row hX (vpc (by decide)) 3 (by decide) dX12_rider_87 ?_
      refine g_aloadn hX 1 rfl rfl dX12_rider_88 ?_
      refine mg_row hX dX12_rider_89 ?_
      refine g_iconst hX (v := 3) (by decide) dX12_rider_92 ?_
      refine ml_row hX (vpc (by decide)) 3 (by decide) (v := (sA (sA (sA (sA S 1 k7 v6) 1 k9 v8) 1 k10 0) 1 3 v11).1 1 3) rfl dX12_rider_93 ?_
      refine g_iconst hX (v := 1) (by decide) dX12_rider_94 ?_
      refine g_isub hX dX12_rider_95 ?_
      obtain rfl := oi hf
      exact g_iret hX hq (by decide) (by decide) hp dX12_rider_96
    · have hf := ite_t c4 hf
      refine g_aloadn hX 0 rfl rfl dX12_rider_28 ?_
      refine g_ldc hX (v := (-1000000004)) wd_5_100 dX12_rider_29 ?_
      obtain ⟨r14, S12, h13, hf⟩ := cb_open hf
      refine k_X12_errs hX hq (c_X12_errs h13) (by decide) (by decide) (by decide) (Nat.le_of_ble_eq_true rfl) dX12_rider_31 ?_
      obtain rfl := oi hf
      exact g_iret hX hq (by decide) (by decide) hp dX12_rider_34
  · have hf := ite_t c3 hf
    refine g_aloadn hX 0 rfl rfl dX12_rider_10 ?_
    refine g_ldc hX (v := (-1000000001)) wd_5_74 dX12_rider_11 ?_
    obtain ⟨r17, S15, h16, hf⟩ := cb_open hf
    refine k_X12_errs hX hq (c_X12_errs h16) (by decide) (by decide) (by decide) (Nat.le_of_ble_eq_true rfl) dX12_rider_13 ?_
    obtain rfl := oi hf
    exact g_iret hX hq (by decide) (by decide) hp dX12_rider_16
theorem c_X12_rider {l : Launch} {E : En} {ad : Nat → Nat} {a1 : Int32} {r : Int32} {S S2 : MS} (hf : f_X12_rider a1 S = some (r, S2)) : CP l E yX12_rider cX12_rider 3 (some .int) 1 0 0 [] [.ref (ad 0), .int a1] (mW E ad S) (fun rv w => rv = some (.int r) ∧ w = mW E ad S2) :=
  CP.of (lv := [(0, .ref (ad 0)), (1, .int a1)]) (by decide +kernel) (Nat.le_of_ble_eq_true rfl) rfl (fun X hl hE hro hX hq hn => by subst hl; subst hE; exact t_X12_rider_0 hX hq ⟨rfl, rfl⟩ a1 S hf)
def f_X12_saying (a1 : Int32) (a2 : Int32) (S : MS) : Option (Int32 × MS) :=
  gix a2 8 fun k1 =>
  gnz (S.1 5 k1) <|
  some ((jrem (a1 / (S.1 5 k1)) 3), S)
set_option maxRecDepth 100000 in
set_option maxHeartbeats 4000000 in
theorem t_X12_saying_0 {X : Cx} {ad : Nat → Nat} {PostX : Option Value → va_W → Prop} (hX : Ok X cX12_saying 3 RX12) (hq : Rq X 0 0 0 (some .int) PostX) {u : (Int32 × MS)} (hp : PostX (some (.int u.1)) (mW X.E ad u.2)) (a1 : Int32) (a2 : Int32) (S : MS) (hf : f_X12_saying a1 a2 S = some u) : G X 3 0 0 0 [(0, .ref (ad 0)), (1, .int a1), (2, .int a2)] [] (mW X.E ad S) := by
  unfold f_X12_saying at hf
  refine g_iloadn hX 1 rfl rfl dX12_saying_0 ?_
  refine g_aloadn hX 0 rfl rfl dX12_saying_1 ?_
  refine mg_power hX dX12_saying_2 ?_
  refine g_iloadn hX 2 rfl rfl dX12_saying_5 ?_
  obtain ⟨k1, jk1, ik1, hf⟩ := gix_open hf
  refine ml_power hX ik1 k1 jk1 (v := S.1 5 k1) rfl dX12_saying_6 ?_
  obtain ⟨h2, hf⟩ := gnz_open hf
  refine g_idiv hX h2 dX12_saying_7 ?_
  refine g_iconst hX (v := 3) (by decide) dX12_saying_8 ?_
  refine g_jrem hX (by decide) dX12_saying_9 ?_
  obtain rfl := oi hf
  exact g_iret hX hq (by decide) (by decide) hp dX12_saying_10
theorem c_X12_saying {l : Launch} {E : En} {ad : Nat → Nat} {a1 : Int32} {a2 : Int32} {r : Int32} {S S2 : MS} (hf : f_X12_saying a1 a2 S = some (r, S2)) : CP l E yX12_saying cX12_saying 3 (some .int) 0 0 0 [] [.ref (ad 0), .int a1, .int a2] (mW E ad S) (fun rv w => rv = some (.int r) ∧ w = mW E ad S2) :=
  CP.of (lv := [(0, .ref (ad 0)), (1, .int a1), (2, .int a2)]) (by decide +kernel) (Nat.le_of_ble_eq_true rfl) rfl (fun X hl hE hro hX hq hn => by subst hl; subst hE; exact t_X12_saying_0 hX hq ⟨rfl, rfl⟩ a1 a2 S hf)
theorem kw_RX12_X12_saying : KwV RX12 75 RX12 yX12_saying cX12_saying 3 (some .int) 2 := ⟨mem_wsV wd_5_117 wd_5_119 wd_s_22 wd_1_19 wd_5_120, rfl, ⟨by decide +kernel, by decide +kernel, by decide +kernel⟩, by decide⟩
theorem k_X12_saying {X : Cx} {cc : ByteArray} {nL ce sl pc : Nat} {lv : List (Nat × Value)} {st : List Value} {dX mcX msX : Nat} {retX : Option FieldType} {PostX : Option Value → va_W → Prop} {ad : Nat → Nat} {S S2 : MS} {d : Nat} (hX : Ok X cc nL RX12) (hq : Rq X dX mcX msX retX PostX) {a1 : Int32} {a2 : Int32} {r : Int32} (hM : CP X.l X.E yX12_saying cX12_saying 3 (some .int) d 0 0 [] [.ref (ad 0), .int a1, .int a2] (mW X.E ad S) (fun rv w => rv = some (.int r) ∧ w = mW X.E ad S2)) (hd : d < dX) (hc : ce ≤ mcX) (hs : sl ≤ msX) (hcat : (st.map fun v => v.category).sum ≤ 8) (hdg : decode cc pc = .ok (.invokevirtual 75, 3)) (kk : G X nL ce sl (pc + 3) lv (.int r :: st) (mW X.E ad S2)) : G X nL ce sl pc lv (.int a2 :: .int a1 :: .ref (ad 0) :: st) (mW X.E ad S) :=
  g_eqW (app1 _) (g_callV (pre := []) (mid := mW X.E ad S) (post := []) [.int a1, .int a2] hX hq kw_RX12_X12_saying hM (fun _ h => absurd h List.not_mem_nil) hd hc hs rfl (Recv.of 0 12 rfl rfl) rfl hcat hdg (fun rv ws2 hp => by obtain ⟨rfl, rfl⟩ := hp; exact g_eqW (app1 _).symm kk))
def f_X12_weigh_113 (lp17 : Int32 → Int32 → MS → Option (Int32 × MS)) (x1 : Int32) (x2 : Int32) (y1 : Int32) (y2 : Int32) (S : MS) : Option (Int32 × MS) :=
  bI (y1 + y2) fun v12 =>
  bI (x2 + 1) fun v13 =>
  lp17 x1 v13 (sF S 4 v12)
def f_X12_weigh_112 (lp17 : Int32 → Int32 → MS → Option (Int32 × MS)) (x1 : Int32) (x2 : Int32) (y1 : Int32) (S : MS) : Option (Int32 × MS) :=
  f_X12_weigh_113 lp17 x1 x2 y1 0 S
def f_X12_weigh_90 (lp17 : Int32 → Int32 → MS → Option (Int32 × MS)) (x1 : Int32) (x2 : Int32) (x3 : Int32) (x4 : Int32) (y1 : Int32) (y2 : Int32) (S : MS) : Option (Int32 × MS) :=
  bI (y1 + y2) fun v10 =>
  if (x3 ≤ 0 : Prop) then
    f_X12_weigh_112 lp17 x1 x2 (S.2 4) (sF S 3 v10)
  else
    if (x4 = 0 : Prop) then
      f_X12_weigh_113 lp17 x1 x2 (S.2 4) 1 (sF S 3 v10)
    else
      f_X12_weigh_112 lp17 x1 x2 (S.2 4) (sF S 3 v10)
def f_X12_weigh_89 (lp17 : Int32 → Int32 → MS → Option (Int32 × MS)) (x1 : Int32) (x2 : Int32) (x3 : Int32) (x4 : Int32) (y1 : Int32) (S : MS) : Option (Int32 × MS) :=
  f_X12_weigh_90 lp17 x1 x2 x3 x4 y1 0 S
def f_X12_weigh_61 (lp17 : Int32 → Int32 → MS → Option (Int32 × MS)) (x1 : Int32) (x2 : Int32) (x3 : Int32) (x4 : Int32) (y1 : Int32) (y2 : Int32) (S : MS) : Option (Int32 × MS) :=
  bI (y1 + y2) fun v8 =>
  if (x3 ≤ 0 : Prop) then
    f_X12_weigh_89 lp17 x1 x2 x3 x4 (S.2 3) (sF S 2 v8)
  else
    if (x4 ≤ 0 : Prop) then
      f_X12_weigh_89 lp17 x1 x2 x3 x4 (S.2 3) (sF S 2 v8)
    else
      if (x3 = x4 : Prop) then
        f_X12_weigh_89 lp17 x1 x2 x3 x4 (S.2 3) (sF S 2 v8)
      else
        f_X12_weigh_90 lp17 x1 x2 x3 x4 (S.2 3) 1 (sF S 2 v8)
def f_X12_weigh_60 (lp17 : Int32 → Int32 → MS → Option (Int32 × MS)) (x1 : Int32) (x2 : Int32) (x3 : Int32) (x4 : Int32) (y1 : Int32) (S : MS) : Option (Int32 × MS) :=
  f_X12_weigh_61 lp17 x1 x2 x3 x4 y1 0 S
def f_X12_weigh_17 : Nat → Int32 → Int32 → MS → Option (Int32 × MS)
  | 0 => fun _ _ _ => none
  | n + 1 => fun x1 x2 S =>
    let lp17 := f_X12_weigh_17 n
    if (8 ≤ x2 : Prop) then
      some (0, S)
    else
      cb (f_X12_saying x1 x2 S) fun r4 S2 =>
      gix (10 + x2) 206 fun k5 =>
      bI (S2.1 1 k5) fun v6 =>
      if (r4 ≤ 0 : Prop) then
        f_X12_weigh_60 lp17 x1 x2 r4 v6 (S2.2 2) S2
      else
        if (r4 = v6 : Prop) then
          f_X12_weigh_61 lp17 x1 x2 r4 v6 (S2.2 2) 1 S2
        else
          f_X12_weigh_60 lp17 x1 x2 r4 v6 (S2.2 2) S2
def f_X12_weigh (a1 : Int32) (S : MS) : Option (Int32 × MS) :=
  f_X12_weigh_17 100 a1 0 (sF (sF (sF S 2 0) 3 0) 4 0)
set_option maxRecDepth 100000 in
set_option maxHeartbeats 4000000 in
theorem t_X12_weigh_113 {X : Cx} {ad : Nat → Nat} {PostX : Option Value → va_W → Prop} (hX : Ok X cX12_weigh 5 RX12) (hq : Rq X 1 0 0 none PostX) {u : (Int32 × MS)} (hp : PostX none (mW X.E ad u.2)) {lp17 : Int32 → Int32 → MS → Option (Int32 × MS)} (hlp17 : ∀ (x1 : Int32) (x2 : Int32) (S : MS), lp17 x1 x2 S = some u → G X 5 0 0 17 [(0, .ref (ad 0)), (1, .int x1), (2, .int x2)] [] (mW X.E ad S)) (x1 : Int32) (x2 : Int32) (y1 : Int32) (y2 : Int32) (S : MS) (hf : f_X12_weigh_113 lp17 x1 x2 y1 y2 S = some u) : G X 5 0 0 113 [(0, .ref (ad 0)), (1, .int x1), (2, .int x2)] [.int y2, .int y1, .ref (ad 0)] (mW X.E ad S) := by
  unfold f_X12_weigh_113 at hf
  refine g_iadd hX dX12_weigh_113 ?_
  obtain ⟨v12, ev12, hf⟩ := bI_open hf
  refine g_nm ev12 ?_
  refine mp_fresh hX dX12_weigh_114 ?_
  obtain ⟨v13, ev13, hf⟩ := bI_open hf
  refine g_iinc hX 2 (v := v13) [(2, .int v13), (0, .ref (ad 0)), (1, .int x1)] rfl (by rw [ev13]; rfl) (by decide) rfl dX12_weigh_117 ?_
  refine g_goto hX 17 (by decide) dX12_weigh_120 ?_
  refine g_lv [1, 2, 0] rfl ?_
  exact hlp17 _ _ _ hf
set_option maxRecDepth 100000 in
set_option maxHeartbeats 4000000 in
theorem t_X12_weigh_112 {X : Cx} {ad : Nat → Nat} {PostX : Option Value → va_W → Prop} (hX : Ok X cX12_weigh 5 RX12) (hq : Rq X 1 0 0 none PostX) {u : (Int32 × MS)} (hp : PostX none (mW X.E ad u.2)) {lp17 : Int32 → Int32 → MS → Option (Int32 × MS)} (hlp17 : ∀ (x1 : Int32) (x2 : Int32) (S : MS), lp17 x1 x2 S = some u → G X 5 0 0 17 [(0, .ref (ad 0)), (1, .int x1), (2, .int x2)] [] (mW X.E ad S)) (x1 : Int32) (x2 : Int32) (y1 : Int32) (S : MS) (hf : f_X12_weigh_112 lp17 x1 x2 y1 S = some u) : G X 5 0 0 112 [(0, .ref (ad 0)), (1, .int x1), (2, .int x2)] [.int y1, .ref (ad 0)] (mW X.E ad S) := by
  unfold f_X12_weigh_112 at hf
  refine g_iconst hX (v := 0) (by decide) dX12_weigh_112 ?_
  exact t_X12_weigh_113 hX hq hp hlp17 _ _ _ _ _ hf
set_option maxRecDepth 100000 in
set_option maxHeartbeats 4000000 in
theorem t_X12_weigh_90 {X : Cx} {ad : Nat → Nat} {PostX : Option Value → va_W → Prop} (hX : Ok X cX12_weigh 5 RX12) (hq : Rq X 1 0 0 none PostX) {u : (Int32 × MS)} (hp : PostX none (mW X.E ad u.2)) {lp17 : Int32 → Int32 → MS → Option (Int32 × MS)} (hlp17 : ∀ (x1 : Int32) (x2 : Int32) (S : MS), lp17 x1 x2 S = some u → G X 5 0 0 17 [(0, .ref (ad 0)), (1, .int x1), (2, .int x2)] [] (mW X.E ad S)) (x1 : Int32) (x2 : Int32) (x3 : Int32) (x4 : Int32) (y1 : Int32) (y2 : Int32) (S : MS) (hf : f_X12_weigh_90 lp17 x1 x2 x3 x4 y1 y2 S = some u) : G X 5 0 0 90 [(0, .ref (ad 0)), (1, .int x1), (2, .int x2), (3, .int x3), (4, .int x4)] [.int y2, .int y1, .ref (ad 0)] (mW X.E ad S) := by
  unfold f_X12_weigh_90 at hf
  refine g_iadd hX dX12_weigh_90 ?_
  obtain ⟨v10, ev10, hf⟩ := bI_open hf
  refine g_nm ev10 ?_
  refine mp_other hX dX12_weigh_91 ?_
  refine g_aloadn hX 0 rfl rfl dX12_weigh_94 ?_
  refine g_dup hX rfl dX12_weigh_95 ?_
  refine mg_fresh hX (v := S.2 4) rfl dX12_weigh_96 ?_
  refine g_iloadn hX 3 rfl rfl dX12_weigh_99 ?_
  refine g_if_le hX 112 (by decide) dX12_weigh_100 (fun c11 => ?_) (fun c11 => ?_)
  · have hf := ite_t c11 hf
    refine g_lv [0, 1, 2] rfl ?_
    exact t_X12_weigh_112 hX hq hp hlp17 _ _ _ _ hf
  · have hf := ite_f c11 hf
    refine g_iload hX 4 rfl dX12_weigh_103 ?_
    refine g_if_ne hX 112 (by decide) dX12_weigh_105 (fun c14 => ?_) (fun c14 => ?_)
    · have hf := ite_f c14 hf
      refine g_lv [0, 1, 2] rfl ?_
      exact t_X12_weigh_112 hX hq hp hlp17 _ _ _ _ hf
    · have hf := ite_t c14 hf
      refine g_iconst hX (v := 1) (by decide) dX12_weigh_108 ?_
      refine g_goto hX 113 (by decide) dX12_weigh_109 ?_
      refine g_lv [0, 1, 2] rfl ?_
      exact t_X12_weigh_113 hX hq hp hlp17 _ _ _ _ _ hf
set_option maxRecDepth 100000 in
set_option maxHeartbeats 4000000 in
theorem t_X12_weigh_89 {X : Cx} {ad : Nat → Nat} {PostX : Option Value → va_W → Prop} (hX : Ok X cX12_weigh 5 RX12) (hq : Rq X 1 0 0 none PostX) {u : (Int32 × MS)} (hp : PostX none (mW X.E ad u.2)) {lp17 : Int32 → Int32 → MS → Option (Int32 × MS)} (hlp17 : ∀ (x1 : Int32) (x2 : Int32) (S : MS), lp17 x1 x2 S = some u → G X 5 0 0 17 [(0, .ref (ad 0)), (1, .int x1), (2, .int x2)] [] (mW X.E ad S)) (x1 : Int32) (x2 : Int32) (x3 : Int32) (x4 : Int32) (y1 : Int32) (S : MS) (hf : f_X12_weigh_89 lp17 x1 x2 x3 x4 y1 S = some u) : G X 5 0 0 89 [(0, .ref (ad 0)), (1, .int x1), (2, .int x2), (3, .int x3), (4, .int x4)] [.int y1, .ref (ad 0)] (mW X.E ad S) := by
  unfold f_X12_weigh_89 at hf
  refine g_iconst hX (v := 0) (by decide) dX12_weigh_89 ?_
  exact t_X12_weigh_90 hX hq hp hlp17 _ _ _ _ _ _ _ hf
set_option maxRecDepth 100000 in
set_option maxHeartbeats 4000000 in
theorem t_X12_weigh_61 {X : Cx} {ad : Nat → Nat} {PostX : Option Value → va_W → Prop} (hX : Ok X cX12_weigh 5 RX12) (hq : Rq X 1 0 0 none PostX) {u : (Int32 × MS)} (hp : PostX none (mW X.E ad u.2)) {lp17 : Int32 → Int32 → MS → Option (Int32 × MS)} (hlp17 : ∀ (x1 : Int32) (x2 : Int32) (S : MS), lp17 x1 x2 S = some u → G X 5 0 0 17 [(0, .ref (ad 0)), (1, .int x1), (2, .int x2)] [] (mW X.E ad S)) (x1 : Int32) (x2 : Int32) (x3 : Int32) (x4 : Int32) (y1 : Int32) (y2 : Int32) (S : MS) (hf : f_X12_weigh_61 lp17 x1 x2 x3 x4 y1 y2 S = some u) : G X 5 0 0 61 [(0, .ref (ad 0)), (1, .int x1), (2, .int x2), (3, .int x3), (4, .int x4)] [.int y2, .int y1, .ref (ad 0)] (mW X.E ad S) := by
  unfold f_X12_weigh_61 at hf
  refine g_iadd hX dX12_weigh_61 ?_
  obtain ⟨v8, ev8, hf⟩ := bI_open hf
  refine g_nm ev8 ?_
  refine mp_as hX dX12_weigh_62 ?_
  refine g_aloadn hX 0 rfl rfl dX12_weigh_65 ?_
  refine g_dup hX rfl dX12_weigh_66 ?_
  refine mg_other hX (v := S.2 3) rfl dX12_weigh_67 ?_
  refine g_iloadn hX 3 rfl rfl dX12_weigh_70 ?_
  refine g_if_le hX 89 (by decide) dX12_weigh_71 (fun c9 => ?_) (fun c9 => ?_)
  · have hf := ite_t c9 hf
    exact t_X12_weigh_89 hX hq hp hlp17 _ _ _ _ _ _ hf
  · have hf := ite_f c9 hf
    refine g_iload hX 4 rfl dX12_weigh_74 ?_
    refine g_if_le hX 89 (by decide) dX12_weigh_76 (fun c15 => ?_) (fun c15 => ?_)
    · have hf := ite_t c15 hf
      exact t_X12_weigh_89 hX hq hp hlp17 _ _ _ _ _ _ hf
    · have hf := ite_f c15 hf
      refine g_iloadn hX 3 rfl rfl dX12_weigh_79 ?_
      refine g_iload hX 4 rfl dX12_weigh_80 ?_
      refine g_icmp_eq hX 89 (by decide) dX12_weigh_82 (fun c16 => ?_) (fun c16 => ?_)
      · have hf := ite_t c16 hf
        exact t_X12_weigh_89 hX hq hp hlp17 _ _ _ _ _ _ hf
      · have hf := ite_f c16 hf
        refine g_iconst hX (v := 1) (by decide) dX12_weigh_85 ?_
        refine g_goto hX 90 (by decide) dX12_weigh_86 ?_
        exact t_X12_weigh_90 hX hq hp hlp17 _ _ _ _ _ _ _ hf
set_option maxRecDepth 100000 in
set_option maxHeartbeats 4000000 in
theorem t_X12_weigh_60 {X : Cx} {ad : Nat → Nat} {PostX : Option Value → va_W → Prop} (hX : Ok X cX12_weigh 5 RX12) (hq : Rq X 1 0 0 none PostX) {u : (Int32 × MS)} (hp : PostX none (mW X.E ad u.2)) {lp17 : Int32 → Int32 → MS → Option (Int32 × MS)} (hlp17 : ∀ (x1 : Int32) (x2 : Int32) (S : MS), lp17 x1 x2 S = some u → G X 5 0 0 17 [(0, .ref (ad 0)), (1, .int x1), (2, .int x2)] [] (mW X.E ad S)) (x1 : Int32) (x2 : Int32) (x3 : Int32) (x4 : Int32) (y1 : Int32) (S : MS) (hf : f_X12_weigh_60 lp17 x1 x2 x3 x4 y1 S = some u) : G X 5 0 0 60 [(0, .ref (ad 0)), (1, .int x1), (2, .int x2), (3, .int x3), (4, .int x4)] [.int y1, .ref (ad 0)] (mW X.E ad S) := by
  unfold f_X12_weigh_60 at hf
  refine g_iconst hX (v := 0) (by decide) dX12_weigh_60 ?_
  exact t_X12_weigh_61 hX hq hp hlp17 _ _ _ _ _ _ _ hf
set_option maxRecDepth 100000 in
set_option maxHeartbeats 4000000 in
theorem t_X12_weigh_17 {X : Cx} {ad : Nat → Nat} {PostX : Option Value → va_W → Prop} (hX : Ok X cX12_weigh 5 RX12) (hq : Rq X 1 0 0 none PostX) {u : (Int32 × MS)} (hp : PostX none (mW X.E ad u.2)) : ∀ (n : Nat) (x1 : Int32) (x2 : Int32) (S : MS), f_X12_weigh_17 n x1 x2 S = some u → G X 5 0 0 17 [(0, .ref (ad 0)), (1, .int x1), (2, .int x2)] [] (mW X.E ad S) := by
  intro n
  induction n with
  | zero => intro _ _ _ hf; unfold f_X12_weigh_17 at hf; cases hf
  | succ n hlp17 =>
  intro x1 x2 S hf
  unfold f_X12_weigh_17 at hf
  refine g_iloadn hX 2 rfl rfl dX12_weigh_17 ?_
  refine g_bipush hX (v := 8) (by decide) dX12_weigh_18 ?_
  refine g_icmp_ge hX 123 (by decide) dX12_weigh_20 (fun c1 => ?_) (fun c1 => ?_)
  · have hf := ite_t c1 hf
    obtain rfl := oi hf
    exact g_vret hX hq (by decide) (by decide) hp dX12_weigh_123
  · have hf := ite_f c1 hf
    refine g_aloadn hX 0 rfl rfl dX12_weigh_23 ?_
    refine g_iloadn hX 1 rfl rfl dX12_weigh_24 ?_
    refine g_iloadn hX 2 rfl rfl dX12_weigh_25 ?_
    obtain ⟨r4, S2, h3, hf⟩ := cb_open hf
    refine k_X12_saying hX hq (c_X12_saying h3) (by decide) (by decide) (by decide) (Nat.le_of_ble_eq_true rfl) dX12_weigh_26 ?_
    refine g_istoren hX [(3, .int r4), (0, .ref (ad 0)), (1, .int x1), (2, .int x2)] rfl (by decide) rfl dX12_weigh_29 ?_
    refine g_aloadn hX 1 rfl rfl dX12_weigh_30 ?_
    refine mg_row hX dX12_weigh_31 ?_
    refine g_bipush hX (v := 10) (by decide) dX12_weigh_34 ?_
    refine g_iloadn hX 3 rfl rfl dX12_weigh_36 ?_
    refine g_iadd hX dX12_weigh_37 ?_
    obtain ⟨k5, jk5, ik5, hf⟩ := gix_open hf
    refine ml_row hX ik5 k5 jk5 (v := S2.1 1 k5) rfl dX12_weigh_38 ?_
    obtain ⟨v6, ev6, hf⟩ := bI_open hf
    refine g_nm ev6 ?_
    refine g_istore hX [(4, .int v6), (3, .int r4), (0, .ref (ad 0)), (1, .int x1), (2, .int x2)] (by decide) rfl dX12_weigh_39 ?_
    refine g_aloadn hX 2 rfl rfl dX12_weigh_41 ?_
    refine g_dup hX rfl dX12_weigh_42 ?_
    refine mg_as hX (v := S2.2 2) rfl dX12_weigh_43 ?_
    refine g_iloadn hX 1 rfl rfl dX12_weigh_46 ?_
    refine g_if_le hX 60 (by decide) dX12_weigh_47 (fun c7 => ?_) (fun c7 => ?_)
    · have hf := ite_t c7 hf
      refine g_lv [2, 3, 4, 1, 0] rfl ?_
      exact t_X12_weigh_60 hX hq hp hlp17 _ _ _ _ _ _ hf
    · have hf := ite_f c7 hf
      refine g_iloadn hX 1 rfl rfl dX12_weigh_50 ?_
      refine g_iload hX 0 rfl dX12_weigh_51 ?_
      refine g_icmp_ne hX 60 (by decide) dX12_weigh_53 (fun c17 => ?_) (fun c17 => ?_)
      · have hf := ite_f c17 hf
        refine g_lv [2, 3, 4, 1, 0] rfl ?_
        exact t_X12_weigh_60 hX hq hp hlp17 _ _ _ _ _ _ hf
      · have hf := ite_t c17 hf
        refine g_iconst hX (v := 1) (by decide) dX12_weigh_56 ?_
        refine g_goto hX 61 (by decide) dX12_weigh_57 ?_
        refine g_lv [2, 3, 4, 1, 0] rfl ?_
        exact t_X12_weigh_61 hX hq hp hlp17 _ _ _ _ _ _ _ hf
set_option maxRecDepth 100000 in
set_option maxHeartbeats 4000000 in
theorem t_X12_weigh_0 {X : Cx} {ad : Nat → Nat} {PostX : Option Value → va_W → Prop} (hX : Ok X cX12_weigh 5 RX12) (hq : Rq X 1 0 0 none PostX) {u : (Int32 × MS)} (hp : PostX none (mW X.E ad u.2)) (a1 : Int32) (S : MS) (hf : f_X12_weigh a1 S = some u) : G X 5 0 0 0 [(0, .ref (ad 0)), (1, .int a1)] [] (mW X.E ad S) := by
  unfold f_X12_weigh at hf
  refine g_aloadn hX 0 rfl rfl dX12_weigh_0 ?_
  refine g_iconst hX (v := 0) (by decide) dX12_weigh_1 ?_
  refine mp_as hX dX12_weigh_2 ?_
  refine g_aloadn hX 0 rfl rfl dX12_weigh_5 ?_
  refine g_iconst hX (v := 0) (by decide) dX12_weigh_6 ?_
  refine mp_other hX dX12_weigh_7 ?_
  refine g_aloadn hX 0 rfl rfl dX12_weigh_10 ?_
  refine g_iconst hX (v := 0) (by decide) dX12_weigh_11 ?_
  refine mp_fresh hX dX12_weigh_12 ?_
  refine g_iconst hX (v := 0) (by decide) dX12_weigh_15 ?_
  refine g_istoren hX [(2, .int 0), (0, .ref (ad 0)), (1, .int a1)] rfl (by decide) rfl dX12_weigh_16 ?_
  refine g_lv [1, 2, 0] rfl ?_
  exact t_X12_weigh_17 hX hq hp _ _ _ _ hf
theorem c_X12_weigh {l : Launch} {E : En} {ad : Nat → Nat} {a1 : Int32} {r : Int32} {S S2 : MS} (hf : f_X12_weigh a1 S = some (r, S2)) : CP l E yX12_weigh cX12_weigh 5 none 1 0 0 [] [.ref (ad 0), .int a1] (mW E ad S) (fun rv w => rv = none ∧ w = mW E ad S2) :=
  CP.of (lv := [(0, .ref (ad 0)), (1, .int a1)]) (by decide +kernel) (Nat.le_of_ble_eq_true rfl) rfl (fun X hl hE hro hX hq hn => by subst hl; subst hE; exact t_X12_weigh_0 hX hq ⟨rfl, rfl⟩ a1 S hf)
theorem kw_RX12_X12_weigh : KwV RX12 79 RX12 yX12_weigh cX12_weigh 5 none 1 := ⟨mem_wsV wd_5_113 wd_5_115 wd_s_21 wd_1_19 wd_5_116, rfl, ⟨by decide +kernel, by decide +kernel, by decide +kernel⟩, by decide⟩
theorem k_X12_weigh {X : Cx} {cc : ByteArray} {nL ce sl pc : Nat} {lv : List (Nat × Value)} {st : List Value} {dX mcX msX : Nat} {retX : Option FieldType} {PostX : Option Value → va_W → Prop} {ad : Nat → Nat} {S S2 : MS} {d : Nat} (hX : Ok X cc nL RX12) (hq : Rq X dX mcX msX retX PostX) {a1 : Int32} (hM : CP X.l X.E yX12_weigh cX12_weigh 5 none d 0 0 [] [.ref (ad 0), .int a1] (mW X.E ad S) (fun rv w => rv = none ∧ w = mW X.E ad S2)) (hd : d < dX) (hc : ce ≤ mcX) (hs : sl ≤ msX) (hcat : (st.map fun v => v.category).sum ≤ 8) (hdg : decode cc pc = .ok (.invokevirtual 79, 3)) (kk : G X nL ce sl (pc + 3) lv st (mW X.E ad S2)) : G X nL ce sl pc lv (.int a1 :: .ref (ad 0) :: st) (mW X.E ad S) :=
  g_eqW (app1 _) (g_callV (pre := []) (mid := mW X.E ad S) (post := []) [.int a1] hX hq kw_RX12_X12_weigh hM (fun _ h => absurd h List.not_mem_nil) hd hc hs rfl (Recv.of 0 12 rfl rfl) rfl hcat hdg (fun rv ws2 hp => by obtain ⟨rfl, rfl⟩ := hp; exact g_eqW (app1 _).symm kk))

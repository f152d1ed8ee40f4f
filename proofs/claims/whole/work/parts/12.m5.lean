def f_X12_rides_117 (lp17 : Int32 → Int32 → Int32 → MS → Option (Int32 × MS)) (x2 : Int32) (x3 : Int32) (x4 : Int32) (S : MS) : Option (Int32 × MS) :=
  bI (x4 + 1) fun v18 =>
  lp17 x2 x3 v18 S
def f_X12_rides_81 (lp17 : Int32 → Int32 → Int32 → MS → Option (Int32 × MS)) (x2 : Int32) (x3 : Int32) (x4 : Int32) (x5 : Int32) (x6 : Int32) (S : MS) : Option (Int32 × MS) :=
  if (x5 ≤ 0 : Prop) then
    f_X12_rides_117 lp17 x2 x3 x4 S
  else
    if (x5 = x6 : Prop) then
      f_X12_rides_117 lp17 x2 x3 x4 S
    else
      if (x3 < (2 * (S.1 1 9)) : Prop) then
        f_X12_rides_117 lp17 x2 x3 x4 S
      else
        gix (10 + x4) 206 fun k21 =>
        f_X12_rides_117 lp17 x2 x3 x4 (sA S 1 k21 0)
def f_X12_rides_123 (x3 : Int32) (S : MS) : Option (Int32 × MS) :=
  cs (f_X12_held ((S.1 1 1) + 1) 0 9999) fun r8 =>
  some (x3, (sA S 1 1 r8))
def f_X12_rides_17 : Nat → Int32 → Int32 → Int32 → MS → Option (Int32 × MS)
  | 0 => fun _ _ _ _ => none
  | n + 1 => fun x2 x3 x4 S =>
    let lp17 := f_X12_rides_17 n
    if (8 ≤ x4 : Prop) then
      f_X12_rides_123 x3 S
    else
      if (x3 < (S.1 1 9) : Prop) then
        f_X12_rides_123 x3 S
      else
        cb (f_X12_saying x2 x4 S) fun r13 S11 =>
        gix (10 + x4) 206 fun k14 =>
        bI (S11.1 1 k14) fun v15 =>
        if (r13 ≤ 0 : Prop) then
          f_X12_rides_81 lp17 x2 x3 x4 r13 v15 S11
        else
          if (v15 = 0 : Prop) then
            gix (10 + x4) 206 fun k23 =>
            f_X12_rides_117 lp17 x2 x3 x4 (sA S11 1 k23 r13)
          else
            f_X12_rides_81 lp17 x2 x3 x4 r13 v15 S11
def f_X12_rides (a1 : Int32) (S : MS) : Option (Int32 × MS) :=
  cb (f_X12_its a1 2 S) fun r3 S1 =>
  cb (f_X12_floorBy a1 r3 S1) fun r6 S4 =>
  f_X12_rides_17 100 r3 r6 0 S4
set_option maxRecDepth 100000 in
set_option maxHeartbeats 4000000 in
theorem t_X12_rides_117 {X : Cx} {ad : Nat → Nat} {PostX : Option Value → va_W → Prop} (hX : Ok X cX12_rides 7 RX12) (hq : Rq X 70 0 0 (some .int) PostX) {u : (Int32 × MS)} (hp : PostX (some (.int u.1)) (mW X.E ad u.2)) {lp17 : Int32 → Int32 → Int32 → MS → Option (Int32 × MS)} (hlp17 : ∀ (x2 : Int32) (x3 : Int32) (x4 : Int32) (S : MS), lp17 x2 x3 x4 S = some u → G X 7 0 0 17 [(0, .ref (ad 0)), (2, .int x2), (3, .int x3), (4, .int x4)] [] (mW X.E ad S)) (x2 : Int32) (x3 : Int32) (x4 : Int32) (S : MS) (hf : f_X12_rides_117 lp17 x2 x3 x4 S = some u) : G X 7 0 0 117 [(0, .ref (ad 0)), (2, .int x2), (3, .int x3), (4, .int x4)] [] (mW X.E ad S) := by
  unfold f_X12_rides_117 at hf
  obtain ⟨v18, ev18, hf⟩ := bI_open hf
  refine g_iinc hX 3 (v := v18) [(4, .int v18), (0, .ref (ad 0)), (2, .int x2), (3, .int x3)] rfl (by rw [ev18]; rfl) (by decide) rfl dX12_rides_117 ?_
  refine g_goto hX 17 (by decide) dX12_rides_120 ?_
  refine g_lv [1, 2, 3, 0] rfl ?_
  exact hlp17 _ _ _ _ hf
set_option maxRecDepth 100000 in
set_option maxHeartbeats 4000000 in
theorem t_X12_rides_81 {X : Cx} {ad : Nat → Nat} {PostX : Option Value → va_W → Prop} (hX : Ok X cX12_rides 7 RX12) (hq : Rq X 70 0 0 (some .int) PostX) {u : (Int32 × MS)} (hp : PostX (some (.int u.1)) (mW X.E ad u.2)) {lp17 : Int32 → Int32 → Int32 → MS → Option (Int32 × MS)} (hlp17 : ∀ (x2 : Int32) (x3 : Int32) (x4 : Int32) (S : MS), lp17 x2 x3 x4 S = some u → G X 7 0 0 17 [(0, .ref (ad 0)), (2, .int x2), (3, .int x3), (4, .int x4)] [] (mW X.E ad S)) (x2 : Int32) (x3 : Int32) (x4 : Int32) (x5 : Int32) (x6 : Int32) (S : MS) (hf : f_X12_rides_81 lp17 x2 x3 x4 x5 x6 S = some u) : G X 7 0 0 81 [(0, .ref (ad 0)), (2, .int x2), (3, .int x3), (4, .int x4), (5, .int x5), (6, .int x6)] [] (mW X.E ad S) := by
  unfold f_X12_rides_81 at hf
  refine g_iload hX 4 rfl dX12_rides_81 ?_
  refine g_if_le hX 117 (by decide) dX12_rides_83 (fun c17 => ?_) (fun c17 => ?_)
  · have hf := ite_t c17 hf
    refine g_lv [0, 1, 2, 3] rfl ?_
    exact t_X12_rides_117 hX hq hp hlp17 _ _ _ _ hf
  · have hf := ite_f c17 hf
    refine g_iload hX 4 rfl dX12_rides_86 ?_
    refine g_iload hX 5 rfl dX12_rides_88 ?_
    refine g_icmp_eq hX 117 (by decide) dX12_rides_90 (fun c19 => ?_) (fun c19 => ?_)
    · have hf := ite_t c19 hf
      refine g_lv [0, 1, 2, 3] rfl ?_
      exact t_X12_rides_117 hX hq hp hlp17 _ _ _ _ hf
    · have hf := ite_f c19 hf
      refine g_iloadn hX 2 rfl rfl dX12_rides_93 ?_
      refine g_iconst hX (v := 2) (by decide) dX12_rides_94 ?_
      refine g_aloadn hX 0 rfl rfl dX12_rides_95 ?_
      refine mg_row hX dX12_rides_96 ?_
      refine g_bipush hX (v := 9) (by decide) dX12_rides_99 ?_
      refine ml_row hX (vpc (by decide)) 9 (by decide) (v := S.1 1 9) rfl dX12_rides_101 ?_
      refine g_imul hX dX12_rides_102 ?_
      refine g_icmp_lt hX 117 (by decide) dX12_rides_103 (fun c20 => ?_) (fun c20 => ?_)
      · have hf := ite_t c20 hf
        refine g_lv [0, 1, 2, 3] rfl ?_
        exact t_X12_rides_117 hX hq hp hlp17 _ _ _ _ hf
      · have hf := ite_f c20 hf
        refine g_aloadn hX 0 rfl rfl dX12_rides_106 ?_
        refine mg_row hX dX12_rides_107 ?_
        refine g_bipush hX (v := 10) (by decide) dX12_rides_110 ?_
        refine g_iload hX 3 rfl dX12_rides_112 ?_
        refine g_iadd hX dX12_rides_114 ?_
        refine g_iconst hX (v := 0) (by decide) dX12_rides_115 ?_
        obtain ⟨k21, jk21, ik21, hf⟩ := gix_open hf
        refine ms_row hX ik21 k21 jk21 dX12_rides_116 ?_
        refine g_lv [0, 1, 2, 3] rfl ?_
        exact t_X12_rides_117 hX hq hp hlp17 _ _ _ _ hf
set_option maxRecDepth 100000 in
set_option maxHeartbeats 4000000 in
theorem t_X12_rides_123 {X : Cx} {ad : Nat → Nat} {PostX : Option Value → va_W → Prop} (hX : Ok X cX12_rides 7 RX12) (hq : Rq X 70 0 0 (some .int) PostX) {u : (Int32 × MS)} (hp : PostX (some (.int u.1)) (mW X.E ad u.2)) (x3 : Int32) (S : MS) (hf : f_X12_rides_123 x3 S = some u) : G X 7 0 0 123 [(0, .ref (ad 0)), (3, .int x3)] [] (mW X.E ad S) := by
  unfold f_X12_rides_123 at hf
  refine g_aloadn hX 0 rfl rfl dX12_rides_123 ?_
  refine mg_row hX dX12_rides_124 ?_
  refine g_iconst hX (v := 1) (by decide) dX12_rides_127 ?_
  refine g_aloadn hX 0 rfl rfl dX12_rides_128 ?_
  refine mg_row hX dX12_rides_129 ?_
  refine g_iconst hX (v := 1) (by decide) dX12_rides_132 ?_
  refine ml_row hX (vpc (by decide)) 1 (by decide) (v := S.1 1 1) rfl dX12_rides_133 ?_
  refine g_iconst hX (v := 1) (by decide) dX12_rides_134 ?_
  refine g_iadd hX dX12_rides_135 ?_
  refine g_iconst hX (v := 0) (by decide) dX12_rides_136 ?_
  refine g_sipush hX (v := 9999) (by decide) dX12_rides_137 ?_
  obtain ⟨r8, h9, hf⟩ := cs_open hf
  refine k_RX12_X12_held hX hq h9 (by decide) (by decide) (by decide) (Nat.le_of_ble_eq_true rfl) dX12_rides_140 ?_
  refine ms_row hX (vpc (by decide)) 1 (by decide) dX12_rides_143 ?_
  refine g_iloadn hX 1 rfl rfl dX12_rides_144 ?_
  obtain rfl := oi hf
  exact g_iret hX hq (by decide) (by decide) hp dX12_rides_145
set_option maxRecDepth 100000 in
set_option maxHeartbeats 4000000 in
theorem t_X12_rides_17 {X : Cx} {ad : Nat → Nat} {PostX : Option Value → va_W → Prop} (hX : Ok X cX12_rides 7 RX12) (hq : Rq X 70 0 0 (some .int) PostX) {u : (Int32 × MS)} (hp : PostX (some (.int u.1)) (mW X.E ad u.2)) : ∀ (n : Nat) (x2 : Int32) (x3 : Int32) (x4 : Int32) (S : MS), f_X12_rides_17 n x2 x3 x4 S = some u → G X 7 0 0 17 [(0, .ref (ad 0)), (2, .int x2), (3, .int x3), (4, .int x4)] [] (mW X.E ad S) := by
  intro n
  induction n with
  | zero => intro _ _ _ _ hf; unfold f_X12_rides_17 at hf; cases hf
  | succ n hlp17 =>
  intro x2 x3 x4 S hf
  unfold f_X12_rides_17 at hf
  refine g_iload hX 3 rfl dX12_rides_17 ?_
  refine g_bipush hX (v := 8) (by decide) dX12_rides_19 ?_
  refine g_icmp_ge hX 123 (by decide) dX12_rides_21 (fun c7 => ?_) (fun c7 => ?_)
  · have hf := ite_t c7 hf
    refine g_lv [0, 2] rfl ?_
    exact t_X12_rides_123 hX hq hp _ _ hf
  · have hf := ite_f c7 hf
    refine g_iloadn hX 2 rfl rfl dX12_rides_24 ?_
    refine g_aloadn hX 0 rfl rfl dX12_rides_25 ?_
    refine mg_row hX dX12_rides_26 ?_
    refine g_bipush hX (v := 9) (by decide) dX12_rides_29 ?_
    refine ml_row hX (vpc (by decide)) 9 (by decide) (v := S.1 1 9) rfl dX12_rides_31 ?_
    refine g_icmp_lt hX 123 (by decide) dX12_rides_32 (fun c10 => ?_) (fun c10 => ?_)
    · have hf := ite_t c10 hf
      refine g_lv [0, 2] rfl ?_
      exact t_X12_rides_123 hX hq hp _ _ hf
    · have hf := ite_f c10 hf
      refine g_aloadn hX 0 rfl rfl dX12_rides_35 ?_
      refine g_iloadn hX 1 rfl rfl dX12_rides_36 ?_
      refine g_iload hX 3 rfl dX12_rides_37 ?_
      obtain ⟨r13, S11, h12, hf⟩ := cb_open hf
      refine k_X12_saying hX hq (c_X12_saying h12) (by decide) (by decide) (by decide) (Nat.le_of_ble_eq_true rfl) dX12_rides_39 ?_
      refine g_istore hX [(5, .int r13), (0, .ref (ad 0)), (2, .int x2), (3, .int x3), (4, .int x4)] (by decide) rfl dX12_rides_42 ?_
      refine g_aloadn hX 1 rfl rfl dX12_rides_44 ?_
      refine mg_row hX dX12_rides_45 ?_
      refine g_bipush hX (v := 10) (by decide) dX12_rides_48 ?_
      refine g_iload hX 4 rfl dX12_rides_50 ?_
      refine g_iadd hX dX12_rides_52 ?_
      obtain ⟨k14, jk14, ik14, hf⟩ := gix_open hf
      refine ml_row hX ik14 k14 jk14 (v := S11.1 1 k14) rfl dX12_rides_53 ?_
      obtain ⟨v15, ev15, hf⟩ := bI_open hf
      refine g_nm ev15 ?_
      refine g_istore hX [(6, .int v15), (5, .int r13), (0, .ref (ad 0)), (2, .int x2), (3, .int x3), (4, .int x4)] (by decide) rfl dX12_rides_54 ?_
      refine g_iload hX 1 rfl dX12_rides_56 ?_
      refine g_if_le hX 81 (by decide) dX12_rides_58 (fun c16 => ?_) (fun c16 => ?_)
      · have hf := ite_t c16 hf
        refine g_lv [2, 3, 4, 5, 1, 0] rfl ?_
        exact t_X12_rides_81 hX hq hp hlp17 _ _ _ _ _ _ hf
      · have hf := ite_f c16 hf
        refine g_iload hX 0 rfl dX12_rides_61 ?_
        refine g_if_ne hX 81 (by decide) dX12_rides_63 (fun c22 => ?_) (fun c22 => ?_)
        · have hf := ite_f c22 hf
          refine g_lv [2, 3, 4, 5, 1, 0] rfl ?_
          exact t_X12_rides_81 hX hq hp hlp17 _ _ _ _ _ _ hf
        · have hf := ite_t c22 hf
          refine g_aloadn hX 2 rfl rfl dX12_rides_66 ?_
          refine mg_row hX dX12_rides_67 ?_
          refine g_bipush hX (v := 10) (by decide) dX12_rides_70 ?_
          refine g_iload hX 5 rfl dX12_rides_72 ?_
          refine g_iadd hX dX12_rides_74 ?_
          refine g_iload hX 1 rfl dX12_rides_75 ?_
          obtain ⟨k23, jk23, ik23, hf⟩ := gix_open hf
          refine ms_row hX ik23 k23 jk23 dX12_rides_77 ?_
          refine g_goto hX 117 (by decide) dX12_rides_78 ?_
          refine g_lv [2, 3, 4, 5] rfl ?_
          exact t_X12_rides_117 hX hq hp hlp17 _ _ _ _ hf
set_option maxRecDepth 100000 in
set_option maxHeartbeats 4000000 in
theorem t_X12_rides_0 {X : Cx} {ad : Nat → Nat} {PostX : Option Value → va_W → Prop} (hX : Ok X cX12_rides 7 RX12) (hq : Rq X 70 0 0 (some .int) PostX) {u : (Int32 × MS)} (hp : PostX (some (.int u.1)) (mW X.E ad u.2)) (a1 : Int32) (S : MS) (hf : f_X12_rides a1 S = some u) : G X 7 0 0 0 [(0, .ref (ad 0)), (1, .int a1)] [] (mW X.E ad S) := by
  unfold f_X12_rides at hf
  refine g_aloadn hX 0 rfl rfl dX12_rides_0 ?_
  refine g_iloadn hX 1 rfl rfl dX12_rides_1 ?_
  refine g_iconst hX (v := 2) (by decide) dX12_rides_2 ?_
  obtain ⟨r3, S1, h2, hf⟩ := cb_open hf
  refine k_X12_its hX hq (c_X12_its h2) (by decide) (by decide) (by decide) (Nat.le_of_ble_eq_true rfl) dX12_rides_3 ?_
  refine g_istoren hX [(2, .int r3), (0, .ref (ad 0)), (1, .int a1)] rfl (by decide) rfl dX12_rides_6 ?_
  refine g_aloadn hX 1 rfl rfl dX12_rides_7 ?_
  refine g_iloadn hX 2 rfl rfl dX12_rides_8 ?_
  refine g_iloadn hX 0 rfl rfl dX12_rides_9 ?_
  obtain ⟨r6, S4, h5, hf⟩ := cb_open hf
  refine k_X12_floorBy hX hq (c_X12_floorBy h5) (by decide) (by decide) (by decide) (Nat.le_of_ble_eq_true rfl) dX12_rides_10 ?_
  refine g_istoren hX [(3, .int r6), (2, .int r3), (0, .ref (ad 0)), (1, .int a1)] rfl (by decide) rfl dX12_rides_13 ?_
  refine g_iconst hX (v := 0) (by decide) dX12_rides_14 ?_
  refine g_istore hX [(4, .int 0), (3, .int r6), (2, .int r3), (0, .ref (ad 0)), (1, .int a1)] (by decide) rfl dX12_rides_15 ?_
  refine g_lv [3, 2, 1, 0] rfl ?_
  exact t_X12_rides_17 hX hq hp _ _ _ _ _ hf
theorem c_X12_rides {l : Launch} {E : En} {ad : Nat → Nat} {a1 : Int32} {r : Int32} {S S2 : MS} (hf : f_X12_rides a1 S = some (r, S2)) : CP l E yX12_rides cX12_rides 7 (some .int) 70 0 0 [] [.ref (ad 0), .int a1] (mW E ad S) (fun rv w => rv = some (.int r) ∧ w = mW E ad S2) :=
  CP.of (lv := [(0, .ref (ad 0)), (1, .int a1)]) (by decide +kernel) (Nat.le_of_ble_eq_true rfl) rfl (fun X hl hE hro hX hq hn => by subst hl; subst hE; exact t_X12_rides_0 hX hq ⟨rfl, rfl⟩ a1 S hf)
theorem kw_RX12_X12_rides : KwV RX12 184 RX12 yX12_rides cX12_rides 7 (some .int) 1 := ⟨mem_wsV wd_5_236 wd_5_238 wd_s_41 wd_1_19 wd_5_239, rfl, ⟨by decide +kernel, by decide +kernel, by decide +kernel⟩, by decide⟩
theorem k_X12_rides {X : Cx} {cc : ByteArray} {nL ce sl pc : Nat} {lv : List (Nat × Value)} {st : List Value} {dX mcX msX : Nat} {retX : Option FieldType} {PostX : Option Value → va_W → Prop} {ad : Nat → Nat} {S S2 : MS} {d : Nat} (hX : Ok X cc nL RX12) (hq : Rq X dX mcX msX retX PostX) {a1 : Int32} {r : Int32} (hM : CP X.l X.E yX12_rides cX12_rides 7 (some .int) d 0 0 [] [.ref (ad 0), .int a1] (mW X.E ad S) (fun rv w => rv = some (.int r) ∧ w = mW X.E ad S2)) (hd : d < dX) (hc : ce ≤ mcX) (hs : sl ≤ msX) (hcat : (st.map fun v => v.category).sum ≤ 8) (hdg : decode cc pc = .ok (.invokevirtual 184, 3)) (kk : G X nL ce sl (pc + 3) lv (.int r :: st) (mW X.E ad S2)) : G X nL ce sl pc lv (.int a1 :: .ref (ad 0) :: st) (mW X.E ad S) :=
  g_eqW (app1 _) (g_callV (pre := []) (mid := mW X.E ad S) (post := []) [.int a1] hX hq kw_RX12_X12_rides hM (fun _ h => absurd h List.not_mem_nil) hd hc hs rfl (Recv.of 0 12 rfl rfl) rfl hcat hdg (fun rv ws2 hp => by obtain ⟨rfl, rfl⟩ := hp; exact g_eqW (app1 _).symm kk))
def f_X12_ride (a1 : Int32) (S : MS) : Option (Int32 × MS) :=
  cb (f_X12_isRider a1 S) fun r3 S1 =>
  if (r3 = 0 : Prop) then
    cb (f_X12_errs (-1000000001) S1) fun r7 S5 =>
    some (r7, S5)
  else
    cb (f_X12_rides a1 S1) fun r10 S8 =>
    some (r10, S8)
set_option maxRecDepth 100000 in
set_option maxHeartbeats 4000000 in
theorem t_X12_ride_0 {X : Cx} {ad : Nat → Nat} {PostX : Option Value → va_W → Prop} (hX : Ok X cX12_ride 2 RX12) (hq : Rq X 71 0 0 (some .int) PostX) {u : (Int32 × MS)} (hp : PostX (some (.int u.1)) (mW X.E ad u.2)) (a1 : Int32) (S : MS) (hf : f_X12_ride a1 S = some u) : G X 2 0 0 0 [(0, .ref (ad 0)), (1, .int a1)] [] (mW X.E ad S) := by
  unfold f_X12_ride at hf
  refine g_aloadn hX 0 rfl rfl dX12_ride_0 ?_
  refine g_iloadn hX 1 rfl rfl dX12_ride_1 ?_
  obtain ⟨r3, S1, h2, hf⟩ := cb_open hf
  refine k_X12_isRider hX hq (c_X12_isRider h2) (by decide) (by decide) (by decide) (Nat.le_of_ble_eq_true rfl) dX12_ride_2 ?_
  refine g_if_eq hX 16 (by decide) dX12_ride_5 (fun c4 => ?_) (fun c4 => ?_)
  · have hf := ite_t c4 hf
    refine g_aloadn hX 0 rfl rfl dX12_ride_16 ?_
    refine g_ldc hX (v := (-1000000001)) wd_5_74 dX12_ride_17 ?_
    obtain ⟨r7, S5, h6, hf⟩ := cb_open hf
    refine k_X12_errs hX hq (c_X12_errs h6) (by decide) (by decide) (by decide) (Nat.le_of_ble_eq_true rfl) dX12_ride_19 ?_
    obtain rfl := oi hf
    exact g_iret hX hq (by decide) (by decide) hp dX12_ride_22
  · have hf := ite_f c4 hf
    refine g_aloadn hX 0 rfl rfl dX12_ride_8 ?_
    refine g_iloadn hX 1 rfl rfl dX12_ride_9 ?_
    obtain ⟨r10, S8, h9, hf⟩ := cb_open hf
    refine k_X12_rides hX hq (c_X12_rides h9) (by decide) (by decide) (by decide) (Nat.le_of_ble_eq_true rfl) dX12_ride_10 ?_
    refine g_goto hX 22 (by decide) dX12_ride_13 ?_
    obtain rfl := oi hf
    exact g_iret hX hq (by decide) (by decide) hp dX12_ride_22
theorem c_X12_ride {l : Launch} {E : En} {ad : Nat → Nat} {a1 : Int32} {r : Int32} {S S2 : MS} (hf : f_X12_ride a1 S = some (r, S2)) : CP l E yX12_ride cX12_ride 2 (some .int) 71 0 0 [] [.ref (ad 0), .int a1] (mW E ad S) (fun rv w => rv = some (.int r) ∧ w = mW E ad S2) :=
  CP.of (lv := [(0, .ref (ad 0)), (1, .int a1)]) (by decide +kernel) (Nat.le_of_ble_eq_true rfl) rfl (fun X hl hE hro hX hq hn => by subst hl; subst hE; exact t_X12_ride_0 hX hq ⟨rfl, rfl⟩ a1 S hf)
def f_X12_oneDay_2 : Nat → Int32 → MS → Option (Int32 × MS)
  | 0 => fun _ _ => none
  | n + 1 => fun x1 S =>
    let lp2 := f_X12_oneDay_2 n
    if ((S.1 1 3) ≤ x1 : Prop) then
      bI ((S.1 1 0) + 1) fun v2 =>
      some (0, (sA S 1 0 v2))
    else
      cb (f_X12_rides x1 S) fun r5 S3 =>
      bI (x1 + 1) fun v6 =>
      lp2 v6 S3
def f_X12_oneDay (S : MS) : Option (Int32 × MS) :=
  f_X12_oneDay_2 100 0 S
set_option maxRecDepth 100000 in
set_option maxHeartbeats 4000000 in
theorem t_X12_oneDay_2 {X : Cx} {ad : Nat → Nat} {PostX : Option Value → va_W → Prop} (hX : Ok X cX12_oneDay 2 RX12) (hq : Rq X 71 0 0 none PostX) {u : (Int32 × MS)} (hp : PostX none (mW X.E ad u.2)) : ∀ (n : Nat) (x1 : Int32) (S : MS), f_X12_oneDay_2 n x1 S = some u → G X 2 0 0 2 [(0, .ref (ad 0)), (1, .int x1)] [] (mW X.E ad S) := by
  intro n
  induction n with
  | zero => intro _ _ hf; unfold f_X12_oneDay_2 at hf; cases hf
  | succ n hlp2 =>
  intro x1 S hf
  unfold f_X12_oneDay_2 at hf
  refine g_iloadn hX 1 rfl rfl dX12_oneDay_2 ?_
  refine g_aloadn hX 0 rfl rfl dX12_oneDay_3 ?_
  refine mg_row hX dX12_oneDay_4 ?_
  refine g_iconst hX (v := 3) (by decide) dX12_oneDay_7 ?_
  refine ml_row hX (vpc (by decide)) 3 (by decide) (v := S.1 1 3) rfl dX12_oneDay_8 ?_
  refine g_icmp_ge hX 24 (by decide) dX12_oneDay_9 (fun c1 => ?_) (fun c1 => ?_)
  · have hf := ite_t c1 hf
    refine g_aloadn hX 0 rfl rfl dX12_oneDay_24 ?_
    refine mg_row hX dX12_oneDay_25 ?_
    refine g_iconst hX (v := 0) (by decide) dX12_oneDay_28 ?_
    refine g_dup2 hX rfl rfl dX12_oneDay_29 ?_
    refine ml_row hX (vpc (by decide)) 0 (by decide) (v := S.1 1 0) rfl dX12_oneDay_30 ?_
    refine g_iconst hX (v := 1) (by decide) dX12_oneDay_31 ?_
    refine g_iadd hX dX12_oneDay_32 ?_
    obtain ⟨v2, ev2, hf⟩ := bI_open hf
    refine g_nm ev2 ?_
    refine ms_row hX (vpc (by decide)) 0 (by decide) dX12_oneDay_33 ?_
    obtain rfl := oi hf
    exact g_vret hX hq (by decide) (by decide) hp dX12_oneDay_34
  · have hf := ite_f c1 hf
    refine g_aloadn hX 0 rfl rfl dX12_oneDay_12 ?_
    refine g_iloadn hX 1 rfl rfl dX12_oneDay_13 ?_
    obtain ⟨r5, S3, h4, hf⟩ := cb_open hf
    refine k_X12_rides hX hq (c_X12_rides h4) (by decide) (by decide) (by decide) (Nat.le_of_ble_eq_true rfl) dX12_oneDay_14 ?_
    refine g_pop hX rfl dX12_oneDay_17 ?_
    obtain ⟨v6, ev6, hf⟩ := bI_open hf
    refine g_iinc hX 1 (v := v6) [(1, .int v6), (0, .ref (ad 0))] rfl (by rw [ev6]; rfl) (by decide) rfl dX12_oneDay_18 ?_
    refine g_goto hX 2 (by decide) dX12_oneDay_21 ?_
    refine g_lv [1, 0] rfl ?_
    exact hlp2 _ _ hf
set_option maxRecDepth 100000 in
set_option maxHeartbeats 4000000 in
theorem t_X12_oneDay_0 {X : Cx} {ad : Nat → Nat} {PostX : Option Value → va_W → Prop} (hX : Ok X cX12_oneDay 2 RX12) (hq : Rq X 71 0 0 none PostX) {u : (Int32 × MS)} (hp : PostX none (mW X.E ad u.2)) (S : MS) (hf : f_X12_oneDay S = some u) : G X 2 0 0 0 [(0, .ref (ad 0))] [] (mW X.E ad S) := by
  unfold f_X12_oneDay at hf
  refine g_iconst hX (v := 0) (by decide) dX12_oneDay_0 ?_
  refine g_istoren hX [(1, .int 0), (0, .ref (ad 0))] rfl (by decide) rfl dX12_oneDay_1 ?_
  refine g_lv [1, 0] rfl ?_
  exact t_X12_oneDay_2 hX hq hp _ _ _ hf
theorem c_X12_oneDay {l : Launch} {E : En} {ad : Nat → Nat} {r : Int32} {S S2 : MS} (hf : f_X12_oneDay S = some (r, S2)) : CP l E yX12_oneDay cX12_oneDay 2 none 71 0 0 [] [.ref (ad 0)] (mW E ad S) (fun rv w => rv = none ∧ w = mW E ad S2) :=
  CP.of (lv := [(0, .ref (ad 0))]) (by decide +kernel) (Nat.le_of_ble_eq_true rfl) rfl (fun X hl hE hro hX hq hn => by subst hl; subst hE; exact t_X12_oneDay_0 hX hq ⟨rfl, rfl⟩ S hf)
theorem kw_RX12_X12_oneDay : KwV RX12 188 RX12 yX12_oneDay cX12_oneDay 2 none 0 := ⟨mem_wsV wd_6_5 wd_6_7 wd_s_42 wd_1_19 wd_6_8, rfl, ⟨by decide +kernel, by decide +kernel, by decide +kernel⟩, by decide⟩
theorem k_X12_oneDay {X : Cx} {cc : ByteArray} {nL ce sl pc : Nat} {lv : List (Nat × Value)} {st : List Value} {dX mcX msX : Nat} {retX : Option FieldType} {PostX : Option Value → va_W → Prop} {ad : Nat → Nat} {S S2 : MS} {d : Nat} (hX : Ok X cc nL RX12) (hq : Rq X dX mcX msX retX PostX) (hM : CP X.l X.E yX12_oneDay cX12_oneDay 2 none d 0 0 [] [.ref (ad 0)] (mW X.E ad S) (fun rv w => rv = none ∧ w = mW X.E ad S2)) (hd : d < dX) (hc : ce ≤ mcX) (hs : sl ≤ msX) (hcat : (st.map fun v => v.category).sum ≤ 8) (hdg : decode cc pc = .ok (.invokevirtual 188, 3)) (kk : G X nL ce sl (pc + 3) lv st (mW X.E ad S2)) : G X nL ce sl pc lv (.ref (ad 0) :: st) (mW X.E ad S) :=
  g_eqW (app1 _) (g_callV (pre := []) (mid := mW X.E ad S) (post := []) [] hX hq kw_RX12_X12_oneDay hM (fun _ h => absurd h List.not_mem_nil) hd hc hs rfl (Recv.of 0 12 rfl rfl) rfl hcat hdg (fun rv ws2 hp => by obtain ⟨rfl, rfl⟩ := hp; exact g_eqW (app1 _).symm kk))
def f_X12_days_40 : Nat → Int32 → Int32 → MS → Option (Int32 × MS)
  | 0 => fun _ _ _ => none
  | n + 1 => fun x1 x2 S =>
    let lp40 := f_X12_days_40 n
    if (x1 ≤ x2 : Prop) then
      cb (f_X12_heardAll S) fun r8 S6 =>
      some (r8, S6)
    else
      cb (f_X12_oneDay S) fun _ S9 =>
      bI (x2 + 1) fun v12 =>
      lp40 x1 v12 S9
def f_X12_days (a1 : Int32) (S : MS) : Option (Int32 × MS) :=
  cs (f_X12_in a1 1 60) fun r1 =>
  if (r1 = 0 : Prop) then
    cb (f_X12_errs (-1000000001) S) fun r18 S16 =>
    some (r18, S16)
  else
    if (((S.1 1 0) + a1) ≤ 9999 : Prop) then
      f_X12_days_40 100 a1 0 S
    else
      cb (f_X12_errs (-1000000003) S) fun r15 S13 =>
      some (r15, S13)
set_option maxRecDepth 100000 in
set_option maxHeartbeats 4000000 in
theorem t_X12_days_40 {X : Cx} {ad : Nat → Nat} {PostX : Option Value → va_W → Prop} (hX : Ok X cX12_days 3 RX12) (hq : Rq X 72 0 0 (some .int) PostX) {u : (Int32 × MS)} (hp : PostX (some (.int u.1)) (mW X.E ad u.2)) : ∀ (n : Nat) (x1 : Int32) (x2 : Int32) (S : MS), f_X12_days_40 n x1 x2 S = some u → G X 3 0 0 40 [(0, .ref (ad 0)), (1, .int x1), (2, .int x2)] [] (mW X.E ad S) := by
  intro n
  induction n with
  | zero => intro _ _ _ hf; unfold f_X12_days_40 at hf; cases hf
  | succ n hlp40 =>
  intro x1 x2 S hf
  unfold f_X12_days_40 at hf
  refine g_iloadn hX 2 rfl rfl dX12_days_40 ?_
  refine g_iloadn hX 1 rfl rfl dX12_days_41 ?_
  refine g_icmp_ge hX 55 (by decide) dX12_days_42 (fun c5 => ?_) (fun c5 => ?_)
  · have hf := ite_t c5 hf
    refine g_aloadn hX 0 rfl rfl dX12_days_55 ?_
    obtain ⟨r8, S6, h7, hf⟩ := cb_open hf
    refine k_X12_heardAll hX hq (c_X12_heardAll h7) (by decide) (by decide) (by decide) (Nat.le_of_ble_eq_true rfl) dX12_days_56 ?_
    obtain rfl := oi hf
    exact g_iret hX hq (by decide) (by decide) hp dX12_days_59
  · have hf := ite_f c5 hf
    refine g_aloadn hX 0 rfl rfl dX12_days_45 ?_
    obtain ⟨z11, S9, h10, hf⟩ := cb_open hf
    refine k_X12_oneDay hX hq (c_X12_oneDay h10) (by decide) (by decide) (by decide) (Nat.le_of_ble_eq_true rfl) dX12_days_46 ?_
    obtain ⟨v12, ev12, hf⟩ := bI_open hf
    refine g_iinc hX 2 (v := v12) [(2, .int v12), (0, .ref (ad 0)), (1, .int x1)] rfl (by rw [ev12]; rfl) (by decide) rfl dX12_days_49 ?_
    refine g_goto hX 40 (by decide) dX12_days_52 ?_
    refine g_lv [1, 2, 0] rfl ?_
    exact hlp40 _ _ _ hf
set_option maxRecDepth 100000 in
set_option maxHeartbeats 4000000 in
theorem t_X12_days_0 {X : Cx} {ad : Nat → Nat} {PostX : Option Value → va_W → Prop} (hX : Ok X cX12_days 3 RX12) (hq : Rq X 72 0 0 (some .int) PostX) {u : (Int32 × MS)} (hp : PostX (some (.int u.1)) (mW X.E ad u.2)) (a1 : Int32) (S : MS) (hf : f_X12_days a1 S = some u) : G X 3 0 0 0 [(0, .ref (ad 0)), (1, .int a1)] [] (mW X.E ad S) := by
  unfold f_X12_days at hf
  refine g_iloadn hX 1 rfl rfl dX12_days_0 ?_
  refine g_iconst hX (v := 1) (by decide) dX12_days_1 ?_
  refine g_bipush hX (v := 60) (by decide) dX12_days_2 ?_
  obtain ⟨r1, h2, hf⟩ := cs_open hf
  refine k_RX12_X12_in hX hq h2 (by decide) (by decide) (by decide) (Nat.le_of_ble_eq_true rfl) dX12_days_4 ?_
  refine g_if_ne hX 17 (by decide) dX12_days_7 (fun c3 => ?_) (fun c3 => ?_)
  · have hf := ite_f c3 hf
    refine g_aloadn hX 0 rfl rfl dX12_days_17 ?_
    refine mg_row hX dX12_days_18 ?_
    refine g_iconst hX (v := 0) (by decide) dX12_days_21 ?_
    refine ml_row hX (vpc (by decide)) 0 (by decide) (v := S.1 1 0) rfl dX12_days_22 ?_
    refine g_iloadn hX 1 rfl rfl dX12_days_23 ?_
    refine g_iadd hX dX12_days_24 ?_
    refine g_sipush hX (v := 9999) (by decide) dX12_days_25 ?_
    refine g_icmp_le hX 38 (by decide) dX12_days_28 (fun c4 => ?_) (fun c4 => ?_)
    · have hf := ite_t c4 hf
      refine g_iconst hX (v := 0) (by decide) dX12_days_38 ?_
      refine g_istoren hX [(2, .int 0), (0, .ref (ad 0)), (1, .int a1)] rfl (by decide) rfl dX12_days_39 ?_
      refine g_lv [1, 2, 0] rfl ?_
      exact t_X12_days_40 hX hq hp _ _ _ _ hf
    · have hf := ite_f c4 hf
      refine g_aloadn hX 0 rfl rfl dX12_days_31 ?_
      refine g_ldc hX (v := (-1000000003)) wd_6_4 dX12_days_32 ?_
      obtain ⟨r15, S13, h14, hf⟩ := cb_open hf
      refine k_X12_errs hX hq (c_X12_errs h14) (by decide) (by decide) (by decide) (Nat.le_of_ble_eq_true rfl) dX12_days_34 ?_
      obtain rfl := oi hf
      exact g_iret hX hq (by decide) (by decide) hp dX12_days_37
  · have hf := ite_t c3 hf
    refine g_aloadn hX 0 rfl rfl dX12_days_10 ?_
    refine g_ldc hX (v := (-1000000001)) wd_5_74 dX12_days_11 ?_
    obtain ⟨r18, S16, h17, hf⟩ := cb_open hf
    refine k_X12_errs hX hq (c_X12_errs h17) (by decide) (by decide) (by decide) (Nat.le_of_ble_eq_true rfl) dX12_days_13 ?_
    obtain rfl := oi hf
    exact g_iret hX hq (by decide) (by decide) hp dX12_days_16
theorem c_X12_days {l : Launch} {E : En} {ad : Nat → Nat} {a1 : Int32} {r : Int32} {S S2 : MS} (hf : f_X12_days a1 S = some (r, S2)) : CP l E yX12_days cX12_days 3 (some .int) 72 0 0 [] [.ref (ad 0), .int a1] (mW E ad S) (fun rv w => rv = some (.int r) ∧ w = mW E ad S2) :=
  CP.of (lv := [(0, .ref (ad 0)), (1, .int a1)]) (by decide +kernel) (Nat.le_of_ble_eq_true rfl) rfl (fun X hl hE hro hX hq hn => by subst hl; subst hE; exact t_X12_days_0 hX hq ⟨rfl, rfl⟩ a1 S hf)
def f_X12_drawn (a1 : Int32) (S : MS) : Option (Int32 × MS) :=
  bI (((S.1 1 2) * 1103515245) + 12345) fun v1 =>
  gnz a1 <|
  some ((jrem (jushr ((sA S 1 2 v1).1 1 2) 8) a1), (sA S 1 2 v1))
set_option maxRecDepth 100000 in
set_option maxHeartbeats 4000000 in
theorem t_X12_drawn_0 {X : Cx} {ad : Nat → Nat} {PostX : Option Value → va_W → Prop} (hX : Ok X cX12_drawn 2 RX12) (hq : Rq X 0 0 0 (some .int) PostX) {u : (Int32 × MS)} (hp : PostX (some (.int u.1)) (mW X.E ad u.2)) (a1 : Int32) (S : MS) (hf : f_X12_drawn a1 S = some u) : G X 2 0 0 0 [(0, .ref (ad 0)), (1, .int a1)] [] (mW X.E ad S) := by
  unfold f_X12_drawn at hf
  refine g_aloadn hX 0 rfl rfl dX12_drawn_0 ?_
  refine mg_row hX dX12_drawn_1 ?_
  refine g_iconst hX (v := 2) (by decide) dX12_drawn_4 ?_
  refine g_aloadn hX 0 rfl rfl dX12_drawn_5 ?_
  refine mg_row hX dX12_drawn_6 ?_
  refine g_iconst hX (v := 2) (by decide) dX12_drawn_9 ?_
  refine ml_row hX (vpc (by decide)) 2 (by decide) (v := S.1 1 2) rfl dX12_drawn_10 ?_
  refine g_ldc hX (v := 1103515245) wd_6_17 dX12_drawn_11 ?_
  refine g_imul hX dX12_drawn_13 ?_
  refine g_sipush hX (v := 12345) (by decide) dX12_drawn_14 ?_
  refine g_iadd hX dX12_drawn_17 ?_
  obtain ⟨v1, ev1, hf⟩ := bI_open hf
  refine g_nm ev1 ?_
  refine ms_row hX (vpc (by decide)) 2 (by decide) dX12_drawn_18 ?_
  refine g_aloadn hX 0 rfl rfl dX12_drawn_19 ?_
  refine mg_row hX dX12_drawn_20 ?_
  refine g_iconst hX (v := 2) (by decide) dX12_drawn_23 ?_
  refine ml_row hX (vpc (by decide)) 2 (by decide) (v := (sA S 1 2 v1).1 1 2) rfl dX12_drawn_24 ?_
  refine g_bipush hX (v := 8) (by decide) dX12_drawn_25 ?_
  refine g_jushr hX dX12_drawn_27 ?_
  refine g_iloadn hX 1 rfl rfl dX12_drawn_28 ?_
  obtain ⟨h2, hf⟩ := gnz_open hf
  refine g_jrem hX h2 dX12_drawn_29 ?_
  obtain rfl := oi hf
  exact g_iret hX hq (by decide) (by decide) hp dX12_drawn_30
theorem c_X12_drawn {l : Launch} {E : En} {ad : Nat → Nat} {a1 : Int32} {r : Int32} {S S2 : MS} (hf : f_X12_drawn a1 S = some (r, S2)) : CP l E yX12_drawn cX12_drawn 2 (some .int) 0 0 0 [] [.ref (ad 0), .int a1] (mW E ad S) (fun rv w => rv = some (.int r) ∧ w = mW E ad S2) :=
  CP.of (lv := [(0, .ref (ad 0)), (1, .int a1)]) (by decide +kernel) (Nat.le_of_ble_eq_true rfl) rfl (fun X hl hE hro hX hq hn => by subst hl; subst hE; exact t_X12_drawn_0 hX hq ⟨rfl, rfl⟩ a1 S hf)
theorem kw_RX12_X12_drawn : KwV RX12 192 RX12 yX12_drawn cX12_drawn 2 (some .int) 1 := ⟨mem_wsV wd_6_13 wd_6_15 wd_s_43 wd_1_19 wd_6_16, rfl, ⟨by decide +kernel, by decide +kernel, by decide +kernel⟩, by decide⟩
theorem k_X12_drawn {X : Cx} {cc : ByteArray} {nL ce sl pc : Nat} {lv : List (Nat × Value)} {st : List Value} {dX mcX msX : Nat} {retX : Option FieldType} {PostX : Option Value → va_W → Prop} {ad : Nat → Nat} {S S2 : MS} {d : Nat} (hX : Ok X cc nL RX12) (hq : Rq X dX mcX msX retX PostX) {a1 : Int32} {r : Int32} (hM : CP X.l X.E yX12_drawn cX12_drawn 2 (some .int) d 0 0 [] [.ref (ad 0), .int a1] (mW X.E ad S) (fun rv w => rv = some (.int r) ∧ w = mW X.E ad S2)) (hd : d < dX) (hc : ce ≤ mcX) (hs : sl ≤ msX) (hcat : (st.map fun v => v.category).sum ≤ 8) (hdg : decode cc pc = .ok (.invokevirtual 192, 3)) (kk : G X nL ce sl (pc + 3) lv (.int r :: st) (mW X.E ad S2)) : G X nL ce sl pc lv (.int a1 :: .ref (ad 0) :: st) (mW X.E ad S) :=
  g_eqW (app1 _) (g_callV (pre := []) (mid := mW X.E ad S) (post := []) [.int a1] hX hq kw_RX12_X12_drawn hM (fun _ h => absurd h List.not_mem_nil) hd hc hs rfl (Recv.of 0 12 rfl rfl) rfl hcat hdg (fun rv ws2 hp => by obtain ⟨rfl, rfl⟩ := hp; exact g_eqW (app1 _).symm kk))
def f_X12_rumours_40 : Nat → Int32 → Int32 → MS → Option (Int32 × MS)
  | 0 => fun _ _ _ => none
  | n + 1 => fun x1 x2 S =>
    let lp40 := f_X12_rumours_40 n
    if (x1 ≤ x2 : Prop) then
      cb (f_X12_heardAll S) fun r8 S6 =>
      some (r8, S6)
    else
      cb (f_X12_drawn 8 S) fun r11 S9 =>
      cb (f_X12_drawn 3 S9) fun r14 S12 =>
      gix (10 + r11) 206 fun k15 =>
      cb (f_X12_oneDay (sA S12 1 k15 r14)) fun _ S16 =>
      bI (x2 + 1) fun v19 =>
      lp40 x1 v19 S16
def f_X12_rumours (a1 : Int32) (S : MS) : Option (Int32 × MS) :=
  cs (f_X12_in a1 1 40) fun r1 =>
  if (r1 = 0 : Prop) then
    cb (f_X12_errs (-1000000001) S) fun r25 S23 =>
    some (r25, S23)
  else
    if (((S.1 1 0) + a1) ≤ 9999 : Prop) then
      f_X12_rumours_40 100 a1 0 S
    else
      cb (f_X12_errs (-1000000003) S) fun r22 S20 =>
      some (r22, S20)
set_option maxRecDepth 100000 in
set_option maxHeartbeats 4000000 in
theorem t_X12_rumours_40 {X : Cx} {ad : Nat → Nat} {PostX : Option Value → va_W → Prop} (hX : Ok X cX12_rumours 4 RX12) (hq : Rq X 72 0 0 (some .int) PostX) {u : (Int32 × MS)} (hp : PostX (some (.int u.1)) (mW X.E ad u.2)) : ∀ (n : Nat) (x1 : Int32) (x2 : Int32) (S : MS), f_X12_rumours_40 n x1 x2 S = some u → G X 4 0 0 40 [(0, .ref (ad 0)), (1, .int x1), (2, .int x2)] [] (mW X.E ad S) := by
  intro n
  induction n with
  | zero => intro _ _ _ hf; unfold f_X12_rumours_40 at hf; cases hf
  | succ n hlp40 =>
  intro x1 x2 S hf
  unfold f_X12_rumours_40 at hf
  refine g_iloadn hX 2 rfl rfl dX12_rumours_40 ?_
  refine g_iloadn hX 1 rfl rfl dX12_rumours_41 ?_
  refine g_icmp_ge hX 76 (by decide) dX12_rumours_42 (fun c5 => ?_) (fun c5 => ?_)
  · have hf := ite_t c5 hf
    refine g_aloadn hX 0 rfl rfl dX12_rumours_76 ?_
    obtain ⟨r8, S6, h7, hf⟩ := cb_open hf
    refine k_X12_heardAll hX hq (c_X12_heardAll h7) (by decide) (by decide) (by decide) (Nat.le_of_ble_eq_true rfl) dX12_rumours_77 ?_
    obtain rfl := oi hf
    exact g_iret hX hq (by decide) (by decide) hp dX12_rumours_80
  · have hf := ite_f c5 hf
    refine g_aloadn hX 0 rfl rfl dX12_rumours_45 ?_
    refine g_bipush hX (v := 8) (by decide) dX12_rumours_46 ?_
    obtain ⟨r11, S9, h10, hf⟩ := cb_open hf
    refine k_X12_drawn hX hq (c_X12_drawn h10) (by decide) (by decide) (by decide) (Nat.le_of_ble_eq_true rfl) dX12_rumours_48 ?_
    refine g_istoren hX [(3, .int r11), (0, .ref (ad 0)), (1, .int x1), (2, .int x2)] rfl (by decide) rfl dX12_rumours_51 ?_
    refine g_aloadn hX 1 rfl rfl dX12_rumours_52 ?_
    refine mg_row hX dX12_rumours_53 ?_
    refine g_bipush hX (v := 10) (by decide) dX12_rumours_56 ?_
    refine g_iloadn hX 0 rfl rfl dX12_rumours_58 ?_
    refine g_iadd hX dX12_rumours_59 ?_
    refine g_aloadn hX 1 rfl rfl dX12_rumours_60 ?_
    refine g_iconst hX (v := 3) (by decide) dX12_rumours_61 ?_
    obtain ⟨r14, S12, h13, hf⟩ := cb_open hf
    refine k_X12_drawn hX hq (c_X12_drawn h13) (by decide) (by decide) (by decide) (Nat.le_of_ble_eq_true rfl) dX12_rumours_62 ?_
    obtain ⟨k15, jk15, ik15, hf⟩ := gix_open hf
    refine ms_row hX ik15 k15 jk15 dX12_rumours_65 ?_
    refine g_aloadn hX 1 rfl rfl dX12_rumours_66 ?_
    obtain ⟨z18, S16, h17, hf⟩ := cb_open hf
    refine k_X12_oneDay hX hq (c_X12_oneDay h17) (by decide) (by decide) (by decide) (Nat.le_of_ble_eq_true rfl) dX12_rumours_67 ?_
    obtain ⟨v19, ev19, hf⟩ := bI_open hf
    refine g_iinc hX 3 (v := v19) [(2, .int v19), (3, .int r11), (0, .ref (ad 0)), (1, .int x1)] rfl (by rw [ev19]; rfl) (by decide) rfl dX12_rumours_70 ?_
    refine g_goto hX 40 (by decide) dX12_rumours_73 ?_
    refine g_lv [2, 3, 0] rfl ?_
    exact hlp40 _ _ _ hf
set_option maxRecDepth 100000 in
set_option maxHeartbeats 4000000 in
theorem t_X12_rumours_0 {X : Cx} {ad : Nat → Nat} {PostX : Option Value → va_W → Prop} (hX : Ok X cX12_rumours 4 RX12) (hq : Rq X 72 0 0 (some .int) PostX) {u : (Int32 × MS)} (hp : PostX (some (.int u.1)) (mW X.E ad u.2)) (a1 : Int32) (S : MS) (hf : f_X12_rumours a1 S = some u) : G X 4 0 0 0 [(0, .ref (ad 0)), (1, .int a1)] [] (mW X.E ad S) := by
  unfold f_X12_rumours at hf
  refine g_iloadn hX 1 rfl rfl dX12_rumours_0 ?_
  refine g_iconst hX (v := 1) (by decide) dX12_rumours_1 ?_
  refine g_bipush hX (v := 40) (by decide) dX12_rumours_2 ?_
  obtain ⟨r1, h2, hf⟩ := cs_open hf
  refine k_RX12_X12_in hX hq h2 (by decide) (by decide) (by decide) (Nat.le_of_ble_eq_true rfl) dX12_rumours_4 ?_
  refine g_if_ne hX 17 (by decide) dX12_rumours_7 (fun c3 => ?_) (fun c3 => ?_)
  · have hf := ite_f c3 hf
    refine g_aloadn hX 0 rfl rfl dX12_rumours_17 ?_
    refine mg_row hX dX12_rumours_18 ?_
    refine g_iconst hX (v := 0) (by decide) dX12_rumours_21 ?_
    refine ml_row hX (vpc (by decide)) 0 (by decide) (v := S.1 1 0) rfl dX12_rumours_22 ?_
    refine g_iloadn hX 1 rfl rfl dX12_rumours_23 ?_
    refine g_iadd hX dX12_rumours_24 ?_
    refine g_sipush hX (v := 9999) (by decide) dX12_rumours_25 ?_
    refine g_icmp_le hX 38 (by decide) dX12_rumours_28 (fun c4 => ?_) (fun c4 => ?_)
    · have hf := ite_t c4 hf
      refine g_iconst hX (v := 0) (by decide) dX12_rumours_38 ?_
      refine g_istoren hX [(2, .int 0), (0, .ref (ad 0)), (1, .int a1)] rfl (by decide) rfl dX12_rumours_39 ?_
      refine g_lv [1, 2, 0] rfl ?_
      exact t_X12_rumours_40 hX hq hp _ _ _ _ hf
    · have hf := ite_f c4 hf
      refine g_aloadn hX 0 rfl rfl dX12_rumours_31 ?_
      refine g_ldc hX (v := (-1000000003)) wd_6_4 dX12_rumours_32 ?_
      obtain ⟨r22, S20, h21, hf⟩ := cb_open hf
      refine k_X12_errs hX hq (c_X12_errs h21) (by decide) (by decide) (by decide) (Nat.le_of_ble_eq_true rfl) dX12_rumours_34 ?_
      obtain rfl := oi hf
      exact g_iret hX hq (by decide) (by decide) hp dX12_rumours_37
  · have hf := ite_t c3 hf
    refine g_aloadn hX 0 rfl rfl dX12_rumours_10 ?_
    refine g_ldc hX (v := (-1000000001)) wd_5_74 dX12_rumours_11 ?_
    obtain ⟨r25, S23, h24, hf⟩ := cb_open hf
    refine k_X12_errs hX hq (c_X12_errs h24) (by decide) (by decide) (by decide) (Nat.le_of_ble_eq_true rfl) dX12_rumours_13 ?_
    obtain rfl := oi hf
    exact g_iret hX hq (by decide) (by decide) hp dX12_rumours_16
theorem c_X12_rumours {l : Launch} {E : En} {ad : Nat → Nat} {a1 : Int32} {r : Int32} {S S2 : MS} (hf : f_X12_rumours a1 S = some (r, S2)) : CP l E yX12_rumours cX12_rumours 4 (some .int) 72 0 0 [] [.ref (ad 0), .int a1] (mW E ad S) (fun rv w => rv = some (.int r) ∧ w = mW E ad S2) :=
  CP.of (lv := [(0, .ref (ad 0)), (1, .int a1)]) (by decide +kernel) (Nat.le_of_ble_eq_true rfl) rfl (fun X hl hE hro hX hq hn => by subst hl; subst hE; exact t_X12_rumours_0 hX hq ⟨rfl, rfl⟩ a1 S hf)
def f_X12_floorTogether_105 (lp10 : Int32 → Int32 → Int32 → Int32 → Int32 → MS → Option (Int32 × MS)) (lp50 : Int32 → Int32 → Int32 → Int32 → Int32 → Int32 → MS → Option (Int32 × MS)) (x1 : Int32) (x2 : Int32) (x3 : Int32) (x5 : Int32) (x6 : Int32) (y0 : Int32) (y1 : Int32) (S : MS) : Option (Int32 × MS) :=
  bI (y0 ||| y1) fun v31 =>
  bI (x6 + 1) fun v32 =>
  lp50 x1 x2 x3 v31 x5 v32 S
def f_X12_floorTogether_87 (lp10 : Int32 → Int32 → Int32 → Int32 → Int32 → MS → Option (Int32 × MS)) (lp50 : Int32 → Int32 → Int32 → Int32 → Int32 → Int32 → MS → Option (Int32 × MS)) (x1 : Int32) (x2 : Int32) (x4 : Int32) (x5 : Int32) (x6 : Int32) (x7 : Int32) (y0 : Int32) (y1 : Int32) (S : MS) : Option (Int32 × MS) :=
  bI (y0 ||| y1) fun v29 =>
  if (x7 = 2 : Prop) then
    f_X12_floorTogether_105 lp10 lp50 x1 x2 v29 x5 x6 x4 (jshl 1 x6) S
  else
    f_X12_floorTogether_105 lp10 lp50 x1 x2 v29 x5 x6 x4 0 S
def f_X12_floorTogether_114 (lp10 : Int32 → Int32 → Int32 → Int32 → Int32 → MS → Option (Int32 × MS)) (x1 : Int32) (x2 : Int32) (x3 : Int32) (x4 : Int32) (x5 : Int32) (S : MS) : Option (Int32 × MS) :=
  bI (x5 + 1) fun v13 =>
  lp10 x1 x2 x3 x4 v13 S
def f_X12_floorTogether_50 (lp10 : Int32 → Int32 → Int32 → Int32 → Int32 → MS → Option (Int32 × MS)) : Nat → Int32 → Int32 → Int32 → Int32 → Int32 → Int32 → MS → Option (Int32 × MS)
  | 0 => fun _ _ _ _ _ _ _ => none
  | n + 1 => fun x1 x2 x3 x4 x5 x6 S =>
    let lp50 := f_X12_floorTogether_50 lp10 n
    if (8 ≤ x6 : Prop) then
      f_X12_floorTogether_114 lp10 x1 x2 x3 x4 x5 S
    else
      cb (f_X12_its x5 2 S) fun r24 S22 =>
      cb (f_X12_saying r24 x6 S22) fun r27 S25 =>
      if (r27 = 1 : Prop) then
        f_X12_floorTogether_87 lp10 lp50 x1 x2 x4 x5 x6 r27 x3 (jshl 1 x6) S25
      else
        f_X12_floorTogether_87 lp10 lp50 x1 x2 x4 x5 x6 r27 x3 0 S25
def f_X12_floorTogether_10 : Nat → Int32 → Int32 → Int32 → Int32 → Int32 → MS → Option (Int32 × MS)
  | 0 => fun _ _ _ _ _ _ => none
  | n + 1 => fun x1 x2 x3 x4 x5 S =>
    let lp10 := f_X12_floorTogether_10 n
    if ((S.1 1 3) ≤ x5 : Prop) then
      cs (f_X12_bits x1) fun r2 =>
      cs (f_X12_bits (x3 &&& x4)) fun r4 =>
      cb (f_X12_lawOf 1 x2 r2 r4 S) fun r8 S6 =>
      if ((x3 ||| x4) = 0 : Prop) then
        some ((-1), S6)
      else
        cs (f_X12_held r8 0 9) fun r10 =>
        some (r10, S6)
    else
      if (((jshr x1 x5) &&& 1) = 1 : Prop) then
        cb (f_X12_its x5 2 S) fun r16 S14 =>
        cb (f_X12_creditOf x5 r16 S14) fun r19 S17 =>
        bI (x2 + r19) fun v20 =>
        f_X12_floorTogether_50 lp10 100 x1 v20 x3 x4 x5 0 S17
      else
        f_X12_floorTogether_114 lp10 x1 x2 x3 x4 x5 S
def f_X12_floorTogether (a1 : Int32) (S : MS) : Option (Int32 × MS) :=
  f_X12_floorTogether_10 100 a1 0 0 0 0 S
set_option maxRecDepth 100000 in
set_option maxHeartbeats 4000000 in
theorem t_X12_floorTogether_105 {X : Cx} {ad : Nat → Nat} {PostX : Option Value → va_W → Prop} (hX : Ok X cX12_floorTogether 8 RX12) (hq : Rq X 69 0 0 (some .int) PostX) {u : (Int32 × MS)} (hp : PostX (some (.int u.1)) (mW X.E ad u.2)) {lp10 : Int32 → Int32 → Int32 → Int32 → Int32 → MS → Option (Int32 × MS)} (hlp10 : ∀ (x1 : Int32) (x2 : Int32) (x3 : Int32) (x4 : Int32) (x5 : Int32) (S : MS), lp10 x1 x2 x3 x4 x5 S = some u → G X 8 0 0 10 [(0, .ref (ad 0)), (1, .int x1), (2, .int x2), (3, .int x3), (4, .int x4), (5, .int x5)] [] (mW X.E ad S)) {lp50 : Int32 → Int32 → Int32 → Int32 → Int32 → Int32 → MS → Option (Int32 × MS)} (hlp50 : ∀ (x1 : Int32) (x2 : Int32) (x3 : Int32) (x4 : Int32) (x5 : Int32) (x6 : Int32) (S : MS), lp50 x1 x2 x3 x4 x5 x6 S = some u → G X 8 0 0 50 [(0, .ref (ad 0)), (1, .int x1), (2, .int x2), (3, .int x3), (4, .int x4), (5, .int x5), (6, .int x6)] [] (mW X.E ad S)) (x1 : Int32) (x2 : Int32) (x3 : Int32) (x5 : Int32) (x6 : Int32) (y0 : Int32) (y1 : Int32) (S : MS) (hf : f_X12_floorTogether_105 lp10 lp50 x1 x2 x3 x5 x6 y0 y1 S = some u) : G X 8 0 0 105 [(0, .ref (ad 0)), (1, .int x1), (2, .int x2), (3, .int x3), (5, .int x5), (6, .int x6)] [.int y1, .int y0] (mW X.E ad S) := by
  unfold f_X12_floorTogether_105 at hf
  refine g_ior hX dX12_floorTogether_105 ?_
  obtain ⟨v31, ev31, hf⟩ := bI_open hf
  refine g_nm ev31 ?_
  refine g_istore hX [(4, .int v31), (0, .ref (ad 0)), (1, .int x1), (2, .int x2), (3, .int x3), (5, .int x5), (6, .int x6)] (by decide) rfl dX12_floorTogether_106 ?_
  obtain ⟨v32, ev32, hf⟩ := bI_open hf
  refine g_iinc hX 6 (v := v32) [(6, .int v32), (4, .int v31), (0, .ref (ad 0)), (1, .int x1), (2, .int x2), (3, .int x3), (5, .int x5)] rfl (by rw [ev32]; rfl) (by decide) rfl dX12_floorTogether_108 ?_
  refine g_goto hX 50 (by decide) dX12_floorTogether_111 ?_
  refine g_lv [2, 3, 4, 5, 1, 6, 0] rfl ?_
  exact hlp50 _ _ _ _ _ _ _ hf
set_option maxRecDepth 100000 in
set_option maxHeartbeats 4000000 in
theorem t_X12_floorTogether_87 {X : Cx} {ad : Nat → Nat} {PostX : Option Value → va_W → Prop} (hX : Ok X cX12_floorTogether 8 RX12) (hq : Rq X 69 0 0 (some .int) PostX) {u : (Int32 × MS)} (hp : PostX (some (.int u.1)) (mW X.E ad u.2)) {lp10 : Int32 → Int32 → Int32 → Int32 → Int32 → MS → Option (Int32 × MS)} (hlp10 : ∀ (x1 : Int32) (x2 : Int32) (x3 : Int32) (x4 : Int32) (x5 : Int32) (S : MS), lp10 x1 x2 x3 x4 x5 S = some u → G X 8 0 0 10 [(0, .ref (ad 0)), (1, .int x1), (2, .int x2), (3, .int x3), (4, .int x4), (5, .int x5)] [] (mW X.E ad S)) {lp50 : Int32 → Int32 → Int32 → Int32 → Int32 → Int32 → MS → Option (Int32 × MS)} (hlp50 : ∀ (x1 : Int32) (x2 : Int32) (x3 : Int32) (x4 : Int32) (x5 : Int32) (x6 : Int32) (S : MS), lp50 x1 x2 x3 x4 x5 x6 S = some u → G X 8 0 0 50 [(0, .ref (ad 0)), (1, .int x1), (2, .int x2), (3, .int x3), (4, .int x4), (5, .int x5), (6, .int x6)] [] (mW X.E ad S)) (x1 : Int32) (x2 : Int32) (x4 : Int32) (x5 : Int32) (x6 : Int32) (x7 : Int32) (y0 : Int32) (y1 : Int32) (S : MS) (hf : f_X12_floorTogether_87 lp10 lp50 x1 x2 x4 x5 x6 x7 y0 y1 S = some u) : G X 8 0 0 87 [(0, .ref (ad 0)), (1, .int x1), (2, .int x2), (4, .int x4), (5, .int x5), (6, .int x6), (7, .int x7)] [.int y1, .int y0] (mW X.E ad S) := by
  unfold f_X12_floorTogether_87 at hf
  refine g_ior hX dX12_floorTogether_87 ?_
  obtain ⟨v29, ev29, hf⟩ := bI_open hf
  refine g_nm ev29 ?_
  refine g_istoren hX [(3, .int v29), (0, .ref (ad 0)), (1, .int x1), (2, .int x2), (4, .int x4), (5, .int x5), (6, .int x6), (7, .int x7)] rfl (by decide) rfl dX12_floorTogether_88 ?_
  refine g_iload hX 4 rfl dX12_floorTogether_89 ?_
  refine g_iload hX 7 rfl dX12_floorTogether_91 ?_
  refine g_iconst hX (v := 2) (by decide) dX12_floorTogether_93 ?_
  refine g_icmp_ne hX 104 (by decide) dX12_floorTogether_94 (fun c30 => ?_) (fun c30 => ?_)
  · have hf := ite_f c30 hf
    refine g_iconst hX (v := 0) (by decide) dX12_floorTogether_104 ?_
    refine g_lv [1, 2, 3, 0, 5, 6] rfl ?_
    exact t_X12_floorTogether_105 hX hq hp hlp10 hlp50 _ _ _ _ _ _ _ _ hf
  · have hf := ite_t c30 hf
    refine g_iconst hX (v := 1) (by decide) dX12_floorTogether_97 ?_
    refine g_iload hX 6 rfl dX12_floorTogether_98 ?_
    refine g_jshl hX dX12_floorTogether_100 ?_
    refine g_goto hX 105 (by decide) dX12_floorTogether_101 ?_
    refine g_lv [1, 2, 3, 0, 5, 6] rfl ?_
    exact t_X12_floorTogether_105 hX hq hp hlp10 hlp50 _ _ _ _ _ _ _ _ hf
set_option maxRecDepth 100000 in
set_option maxHeartbeats 4000000 in
theorem t_X12_floorTogether_114 {X : Cx} {ad : Nat → Nat} {PostX : Option Value → va_W → Prop} (hX : Ok X cX12_floorTogether 8 RX12) (hq : Rq X 69 0 0 (some .int) PostX) {u : (Int32 × MS)} (hp : PostX (some (.int u.1)) (mW X.E ad u.2)) {lp10 : Int32 → Int32 → Int32 → Int32 → Int32 → MS → Option (Int32 × MS)} (hlp10 : ∀ (x1 : Int32) (x2 : Int32) (x3 : Int32) (x4 : Int32) (x5 : Int32) (S : MS), lp10 x1 x2 x3 x4 x5 S = some u → G X 8 0 0 10 [(0, .ref (ad 0)), (1, .int x1), (2, .int x2), (3, .int x3), (4, .int x4), (5, .int x5)] [] (mW X.E ad S)) (x1 : Int32) (x2 : Int32) (x3 : Int32) (x4 : Int32) (x5 : Int32) (S : MS) (hf : f_X12_floorTogether_114 lp10 x1 x2 x3 x4 x5 S = some u) : G X 8 0 0 114 [(0, .ref (ad 0)), (1, .int x1), (2, .int x2), (3, .int x3), (4, .int x4), (5, .int x5)] [] (mW X.E ad S) := by
  unfold f_X12_floorTogether_114 at hf
  obtain ⟨v13, ev13, hf⟩ := bI_open hf
  refine g_iinc hX 5 (v := v13) [(5, .int v13), (0, .ref (ad 0)), (1, .int x1), (2, .int x2), (3, .int x3), (4, .int x4)] rfl (by rw [ev13]; rfl) (by decide) rfl dX12_floorTogether_114 ?_
  refine g_goto hX 10 (by decide) dX12_floorTogether_117 ?_
  refine g_lv [1, 2, 3, 4, 5, 0] rfl ?_
  exact hlp10 _ _ _ _ _ _ hf
set_option maxRecDepth 100000 in
set_option maxHeartbeats 4000000 in
theorem t_X12_floorTogether_50 {X : Cx} {ad : Nat → Nat} {PostX : Option Value → va_W → Prop} (hX : Ok X cX12_floorTogether 8 RX12) (hq : Rq X 69 0 0 (some .int) PostX) {u : (Int32 × MS)} (hp : PostX (some (.int u.1)) (mW X.E ad u.2)) {lp10 : Int32 → Int32 → Int32 → Int32 → Int32 → MS → Option (Int32 × MS)} (hlp10 : ∀ (x1 : Int32) (x2 : Int32) (x3 : Int32) (x4 : Int32) (x5 : Int32) (S : MS), lp10 x1 x2 x3 x4 x5 S = some u → G X 8 0 0 10 [(0, .ref (ad 0)), (1, .int x1), (2, .int x2), (3, .int x3), (4, .int x4), (5, .int x5)] [] (mW X.E ad S)) : ∀ (n : Nat) (x1 : Int32) (x2 : Int32) (x3 : Int32) (x4 : Int32) (x5 : Int32) (x6 : Int32) (S : MS), f_X12_floorTogether_50 lp10 n x1 x2 x3 x4 x5 x6 S = some u → G X 8 0 0 50 [(0, .ref (ad 0)), (1, .int x1), (2, .int x2), (3, .int x3), (4, .int x4), (5, .int x5), (6, .int x6)] [] (mW X.E ad S) := by
  intro n
  induction n with
  | zero => intro _ _ _ _ _ _ _ hf; unfold f_X12_floorTogether_50 at hf; cases hf
  | succ n hlp50 =>
  intro x1 x2 x3 x4 x5 x6 S hf
  unfold f_X12_floorTogether_50 at hf
  refine g_iload hX 6 rfl dX12_floorTogether_50 ?_
  refine g_bipush hX (v := 8) (by decide) dX12_floorTogether_52 ?_
  refine g_icmp_ge hX 114 (by decide) dX12_floorTogether_54 (fun c21 => ?_) (fun c21 => ?_)
  · have hf := ite_t c21 hf
    refine g_lv [0, 1, 2, 3, 4, 5] rfl ?_
    exact t_X12_floorTogether_114 hX hq hp hlp10 _ _ _ _ _ _ hf
  · have hf := ite_f c21 hf
    refine g_aloadn hX 0 rfl rfl dX12_floorTogether_57 ?_
    refine g_aloadn hX 0 rfl rfl dX12_floorTogether_58 ?_
    refine g_iload hX 5 rfl dX12_floorTogether_59 ?_
    refine g_iconst hX (v := 2) (by decide) dX12_floorTogether_61 ?_
    obtain ⟨r24, S22, h23, hf⟩ := cb_open hf
    refine k_X12_its hX hq (c_X12_its h23) (by decide) (by decide) (by decide) (Nat.le_of_ble_eq_true rfl) dX12_floorTogether_62 ?_
    refine g_iload hX 6 rfl dX12_floorTogether_65 ?_
    obtain ⟨r27, S25, h26, hf⟩ := cb_open hf
    refine k_X12_saying hX hq (c_X12_saying h26) (by decide) (by decide) (by decide) (Nat.le_of_ble_eq_true rfl) dX12_floorTogether_67 ?_
    refine g_istore hX [(7, .int r27), (0, .ref (ad 0)), (1, .int x1), (2, .int x2), (3, .int x3), (4, .int x4), (5, .int x5), (6, .int x6)] (by decide) rfl dX12_floorTogether_70 ?_
    refine g_iloadn hX 4 rfl rfl dX12_floorTogether_72 ?_
    refine g_iload hX 0 rfl dX12_floorTogether_73 ?_
    refine g_iconst hX (v := 1) (by decide) dX12_floorTogether_75 ?_
    refine g_icmp_ne hX 86 (by decide) dX12_floorTogether_76 (fun c28 => ?_) (fun c28 => ?_)
    · have hf := ite_f c28 hf
      refine g_iconst hX (v := 0) (by decide) dX12_floorTogether_86 ?_
      refine g_lv [1, 2, 3, 5, 6, 7, 0] rfl ?_
      exact t_X12_floorTogether_87 hX hq hp hlp10 hlp50 _ _ _ _ _ _ _ _ _ hf
    · have hf := ite_t c28 hf
      refine g_iconst hX (v := 1) (by decide) dX12_floorTogether_79 ?_
      refine g_iload hX 7 rfl dX12_floorTogether_80 ?_
      refine g_jshl hX dX12_floorTogether_82 ?_
      refine g_goto hX 87 (by decide) dX12_floorTogether_83 ?_
      refine g_lv [1, 2, 3, 5, 6, 7, 0] rfl ?_
      exact t_X12_floorTogether_87 hX hq hp hlp10 hlp50 _ _ _ _ _ _ _ _ _ hf
set_option maxRecDepth 100000 in
set_option maxHeartbeats 4000000 in
theorem t_X12_floorTogether_10 {X : Cx} {ad : Nat → Nat} {PostX : Option Value → va_W → Prop} (hX : Ok X cX12_floorTogether 8 RX12) (hq : Rq X 69 0 0 (some .int) PostX) {u : (Int32 × MS)} (hp : PostX (some (.int u.1)) (mW X.E ad u.2)) : ∀ (n : Nat) (x1 : Int32) (x2 : Int32) (x3 : Int32) (x4 : Int32) (x5 : Int32) (S : MS), f_X12_floorTogether_10 n x1 x2 x3 x4 x5 S = some u → G X 8 0 0 10 [(0, .ref (ad 0)), (1, .int x1), (2, .int x2), (3, .int x3), (4, .int x4), (5, .int x5)] [] (mW X.E ad S) := by
  intro n
  induction n with
  | zero => intro _ _ _ _ _ _ hf; unfold f_X12_floorTogether_10 at hf; cases hf
  | succ n hlp10 =>
  intro x1 x2 x3 x4 x5 S hf
  unfold f_X12_floorTogether_10 at hf
  refine g_iload hX 5 rfl dX12_floorTogether_10 ?_
  refine g_aloadn hX 0 rfl rfl dX12_floorTogether_12 ?_
  refine mg_row hX dX12_floorTogether_13 ?_
  refine g_iconst hX (v := 3) (by decide) dX12_floorTogether_16 ?_
  refine ml_row hX (vpc (by decide)) 3 (by decide) (v := S.1 1 3) rfl dX12_floorTogether_17 ?_
  refine g_icmp_ge hX 120 (by decide) dX12_floorTogether_18 (fun c1 => ?_) (fun c1 => ?_)
  · have hf := ite_t c1 hf
    refine g_aloadn hX 0 rfl rfl dX12_floorTogether_120 ?_
    refine g_iconst hX (v := 1) (by decide) dX12_floorTogether_121 ?_
    refine g_iloadn hX 2 rfl rfl dX12_floorTogether_122 ?_
    refine g_iloadn hX 1 rfl rfl dX12_floorTogether_123 ?_
    obtain ⟨r2, h3, hf⟩ := cs_open hf
    refine k_RX12_X12_bits hX hq h3 (by decide) (by decide) (by decide) (Nat.le_of_ble_eq_true rfl) dX12_floorTogether_124 ?_
    refine g_iloadn hX 3 rfl rfl dX12_floorTogether_127 ?_
    refine g_iload hX 4 rfl dX12_floorTogether_128 ?_
    refine g_iand hX dX12_floorTogether_130 ?_
    obtain ⟨r4, h5, hf⟩ := cs_open hf
    refine k_RX12_X12_bits hX hq h5 (by decide) (by decide) (by decide) (Nat.le_of_ble_eq_true rfl) dX12_floorTogether_131 ?_
    obtain ⟨r8, S6, h7, hf⟩ := cb_open hf
    refine k_X12_lawOf hX hq (c_X12_lawOf h7) (by decide) (by decide) (by decide) (Nat.le_of_ble_eq_true rfl) dX12_floorTogether_134 ?_
    refine g_istore hX [(5, .int r8), (0, .ref (ad 0)), (1, .int x1), (2, .int x2), (3, .int x3), (4, .int x4)] (by decide) rfl dX12_floorTogether_137 ?_
    refine g_iloadn hX 4 rfl rfl dX12_floorTogether_139 ?_
    refine g_iload hX 5 rfl dX12_floorTogether_140 ?_
    refine g_ior hX dX12_floorTogether_142 ?_
    refine g_if_ne hX 150 (by decide) dX12_floorTogether_143 (fun c9 => ?_) (fun c9 => ?_)
    · have hf := ite_f c9 hf
      refine g_iload hX 0 rfl dX12_floorTogether_150 ?_
      refine g_iconst hX (v := 0) (by decide) dX12_floorTogether_152 ?_
      refine g_bipush hX (v := 9) (by decide) dX12_floorTogether_153 ?_
      obtain ⟨r10, h11, hf⟩ := cs_open hf
      refine k_RX12_X12_held hX hq h11 (by decide) (by decide) (by decide) (Nat.le_of_ble_eq_true rfl) dX12_floorTogether_155 ?_
      obtain rfl := oi hf
      exact g_iret hX hq (by decide) (by decide) hp dX12_floorTogether_158
    · have hf := ite_t c9 hf
      refine g_iconst hX (v := (-1)) (by decide) dX12_floorTogether_146 ?_
      refine g_goto hX 158 (by decide) dX12_floorTogether_147 ?_
      obtain rfl := oi hf
      exact g_iret hX hq (by decide) (by decide) hp dX12_floorTogether_158
  · have hf := ite_f c1 hf
    refine g_iloadn hX 1 rfl rfl dX12_floorTogether_21 ?_
    refine g_iload hX 5 rfl dX12_floorTogether_22 ?_
    refine g_jshr hX dX12_floorTogether_24 ?_
    refine g_iconst hX (v := 1) (by decide) dX12_floorTogether_25 ?_
    refine g_iand hX dX12_floorTogether_26 ?_
    refine g_iconst hX (v := 1) (by decide) dX12_floorTogether_27 ?_
    refine g_icmp_ne hX 114 (by decide) dX12_floorTogether_28 (fun c12 => ?_) (fun c12 => ?_)
    · have hf := ite_f c12 hf
      exact t_X12_floorTogether_114 hX hq hp hlp10 _ _ _ _ _ _ hf
    · have hf := ite_t c12 hf
      refine g_iloadn hX 2 rfl rfl dX12_floorTogether_31 ?_
      refine g_aloadn hX 0 rfl rfl dX12_floorTogether_32 ?_
      refine g_iload hX 5 rfl dX12_floorTogether_33 ?_
      refine g_aloadn hX 0 rfl rfl dX12_floorTogether_35 ?_
      refine g_iload hX 5 rfl dX12_floorTogether_36 ?_
      refine g_iconst hX (v := 2) (by decide) dX12_floorTogether_38 ?_
      obtain ⟨r16, S14, h15, hf⟩ := cb_open hf
      refine k_X12_its hX hq (c_X12_its h15) (by decide) (by decide) (by decide) (Nat.le_of_ble_eq_true rfl) dX12_floorTogether_39 ?_
      obtain ⟨r19, S17, h18, hf⟩ := cb_open hf
      refine k_X12_creditOf hX hq (c_X12_creditOf h18) (by decide) (by decide) (by decide) (Nat.le_of_ble_eq_true rfl) dX12_floorTogether_42 ?_
      refine g_iadd hX dX12_floorTogether_45 ?_
      obtain ⟨v20, ev20, hf⟩ := bI_open hf
      refine g_nm ev20 ?_
      refine g_istoren hX [(2, .int v20), (0, .ref (ad 0)), (1, .int x1), (3, .int x3), (4, .int x4), (5, .int x5)] rfl (by decide) rfl dX12_floorTogether_46 ?_
      refine g_iconst hX (v := 0) (by decide) dX12_floorTogether_47 ?_
      refine g_istore hX [(6, .int 0), (2, .int v20), (0, .ref (ad 0)), (1, .int x1), (3, .int x3), (4, .int x4), (5, .int x5)] (by decide) rfl dX12_floorTogether_48 ?_
      refine g_lv [2, 3, 1, 4, 5, 6, 0] rfl ?_
      exact t_X12_floorTogether_50 hX hq hp hlp10 _ _ _ _ _ _ _ _ hf
set_option maxRecDepth 100000 in
set_option maxHeartbeats 4000000 in
theorem t_X12_floorTogether_0 {X : Cx} {ad : Nat → Nat} {PostX : Option Value → va_W → Prop} (hX : Ok X cX12_floorTogether 8 RX12) (hq : Rq X 69 0 0 (some .int) PostX) {u : (Int32 × MS)} (hp : PostX (some (.int u.1)) (mW X.E ad u.2)) (a1 : Int32) (S : MS) (hf : f_X12_floorTogether a1 S = some u) : G X 8 0 0 0 [(0, .ref (ad 0)), (1, .int a1)] [] (mW X.E ad S) := by
  unfold f_X12_floorTogether at hf
  refine g_iconst hX (v := 0) (by decide) dX12_floorTogether_0 ?_
  refine g_istoren hX [(2, .int 0), (0, .ref (ad 0)), (1, .int a1)] rfl (by decide) rfl dX12_floorTogether_1 ?_
  refine g_iconst hX (v := 0) (by decide) dX12_floorTogether_2 ?_
  refine g_istoren hX [(3, .int 0), (2, .int 0), (0, .ref (ad 0)), (1, .int a1)] rfl (by decide) rfl dX12_floorTogether_3 ?_
  refine g_iconst hX (v := 0) (by decide) dX12_floorTogether_4 ?_
  refine g_istore hX [(4, .int 0), (3, .int 0), (2, .int 0), (0, .ref (ad 0)), (1, .int a1)] (by decide) rfl dX12_floorTogether_5 ?_
  refine g_iconst hX (v := 0) (by decide) dX12_floorTogether_7 ?_
  refine g_istore hX [(5, .int 0), (4, .int 0), (3, .int 0), (2, .int 0), (0, .ref (ad 0)), (1, .int a1)] (by decide) rfl dX12_floorTogether_8 ?_
  refine g_lv [4, 5, 3, 2, 1, 0] rfl ?_
  exact t_X12_floorTogether_10 hX hq hp _ _ _ _ _ _ _ hf
theorem c_X12_floorTogether {l : Launch} {E : En} {ad : Nat → Nat} {a1 : Int32} {r : Int32} {S S2 : MS} (hf : f_X12_floorTogether a1 S = some (r, S2)) : CP l E yX12_floorTogether cX12_floorTogether 8 (some .int) 69 0 0 [] [.ref (ad 0), .int a1] (mW E ad S) (fun rv w => rv = some (.int r) ∧ w = mW E ad S2) :=
  CP.of (lv := [(0, .ref (ad 0)), (1, .int a1)]) (by decide +kernel) (Nat.le_of_ble_eq_true rfl) rfl (fun X hl hE hro hX hq hn => by subst hl; subst hE; exact t_X12_floorTogether_0 hX hq ⟨rfl, rfl⟩ a1 S hf)
theorem kw_RX12_X12_floorTogether : KwV RX12 198 RX12 yX12_floorTogether cX12_floorTogether 8 (some .int) 1 := ⟨mem_wsV wd_6_22 wd_6_24 wd_s_44 wd_1_19 wd_6_25, rfl, ⟨by decide +kernel, by decide +kernel, by decide +kernel⟩, by decide⟩
theorem k_X12_floorTogether {X : Cx} {cc : ByteArray} {nL ce sl pc : Nat} {lv : List (Nat × Value)} {st : List Value} {dX mcX msX : Nat} {retX : Option FieldType} {PostX : Option Value → va_W → Prop} {ad : Nat → Nat} {S S2 : MS} {d : Nat} (hX : Ok X cc nL RX12) (hq : Rq X dX mcX msX retX PostX) {a1 : Int32} {r : Int32} (hM : CP X.l X.E yX12_floorTogether cX12_floorTogether 8 (some .int) d 0 0 [] [.ref (ad 0), .int a1] (mW X.E ad S) (fun rv w => rv = some (.int r) ∧ w = mW X.E ad S2)) (hd : d < dX) (hc : ce ≤ mcX) (hs : sl ≤ msX) (hcat : (st.map fun v => v.category).sum ≤ 8) (hdg : decode cc pc = .ok (.invokevirtual 198, 3)) (kk : G X nL ce sl (pc + 3) lv (.int r :: st) (mW X.E ad S2)) : G X nL ce sl pc lv (.int a1 :: .ref (ad 0) :: st) (mW X.E ad S) :=
  g_eqW (app1 _) (g_callV (pre := []) (mid := mW X.E ad S) (post := []) [.int a1] hX hq kw_RX12_X12_floorTogether hM (fun _ h => absurd h List.not_mem_nil) hd hc hs rfl (Recv.of 0 12 rfl rfl) rfl hcat hdg (fun rv ws2 hp => by obtain ⟨rfl, rfl⟩ := hp; exact g_eqW (app1 _).symm kk))
def f_X12_together (a1 : Int32) (S : MS) : Option (Int32 × MS) :=
  cs (f_X12_in a1 1 ((jshl 1 (S.1 1 3)) - 1)) fun r1 =>
  if (r1 = 0 : Prop) then
    cb (f_X12_errs (-1000000001) S) fun r6 S4 =>
    some (r6, S4)
  else
    cb (f_X12_floorTogether a1 S) fun r9 S7 =>
    some (r9, S7)
set_option maxRecDepth 100000 in
set_option maxHeartbeats 4000000 in
theorem t_X12_together_0 {X : Cx} {ad : Nat → Nat} {PostX : Option Value → va_W → Prop} (hX : Ok X cX12_together 2 RX12) (hq : Rq X 70 0 0 (some .int) PostX) {u : (Int32 × MS)} (hp : PostX (some (.int u.1)) (mW X.E ad u.2)) (a1 : Int32) (S : MS) (hf : f_X12_together a1 S = some u) : G X 2 0 0 0 [(0, .ref (ad 0)), (1, .int a1)] [] (mW X.E ad S) := by
  unfold f_X12_together at hf
  refine g_iloadn hX 1 rfl rfl dX12_together_0 ?_
  refine g_iconst hX (v := 1) (by decide) dX12_together_1 ?_
  refine g_iconst hX (v := 1) (by decide) dX12_together_2 ?_
  refine g_aloadn hX 0 rfl rfl dX12_together_3 ?_
  refine mg_row hX dX12_together_4 ?_
  refine g_iconst hX (v := 3) (by decide) dX12_together_7 ?_
  refine ml_row hX (vpc (by decide)) 3 (by decide) (v := S.1 1 3) rfl dX12_together_8 ?_
  refine g_jshl hX dX12_together_9 ?_
  refine g_iconst hX (v := 1) (by decide) dX12_together_10 ?_
  refine g_isub hX dX12_together_11 ?_
  obtain ⟨r1, h2, hf⟩ := cs_open hf
  refine k_RX12_X12_in hX hq h2 (by decide) (by decide) (by decide) (Nat.le_of_ble_eq_true rfl) dX12_together_12 ?_
  refine g_if_eq hX 26 (by decide) dX12_together_15 (fun c3 => ?_) (fun c3 => ?_)
  · have hf := ite_t c3 hf
    refine g_aloadn hX 0 rfl rfl dX12_together_26 ?_
    refine g_ldc hX (v := (-1000000001)) wd_5_74 dX12_together_27 ?_
    obtain ⟨r6, S4, h5, hf⟩ := cb_open hf
    refine k_X12_errs hX hq (c_X12_errs h5) (by decide) (by decide) (by decide) (Nat.le_of_ble_eq_true rfl) dX12_together_29 ?_
    obtain rfl := oi hf
    exact g_iret hX hq (by decide) (by decide) hp dX12_together_32
  · have hf := ite_f c3 hf
    refine g_aloadn hX 0 rfl rfl dX12_together_18 ?_
    refine g_iloadn hX 1 rfl rfl dX12_together_19 ?_
    obtain ⟨r9, S7, h8, hf⟩ := cb_open hf
    refine k_X12_floorTogether hX hq (c_X12_floorTogether h8) (by decide) (by decide) (by decide) (Nat.le_of_ble_eq_true rfl) dX12_together_20 ?_
    refine g_goto hX 32 (by decide) dX12_together_23 ?_
    obtain rfl := oi hf
    exact g_iret hX hq (by decide) (by decide) hp dX12_together_32
theorem c_X12_together {l : Launch} {E : En} {ad : Nat → Nat} {a1 : Int32} {r : Int32} {S S2 : MS} (hf : f_X12_together a1 S = some (r, S2)) : CP l E yX12_together cX12_together 2 (some .int) 70 0 0 [] [.ref (ad 0), .int a1] (mW E ad S) (fun rv w => rv = some (.int r) ∧ w = mW E ad S2) :=
  CP.of (lv := [(0, .ref (ad 0)), (1, .int a1)]) (by decide +kernel) (Nat.le_of_ble_eq_true rfl) rfl (fun X hl hE hro hX hq hn => by subst hl; subst hE; exact t_X12_together_0 hX hq ⟨rfl, rfl⟩ a1 S hf)
def f_X12_bestWith_17 (S : MS) : Option (Int32 × MS) :=
  cb (f_X12_errs (-1000000001) S) fun r7 S5 =>
  some (r7, S5)
def f_X12_bestWith_123 (lp33 : Int32 → Int32 → Int32 → Int32 → Int32 → MS → Option (Int32 × MS)) (x1 : Int32) (x2 : Int32) (x3 : Int32) (x4 : Int32) (x5 : Int32) (S : MS) : Option (Int32 × MS) :=
  bI (x5 + 1) fun v14 =>
  lp33 x1 x2 x3 x4 v14 S
def f_X12_bestWith_121 (lp33 : Int32 → Int32 → Int32 → Int32 → Int32 → MS → Option (Int32 × MS)) (x1 : Int32) (x2 : Int32) (x3 : Int32) (x5 : Int32) (y0 : Int32) (S : MS) : Option (Int32 × MS) :=
  f_X12_bestWith_123 lp33 x1 x2 x3 y0 x5 S
def f_X12_bestWith_108 (lp33 : Int32 → Int32 → Int32 → Int32 → Int32 → MS → Option (Int32 × MS)) (x1 : Int32) (x2 : Int32) (x4 : Int32) (x5 : Int32) (x6 : Int32) (x7 : Int32) (y0 : Int32) (S : MS) : Option (Int32 × MS) :=
  if (x7 = 0 : Prop) then
    f_X12_bestWith_121 lp33 x1 x2 y0 x5 x4 S
  else
    f_X12_bestWith_121 lp33 x1 x2 y0 x5 x6 S
def f_X12_bestWith_95 (lp33 : Int32 → Int32 → Int32 → Int32 → Int32 → MS → Option (Int32 × MS)) (x1 : Int32) (x2 : Int32) (x3 : Int32) (x4 : Int32) (x5 : Int32) (x6 : Int32) (y0 : Int32) (S : MS) : Option (Int32 × MS) :=
  if (y0 = 0 : Prop) then
    f_X12_bestWith_108 lp33 x1 x2 x4 x5 x6 y0 x3 S
  else
    f_X12_bestWith_108 lp33 x1 x2 x4 x5 x6 y0 x5 S
def f_X12_bestWith_90 (lp33 : Int32 → Int32 → Int32 → Int32 → Int32 → MS → Option (Int32 × MS)) (x1 : Int32) (x2 : Int32) (x3 : Int32) (x4 : Int32) (x5 : Int32) (x6 : Int32) (S : MS) : Option (Int32 × MS) :=
  f_X12_bestWith_95 lp33 x1 x2 x3 x4 x5 x6 1 S
def f_X12_bestWith_94 (lp33 : Int32 → Int32 → Int32 → Int32 → Int32 → MS → Option (Int32 × MS)) (x1 : Int32) (x2 : Int32) (x3 : Int32) (x4 : Int32) (x5 : Int32) (x6 : Int32) (S : MS) : Option (Int32 × MS) :=
  f_X12_bestWith_95 lp33 x1 x2 x3 x4 x5 x6 0 S
def f_X12_bestWith_33 : Nat → Int32 → Int32 → Int32 → Int32 → Int32 → MS → Option (Int32 × MS)
  | 0 => fun _ _ _ _ _ _ => none
  | n + 1 => fun x1 x2 x3 x4 x5 S =>
    let lp33 := f_X12_bestWith_33 n
    if ((jshl 1 (S.1 1 3)) ≤ x5 : Prop) then
      if (x2 = 0 : Prop) then
        some (x3, S)
      else
        some (x4, S)
    else
      if (((jshr x5 x1) &&& 1) = 1 : Prop) then
        cb (f_X12_floorTogether x5 S) fun r17 S15 =>
        if (x4 < r17 : Prop) then
          f_X12_bestWith_90 lp33 x1 x2 x3 x4 x5 r17 S15
        else
          if (r17 = x4 : Prop) then
            cs (f_X12_bits x5) fun r22 =>
            cs (f_X12_bits x3) fun r24 =>
            if (r24 ≤ r22 : Prop) then
              f_X12_bestWith_94 lp33 x1 x2 x3 x4 x5 r17 S15
            else
              f_X12_bestWith_90 lp33 x1 x2 x3 x4 x5 r17 S15
          else
            f_X12_bestWith_94 lp33 x1 x2 x3 x4 x5 r17 S15
      else
        f_X12_bestWith_123 lp33 x1 x2 x3 x4 x5 S
def f_X12_bestWith (a1 : Int32) (a2 : Int32) (S : MS) : Option (Int32 × MS) :=
  cb (f_X12_isRider a1 S) fun r3 S1 =>
  if (r3 = 0 : Prop) then
    f_X12_bestWith_17 S1
  else
    cs (f_X12_in a2 0 1) fun r8 =>
    if (r8 = 0 : Prop) then
      f_X12_bestWith_17 S1
    else
      f_X12_bestWith_33 100 a1 a2 0 (-2) 1 S1
set_option maxRecDepth 100000 in
set_option maxHeartbeats 4000000 in
theorem t_X12_bestWith_17 {X : Cx} {ad : Nat → Nat} {PostX : Option Value → va_W → Prop} (hX : Ok X cX12_bestWith 8 RX12) (hq : Rq X 70 0 0 (some .int) PostX) {u : (Int32 × MS)} (hp : PostX (some (.int u.1)) (mW X.E ad u.2)) (S : MS) (hf : f_X12_bestWith_17 S = some u) : G X 8 0 0 17 [(0, .ref (ad 0))] [] (mW X.E ad S) := by
  unfold f_X12_bestWith_17 at hf
  refine g_aloadn hX 0 rfl rfl dX12_bestWith_17 ?_
  refine g_ldc hX (v := (-1000000001)) wd_5_74 dX12_bestWith_18 ?_
  obtain ⟨r7, S5, h6, hf⟩ := cb_open hf
  refine k_X12_errs hX hq (c_X12_errs h6) (by decide) (by decide) (by decide) (Nat.le_of_ble_eq_true rfl) dX12_bestWith_20 ?_
  obtain rfl := oi hf
  exact g_iret hX hq (by decide) (by decide) hp dX12_bestWith_23
set_option maxRecDepth 100000 in
set_option maxHeartbeats 4000000 in
theorem t_X12_bestWith_123 {X : Cx} {ad : Nat → Nat} {PostX : Option Value → va_W → Prop} (hX : Ok X cX12_bestWith 8 RX12) (hq : Rq X 70 0 0 (some .int) PostX) {u : (Int32 × MS)} (hp : PostX (some (.int u.1)) (mW X.E ad u.2)) {lp33 : Int32 → Int32 → Int32 → Int32 → Int32 → MS → Option (Int32 × MS)} (hlp33 : ∀ (x1 : Int32) (x2 : Int32) (x3 : Int32) (x4 : Int32) (x5 : Int32) (S : MS), lp33 x1 x2 x3 x4 x5 S = some u → G X 8 0 0 33 [(0, .ref (ad 0)), (1, .int x1), (2, .int x2), (3, .int x3), (4, .int x4), (5, .int x5)] [] (mW X.E ad S)) (x1 : Int32) (x2 : Int32) (x3 : Int32) (x4 : Int32) (x5 : Int32) (S : MS) (hf : f_X12_bestWith_123 lp33 x1 x2 x3 x4 x5 S = some u) : G X 8 0 0 123 [(0, .ref (ad 0)), (1, .int x1), (2, .int x2), (3, .int x3), (4, .int x4), (5, .int x5)] [] (mW X.E ad S) := by
  unfold f_X12_bestWith_123 at hf
  obtain ⟨v14, ev14, hf⟩ := bI_open hf
  refine g_iinc hX 5 (v := v14) [(5, .int v14), (0, .ref (ad 0)), (1, .int x1), (2, .int x2), (3, .int x3), (4, .int x4)] rfl (by rw [ev14]; rfl) (by decide) rfl dX12_bestWith_123 ?_
  refine g_goto hX 33 (by decide) dX12_bestWith_126 ?_
  refine g_lv [1, 2, 3, 4, 5, 0] rfl ?_
  exact hlp33 _ _ _ _ _ _ hf
set_option maxRecDepth 100000 in
set_option maxHeartbeats 4000000 in
theorem t_X12_bestWith_121 {X : Cx} {ad : Nat → Nat} {PostX : Option Value → va_W → Prop} (hX : Ok X cX12_bestWith 8 RX12) (hq : Rq X 70 0 0 (some .int) PostX) {u : (Int32 × MS)} (hp : PostX (some (.int u.1)) (mW X.E ad u.2)) {lp33 : Int32 → Int32 → Int32 → Int32 → Int32 → MS → Option (Int32 × MS)} (hlp33 : ∀ (x1 : Int32) (x2 : Int32) (x3 : Int32) (x4 : Int32) (x5 : Int32) (S : MS), lp33 x1 x2 x3 x4 x5 S = some u → G X 8 0 0 33 [(0, .ref (ad 0)), (1, .int x1), (2, .int x2), (3, .int x3), (4, .int x4), (5, .int x5)] [] (mW X.E ad S)) (x1 : Int32) (x2 : Int32) (x3 : Int32) (x5 : Int32) (y0 : Int32) (S : MS) (hf : f_X12_bestWith_121 lp33 x1 x2 x3 x5 y0 S = some u) : G X 8 0 0 121 [(0, .ref (ad 0)), (1, .int x1), (2, .int x2), (3, .int x3), (5, .int x5)] [.int y0] (mW X.E ad S) := by
  unfold f_X12_bestWith_121 at hf
  refine g_istore hX [(4, .int y0), (0, .ref (ad 0)), (1, .int x1), (2, .int x2), (3, .int x3), (5, .int x5)] (by decide) rfl dX12_bestWith_121 ?_
  refine g_lv [1, 2, 3, 4, 0, 5] rfl ?_
  exact t_X12_bestWith_123 hX hq hp hlp33 _ _ _ _ _ _ hf
set_option maxRecDepth 100000 in
set_option maxHeartbeats 4000000 in
theorem t_X12_bestWith_108 {X : Cx} {ad : Nat → Nat} {PostX : Option Value → va_W → Prop} (hX : Ok X cX12_bestWith 8 RX12) (hq : Rq X 70 0 0 (some .int) PostX) {u : (Int32 × MS)} (hp : PostX (some (.int u.1)) (mW X.E ad u.2)) {lp33 : Int32 → Int32 → Int32 → Int32 → Int32 → MS → Option (Int32 × MS)} (hlp33 : ∀ (x1 : Int32) (x2 : Int32) (x3 : Int32) (x4 : Int32) (x5 : Int32) (S : MS), lp33 x1 x2 x3 x4 x5 S = some u → G X 8 0 0 33 [(0, .ref (ad 0)), (1, .int x1), (2, .int x2), (3, .int x3), (4, .int x4), (5, .int x5)] [] (mW X.E ad S)) (x1 : Int32) (x2 : Int32) (x4 : Int32) (x5 : Int32) (x6 : Int32) (x7 : Int32) (y0 : Int32) (S : MS) (hf : f_X12_bestWith_108 lp33 x1 x2 x4 x5 x6 x7 y0 S = some u) : G X 8 0 0 108 [(0, .ref (ad 0)), (1, .int x1), (2, .int x2), (4, .int x4), (5, .int x5), (6, .int x6), (7, .int x7)] [.int y0] (mW X.E ad S) := by
  unfold f_X12_bestWith_108 at hf
  refine g_istoren hX [(3, .int y0), (0, .ref (ad 0)), (1, .int x1), (2, .int x2), (4, .int x4), (5, .int x5), (6, .int x6), (7, .int x7)] rfl (by decide) rfl dX12_bestWith_108 ?_
  refine g_iload hX 7 rfl dX12_bestWith_109 ?_
  refine g_if_eq hX 119 (by decide) dX12_bestWith_111 (fun c20 => ?_) (fun c20 => ?_)
  · have hf := ite_t c20 hf
    refine g_iload hX 4 rfl dX12_bestWith_119 ?_
    refine g_lv [1, 2, 3, 0, 5] rfl ?_
    exact t_X12_bestWith_121 hX hq hp hlp33 _ _ _ _ _ _ hf
  · have hf := ite_f c20 hf
    refine g_iload hX 6 rfl dX12_bestWith_114 ?_
    refine g_goto hX 121 (by decide) dX12_bestWith_116 ?_
    refine g_lv [1, 2, 3, 0, 5] rfl ?_
    exact t_X12_bestWith_121 hX hq hp hlp33 _ _ _ _ _ _ hf
set_option maxRecDepth 100000 in
set_option maxHeartbeats 4000000 in
theorem t_X12_bestWith_95 {X : Cx} {ad : Nat → Nat} {PostX : Option Value → va_W → Prop} (hX : Ok X cX12_bestWith 8 RX12) (hq : Rq X 70 0 0 (some .int) PostX) {u : (Int32 × MS)} (hp : PostX (some (.int u.1)) (mW X.E ad u.2)) {lp33 : Int32 → Int32 → Int32 → Int32 → Int32 → MS → Option (Int32 × MS)} (hlp33 : ∀ (x1 : Int32) (x2 : Int32) (x3 : Int32) (x4 : Int32) (x5 : Int32) (S : MS), lp33 x1 x2 x3 x4 x5 S = some u → G X 8 0 0 33 [(0, .ref (ad 0)), (1, .int x1), (2, .int x2), (3, .int x3), (4, .int x4), (5, .int x5)] [] (mW X.E ad S)) (x1 : Int32) (x2 : Int32) (x3 : Int32) (x4 : Int32) (x5 : Int32) (x6 : Int32) (y0 : Int32) (S : MS) (hf : f_X12_bestWith_95 lp33 x1 x2 x3 x4 x5 x6 y0 S = some u) : G X 8 0 0 95 [(0, .ref (ad 0)), (1, .int x1), (2, .int x2), (3, .int x3), (4, .int x4), (5, .int x5), (6, .int x6)] [.int y0] (mW X.E ad S) := by
  unfold f_X12_bestWith_95 at hf
  refine g_istore hX [(7, .int y0), (0, .ref (ad 0)), (1, .int x1), (2, .int x2), (3, .int x3), (4, .int x4), (5, .int x5), (6, .int x6)] (by decide) rfl dX12_bestWith_95 ?_
  refine g_iload hX 0 rfl dX12_bestWith_97 ?_
  refine g_if_eq hX 107 (by decide) dX12_bestWith_99 (fun c19 => ?_) (fun c19 => ?_)
  · have hf := ite_t c19 hf
    refine g_iloadn hX 4 rfl rfl dX12_bestWith_107 ?_
    refine g_lv [1, 2, 3, 5, 6, 7, 0] rfl ?_
    exact t_X12_bestWith_108 hX hq hp hlp33 _ _ _ _ _ _ _ _ hf
  · have hf := ite_f c19 hf
    refine g_iload hX 6 rfl dX12_bestWith_102 ?_
    refine g_goto hX 108 (by decide) dX12_bestWith_104 ?_
    refine g_lv [1, 2, 3, 5, 6, 7, 0] rfl ?_
    exact t_X12_bestWith_108 hX hq hp hlp33 _ _ _ _ _ _ _ _ hf
set_option maxRecDepth 100000 in
set_option maxHeartbeats 4000000 in
theorem t_X12_bestWith_90 {X : Cx} {ad : Nat → Nat} {PostX : Option Value → va_W → Prop} (hX : Ok X cX12_bestWith 8 RX12) (hq : Rq X 70 0 0 (some .int) PostX) {u : (Int32 × MS)} (hp : PostX (some (.int u.1)) (mW X.E ad u.2)) {lp33 : Int32 → Int32 → Int32 → Int32 → Int32 → MS → Option (Int32 × MS)} (hlp33 : ∀ (x1 : Int32) (x2 : Int32) (x3 : Int32) (x4 : Int32) (x5 : Int32) (S : MS), lp33 x1 x2 x3 x4 x5 S = some u → G X 8 0 0 33 [(0, .ref (ad 0)), (1, .int x1), (2, .int x2), (3, .int x3), (4, .int x4), (5, .int x5)] [] (mW X.E ad S)) (x1 : Int32) (x2 : Int32) (x3 : Int32) (x4 : Int32) (x5 : Int32) (x6 : Int32) (S : MS) (hf : f_X12_bestWith_90 lp33 x1 x2 x3 x4 x5 x6 S = some u) : G X 8 0 0 90 [(0, .ref (ad 0)), (1, .int x1), (2, .int x2), (3, .int x3), (4, .int x4), (5, .int x5), (6, .int x6)] [] (mW X.E ad S) := by
  unfold f_X12_bestWith_90 at hf
  refine g_iconst hX (v := 1) (by decide) dX12_bestWith_90 ?_
  refine g_goto hX 95 (by decide) dX12_bestWith_91 ?_
  exact t_X12_bestWith_95 hX hq hp hlp33 _ _ _ _ _ _ _ _ hf
set_option maxRecDepth 100000 in
set_option maxHeartbeats 4000000 in
theorem t_X12_bestWith_94 {X : Cx} {ad : Nat → Nat} {PostX : Option Value → va_W → Prop} (hX : Ok X cX12_bestWith 8 RX12) (hq : Rq X 70 0 0 (some .int) PostX) {u : (Int32 × MS)} (hp : PostX (some (.int u.1)) (mW X.E ad u.2)) {lp33 : Int32 → Int32 → Int32 → Int32 → Int32 → MS → Option (Int32 × MS)} (hlp33 : ∀ (x1 : Int32) (x2 : Int32) (x3 : Int32) (x4 : Int32) (x5 : Int32) (S : MS), lp33 x1 x2 x3 x4 x5 S = some u → G X 8 0 0 33 [(0, .ref (ad 0)), (1, .int x1), (2, .int x2), (3, .int x3), (4, .int x4), (5, .int x5)] [] (mW X.E ad S)) (x1 : Int32) (x2 : Int32) (x3 : Int32) (x4 : Int32) (x5 : Int32) (x6 : Int32) (S : MS) (hf : f_X12_bestWith_94 lp33 x1 x2 x3 x4 x5 x6 S = some u) : G X 8 0 0 94 [(0, .ref (ad 0)), (1, .int x1), (2, .int x2), (3, .int x3), (4, .int x4), (5, .int x5), (6, .int x6)] [] (mW X.E ad S) := by
  unfold f_X12_bestWith_94 at hf
  refine g_iconst hX (v := 0) (by decide) dX12_bestWith_94 ?_
  exact t_X12_bestWith_95 hX hq hp hlp33 _ _ _ _ _ _ _ _ hf
set_option maxRecDepth 100000 in
set_option maxHeartbeats 4000000 in
theorem t_X12_bestWith_33 {X : Cx} {ad : Nat → Nat} {PostX : Option Value → va_W → Prop} (hX : Ok X cX12_bestWith 8 RX12) (hq : Rq X 70 0 0 (some .int) PostX) {u : (Int32 × MS)} (hp : PostX (some (.int u.1)) (mW X.E ad u.2)) : ∀ (n : Nat) (x1 : Int32) (x2 : Int32) (x3 : Int32) (x4 : Int32) (x5 : Int32) (S : MS), f_X12_bestWith_33 n x1 x2 x3 x4 x5 S = some u → G X 8 0 0 33 [(0, .ref (ad 0)), (1, .int x1), (2, .int x2), (3, .int x3), (4, .int x4), (5, .int x5)] [] (mW X.E ad S) := by
  intro n
  induction n with
  | zero => intro _ _ _ _ _ _ hf; unfold f_X12_bestWith_33 at hf; cases hf
  | succ n hlp33 =>
  intro x1 x2 x3 x4 x5 S hf
  unfold f_X12_bestWith_33 at hf
  refine g_iload hX 5 rfl dX12_bestWith_33 ?_
  refine g_iconst hX (v := 1) (by decide) dX12_bestWith_35 ?_
  refine g_aloadn hX 0 rfl rfl dX12_bestWith_36 ?_
  refine mg_row hX dX12_bestWith_37 ?_
  refine g_iconst hX (v := 3) (by decide) dX12_bestWith_40 ?_
  refine ml_row hX (vpc (by decide)) 3 (by decide) (v := S.1 1 3) rfl dX12_bestWith_41 ?_
  refine g_jshl hX dX12_bestWith_42 ?_
  refine g_icmp_ge hX 129 (by decide) dX12_bestWith_43 (fun c11 => ?_) (fun c11 => ?_)
  · have hf := ite_t c11 hf
    refine g_iloadn hX 2 rfl rfl dX12_bestWith_129 ?_
    refine g_if_ne hX 137 (by decide) dX12_bestWith_130 (fun c12 => ?_) (fun c12 => ?_)
    · have hf := ite_f c12 hf
      refine g_iload hX 4 rfl dX12_bestWith_137 ?_
      obtain rfl := oi hf
      exact g_iret hX hq (by decide) (by decide) hp dX12_bestWith_139
    · have hf := ite_t c12 hf
      refine g_iloadn hX 3 rfl rfl dX12_bestWith_133 ?_
      refine g_goto hX 139 (by decide) dX12_bestWith_134 ?_
      obtain rfl := oi hf
      exact g_iret hX hq (by decide) (by decide) hp dX12_bestWith_139
  · have hf := ite_f c11 hf
    refine g_iload hX 5 rfl dX12_bestWith_46 ?_
    refine g_iloadn hX 1 rfl rfl dX12_bestWith_48 ?_
    refine g_jshr hX dX12_bestWith_49 ?_
    refine g_iconst hX (v := 1) (by decide) dX12_bestWith_50 ?_
    refine g_iand hX dX12_bestWith_51 ?_
    refine g_iconst hX (v := 1) (by decide) dX12_bestWith_52 ?_
    refine g_icmp_ne hX 123 (by decide) dX12_bestWith_53 (fun c13 => ?_) (fun c13 => ?_)
    · have hf := ite_f c13 hf
      exact t_X12_bestWith_123 hX hq hp hlp33 _ _ _ _ _ _ hf
    · have hf := ite_t c13 hf
      refine g_aloadn hX 0 rfl rfl dX12_bestWith_56 ?_
      refine g_iload hX 5 rfl dX12_bestWith_57 ?_
      obtain ⟨r17, S15, h16, hf⟩ := cb_open hf
      refine k_X12_floorTogether hX hq (c_X12_floorTogether h16) (by decide) (by decide) (by decide) (Nat.le_of_ble_eq_true rfl) dX12_bestWith_59 ?_
      refine g_istore hX [(6, .int r17), (0, .ref (ad 0)), (1, .int x1), (2, .int x2), (3, .int x3), (4, .int x4), (5, .int x5)] (by decide) rfl dX12_bestWith_62 ?_
      refine g_iload hX 0 rfl dX12_bestWith_64 ?_
      refine g_iload hX 5 rfl dX12_bestWith_66 ?_
      refine g_icmp_gt hX 90 (by decide) dX12_bestWith_68 (fun c18 => ?_) (fun c18 => ?_)
      · have hf := ite_t c18 hf
        refine g_lv [1, 2, 3, 4, 5, 6, 0] rfl ?_
        exact t_X12_bestWith_90 hX hq hp hlp33 _ _ _ _ _ _ _ hf
      · have hf := ite_f c18 hf
        refine g_iload hX 0 rfl dX12_bestWith_71 ?_
        refine g_iload hX 5 rfl dX12_bestWith_73 ?_
        refine g_icmp_ne hX 94 (by decide) dX12_bestWith_75 (fun c21 => ?_) (fun c21 => ?_)
        · have hf := ite_f c21 hf
          refine g_lv [1, 2, 3, 4, 5, 6, 0] rfl ?_
          exact t_X12_bestWith_94 hX hq hp hlp33 _ _ _ _ _ _ _ hf
        · have hf := ite_t c21 hf
          refine g_iload hX 6 rfl dX12_bestWith_78 ?_
          obtain ⟨r22, h23, hf⟩ := cs_open hf
          refine k_RX12_X12_bits hX hq h23 (by decide) (by decide) (by decide) (Nat.le_of_ble_eq_true rfl) dX12_bestWith_80 ?_
          refine g_iloadn hX 4 rfl rfl dX12_bestWith_83 ?_
          obtain ⟨r24, h25, hf⟩ := cs_open hf
          refine k_RX12_X12_bits hX hq h25 (by decide) (by decide) (by decide) (Nat.le_of_ble_eq_true rfl) dX12_bestWith_84 ?_
          refine g_icmp_ge hX 94 (by decide) dX12_bestWith_87 (fun c26 => ?_) (fun c26 => ?_)
          · have hf := ite_t c26 hf
            refine g_lv [1, 2, 3, 4, 5, 6, 0] rfl ?_
            exact t_X12_bestWith_94 hX hq hp hlp33 _ _ _ _ _ _ _ hf
          · have hf := ite_f c26 hf
            refine g_lv [1, 2, 3, 4, 5, 6, 0] rfl ?_
            exact t_X12_bestWith_90 hX hq hp hlp33 _ _ _ _ _ _ _ hf
set_option maxRecDepth 100000 in
set_option maxHeartbeats 4000000 in
theorem t_X12_bestWith_0 {X : Cx} {ad : Nat → Nat} {PostX : Option Value → va_W → Prop} (hX : Ok X cX12_bestWith 8 RX12) (hq : Rq X 70 0 0 (some .int) PostX) {u : (Int32 × MS)} (hp : PostX (some (.int u.1)) (mW X.E ad u.2)) (a1 : Int32) (a2 : Int32) (S : MS) (hf : f_X12_bestWith a1 a2 S = some u) : G X 8 0 0 0 [(0, .ref (ad 0)), (1, .int a1), (2, .int a2)] [] (mW X.E ad S) := by
  unfold f_X12_bestWith at hf
  refine g_aloadn hX 0 rfl rfl dX12_bestWith_0 ?_
  refine g_iloadn hX 1 rfl rfl dX12_bestWith_1 ?_
  obtain ⟨r3, S1, h2, hf⟩ := cb_open hf
  refine k_X12_isRider hX hq (c_X12_isRider h2) (by decide) (by decide) (by decide) (Nat.le_of_ble_eq_true rfl) dX12_bestWith_2 ?_
  refine g_if_eq hX 17 (by decide) dX12_bestWith_5 (fun c4 => ?_) (fun c4 => ?_)
  · have hf := ite_t c4 hf
    refine g_lv [0] rfl ?_
    exact t_X12_bestWith_17 hX hq hp _ hf
  · have hf := ite_f c4 hf
    refine g_iloadn hX 2 rfl rfl dX12_bestWith_8 ?_
    refine g_iconst hX (v := 0) (by decide) dX12_bestWith_9 ?_
    refine g_iconst hX (v := 1) (by decide) dX12_bestWith_10 ?_
    obtain ⟨r8, h9, hf⟩ := cs_open hf
    refine k_RX12_X12_in hX hq h9 (by decide) (by decide) (by decide) (Nat.le_of_ble_eq_true rfl) dX12_bestWith_11 ?_
    refine g_if_ne hX 24 (by decide) dX12_bestWith_14 (fun c10 => ?_) (fun c10 => ?_)
    · have hf := ite_f c10 hf
      refine g_iconst hX (v := 0) (by decide) dX12_bestWith_24 ?_
      refine g_istoren hX [(3, .int 0), (0, .ref (ad 0)), (1, .int a1), (2, .int a2)] rfl (by decide) rfl dX12_bestWith_25 ?_
      refine g_bipush hX (v := (-2)) (by decide) dX12_bestWith_26 ?_
      refine g_istore hX [(4, .int (-2)), (3, .int 0), (0, .ref (ad 0)), (1, .int a1), (2, .int a2)] (by decide) rfl dX12_bestWith_28 ?_
      refine g_iconst hX (v := 1) (by decide) dX12_bestWith_30 ?_
      refine g_istore hX [(5, .int 1), (4, .int (-2)), (3, .int 0), (0, .ref (ad 0)), (1, .int a1), (2, .int a2)] (by decide) rfl dX12_bestWith_31 ?_
      refine g_lv [3, 4, 5, 2, 1, 0] rfl ?_
      exact t_X12_bestWith_33 hX hq hp _ _ _ _ _ _ _ hf
    · have hf := ite_t c10 hf
      refine g_lv [0] rfl ?_
      exact t_X12_bestWith_17 hX hq hp _ hf
theorem c_X12_bestWith {l : Launch} {E : En} {ad : Nat → Nat} {a1 : Int32} {a2 : Int32} {r : Int32} {S S2 : MS} (hf : f_X12_bestWith a1 a2 S = some (r, S2)) : CP l E yX12_bestWith cX12_bestWith 8 (some .int) 70 0 0 [] [.ref (ad 0), .int a1, .int a2] (mW E ad S) (fun rv w => rv = some (.int r) ∧ w = mW E ad S2) :=
  CP.of (lv := [(0, .ref (ad 0)), (1, .int a1), (2, .int a2)]) (by decide +kernel) (Nat.le_of_ble_eq_true rfl) rfl (fun X hl hE hro hX hq hn => by subst hl; subst hE; exact t_X12_bestWith_0 hX hq ⟨rfl, rfl⟩ a1 a2 S hf)
def f_X12_longOf_25 (lp4 : Int32 → Int32 → Int32 → MS → Option (Int32 × MS)) (x1 : Int32) (x3 : Int32) (y0 : Int32) (y1 : Int32) (S : MS) : Option (Int32 × MS) :=
  bI (y0 + y1) fun v6 =>
  bI (x3 + 1) fun v7 =>
  lp4 x1 v6 v7 S
def f_X12_longOf_4 : Nat → Int32 → Int32 → Int32 → MS → Option (Int32 × MS)
  | 0 => fun _ _ _ _ => none
  | n + 1 => fun x1 x2 x3 S =>
    let lp4 := f_X12_longOf_4 n
    if (8 ≤ x3 : Prop) then
      some (x2, S)
    else
      cb (f_X12_saying x1 x3 S) fun r4 S2 =>
      if (r4 ≤ 0 : Prop) then
        f_X12_longOf_25 lp4 x1 x3 x2 0 S2
      else
        f_X12_longOf_25 lp4 x1 x3 x2 1 S2
def f_X12_longOf (a1 : Int32) (S : MS) : Option (Int32 × MS) :=
  f_X12_longOf_4 100 a1 0 0 S
set_option maxRecDepth 100000 in
set_option maxHeartbeats 4000000 in
theorem t_X12_longOf_25 {X : Cx} {ad : Nat → Nat} {PostX : Option Value → va_W → Prop} (hX : Ok X cX12_longOf 4 RX12) (hq : Rq X 1 0 0 (some .int) PostX) {u : (Int32 × MS)} (hp : PostX (some (.int u.1)) (mW X.E ad u.2)) {lp4 : Int32 → Int32 → Int32 → MS → Option (Int32 × MS)} (hlp4 : ∀ (x1 : Int32) (x2 : Int32) (x3 : Int32) (S : MS), lp4 x1 x2 x3 S = some u → G X 4 0 0 4 [(0, .ref (ad 0)), (1, .int x1), (2, .int x2), (3, .int x3)] [] (mW X.E ad S)) (x1 : Int32) (x3 : Int32) (y0 : Int32) (y1 : Int32) (S : MS) (hf : f_X12_longOf_25 lp4 x1 x3 y0 y1 S = some u) : G X 4 0 0 25 [(0, .ref (ad 0)), (1, .int x1), (3, .int x3)] [.int y1, .int y0] (mW X.E ad S) := by
  unfold f_X12_longOf_25 at hf
  refine g_iadd hX dX12_longOf_25 ?_
  obtain ⟨v6, ev6, hf⟩ := bI_open hf
  refine g_nm ev6 ?_
  refine g_istoren hX [(2, .int v6), (0, .ref (ad 0)), (1, .int x1), (3, .int x3)] rfl (by decide) rfl dX12_longOf_26 ?_
  obtain ⟨v7, ev7, hf⟩ := bI_open hf
  refine g_iinc hX 3 (v := v7) [(3, .int v7), (2, .int v6), (0, .ref (ad 0)), (1, .int x1)] rfl (by rw [ev7]; rfl) (by decide) rfl dX12_longOf_27 ?_
  refine g_goto hX 4 (by decide) dX12_longOf_30 ?_
  refine g_lv [2, 3, 1, 0] rfl ?_
  exact hlp4 _ _ _ _ hf
set_option maxRecDepth 100000 in
set_option maxHeartbeats 4000000 in
theorem t_X12_longOf_4 {X : Cx} {ad : Nat → Nat} {PostX : Option Value → va_W → Prop} (hX : Ok X cX12_longOf 4 RX12) (hq : Rq X 1 0 0 (some .int) PostX) {u : (Int32 × MS)} (hp : PostX (some (.int u.1)) (mW X.E ad u.2)) : ∀ (n : Nat) (x1 : Int32) (x2 : Int32) (x3 : Int32) (S : MS), f_X12_longOf_4 n x1 x2 x3 S = some u → G X 4 0 0 4 [(0, .ref (ad 0)), (1, .int x1), (2, .int x2), (3, .int x3)] [] (mW X.E ad S) := by
  intro n
  induction n with
  | zero => intro _ _ _ _ hf; unfold f_X12_longOf_4 at hf; cases hf
  | succ n hlp4 =>
  intro x1 x2 x3 S hf
  unfold f_X12_longOf_4 at hf
  refine g_iloadn hX 3 rfl rfl dX12_longOf_4 ?_
  refine g_bipush hX (v := 8) (by decide) dX12_longOf_5 ?_
  refine g_icmp_ge hX 33 (by decide) dX12_longOf_7 (fun c1 => ?_) (fun c1 => ?_)
  · have hf := ite_t c1 hf
    refine g_iloadn hX 2 rfl rfl dX12_longOf_33 ?_
    obtain rfl := oi hf
    exact g_iret hX hq (by decide) (by decide) hp dX12_longOf_34
  · have hf := ite_f c1 hf
    refine g_iloadn hX 2 rfl rfl dX12_longOf_10 ?_
    refine g_aloadn hX 0 rfl rfl dX12_longOf_11 ?_
    refine g_iloadn hX 1 rfl rfl dX12_longOf_12 ?_
    refine g_iloadn hX 3 rfl rfl dX12_longOf_13 ?_
    obtain ⟨r4, S2, h3, hf⟩ := cb_open hf
    refine k_X12_saying hX hq (c_X12_saying h3) (by decide) (by decide) (by decide) (Nat.le_of_ble_eq_true rfl) dX12_longOf_14 ?_
    refine g_if_le hX 24 (by decide) dX12_longOf_17 (fun c5 => ?_) (fun c5 => ?_)
    · have hf := ite_t c5 hf
      refine g_iconst hX (v := 0) (by decide) dX12_longOf_24 ?_
      refine g_lv [0, 1, 3] rfl ?_
      exact t_X12_longOf_25 hX hq hp hlp4 _ _ _ _ _ hf
    · have hf := ite_f c5 hf
      refine g_iconst hX (v := 1) (by decide) dX12_longOf_20 ?_
      refine g_goto hX 25 (by decide) dX12_longOf_21 ?_
      refine g_lv [0, 1, 3] rfl ?_
      exact t_X12_longOf_25 hX hq hp hlp4 _ _ _ _ _ hf
set_option maxRecDepth 100000 in
set_option maxHeartbeats 4000000 in
theorem t_X12_longOf_0 {X : Cx} {ad : Nat → Nat} {PostX : Option Value → va_W → Prop} (hX : Ok X cX12_longOf 4 RX12) (hq : Rq X 1 0 0 (some .int) PostX) {u : (Int32 × MS)} (hp : PostX (some (.int u.1)) (mW X.E ad u.2)) (a1 : Int32) (S : MS) (hf : f_X12_longOf a1 S = some u) : G X 4 0 0 0 [(0, .ref (ad 0)), (1, .int a1)] [] (mW X.E ad S) := by
  unfold f_X12_longOf at hf
  refine g_iconst hX (v := 0) (by decide) dX12_longOf_0 ?_
  refine g_istoren hX [(2, .int 0), (0, .ref (ad 0)), (1, .int a1)] rfl (by decide) rfl dX12_longOf_1 ?_
  refine g_iconst hX (v := 0) (by decide) dX12_longOf_2 ?_
  refine g_istoren hX [(3, .int 0), (2, .int 0), (0, .ref (ad 0)), (1, .int a1)] rfl (by decide) rfl dX12_longOf_3 ?_
  refine g_lv [2, 3, 1, 0] rfl ?_
  exact t_X12_longOf_4 hX hq hp _ _ _ _ _ hf
theorem c_X12_longOf {l : Launch} {E : En} {ad : Nat → Nat} {a1 : Int32} {r : Int32} {S S2 : MS} (hf : f_X12_longOf a1 S = some (r, S2)) : CP l E yX12_longOf cX12_longOf 4 (some .int) 1 0 0 [] [.ref (ad 0), .int a1] (mW E ad S) (fun rv w => rv = some (.int r) ∧ w = mW E ad S2) :=
  CP.of (lv := [(0, .ref (ad 0)), (1, .int a1)]) (by decide +kernel) (Nat.le_of_ble_eq_true rfl) rfl (fun X hl hE hro hX hq hn => by subst hl; subst hE; exact t_X12_longOf_0 hX hq ⟨rfl, rfl⟩ a1 S hf)
theorem kw_RX12_X12_longOf : KwV RX12 201 RX12 yX12_longOf cX12_longOf 4 (some .int) 1 := ⟨mem_wsV wd_6_44 wd_6_46 wd_s_46 wd_1_19 wd_6_47, rfl, ⟨by decide +kernel, by decide +kernel, by decide +kernel⟩, by decide⟩
theorem k_X12_longOf {X : Cx} {cc : ByteArray} {nL ce sl pc : Nat} {lv : List (Nat × Value)} {st : List Value} {dX mcX msX : Nat} {retX : Option FieldType} {PostX : Option Value → va_W → Prop} {ad : Nat → Nat} {S S2 : MS} {d : Nat} (hX : Ok X cc nL RX12) (hq : Rq X dX mcX msX retX PostX) {a1 : Int32} {r : Int32} (hM : CP X.l X.E yX12_longOf cX12_longOf 4 (some .int) d 0 0 [] [.ref (ad 0), .int a1] (mW X.E ad S) (fun rv w => rv = some (.int r) ∧ w = mW X.E ad S2)) (hd : d < dX) (hc : ce ≤ mcX) (hs : sl ≤ msX) (hcat : (st.map fun v => v.category).sum ≤ 8) (hdg : decode cc pc = .ok (.invokevirtual 201, 3)) (kk : G X nL ce sl (pc + 3) lv (.int r :: st) (mW X.E ad S2)) : G X nL ce sl pc lv (.int a1 :: .ref (ad 0) :: st) (mW X.E ad S) :=
  g_eqW (app1 _) (g_callV (pre := []) (mid := mW X.E ad S) (post := []) [.int a1] hX hq kw_RX12_X12_longOf hM (fun _ h => absurd h List.not_mem_nil) hd hc hs rfl (Recv.of 0 12 rfl rfl) rfl hcat hdg (fun rv ws2 hp => by obtain ⟨rfl, rfl⟩ := hp; exact g_eqW (app1 _).symm kk))
def f_X12_shortestTo_85 (lp16 : Int32 → Int32 → Int32 → Int32 → Int32 → Int32 → Int32 → MS → Option (Int32 × MS)) (x1 : Int32) (x2 : Int32) (x3 : Int32) (x4 : Int32) (x5 : Int32) (x6 : Int32) (x7 : Int32) (S : MS) : Option (Int32 × MS) :=
  bI (x7 + 1) fun v11 =>
  lp16 x1 x2 x3 x4 x5 x6 v11 S
def f_X12_shortestTo_55 (lp16 : Int32 → Int32 → Int32 → Int32 → Int32 → Int32 → Int32 → MS → Option (Int32 × MS)) (x1 : Int32) (x2 : Int32) (x3 : Int32) (x4 : Int32) (x5 : Int32) (x6 : Int32) (x7 : Int32) (y0 : Int32) (S : MS) : Option (Int32 × MS) :=
  if (y0 = 0 : Prop) then
    f_X12_shortestTo_85 lp16 x1 x2 x3 x4 x5 x6 x7 S
  else
    cb (f_X12_floorBy x1 x7 S) fun r14 S12 =>
    if (r14 < x2 : Prop) then
      f_X12_shortestTo_85 lp16 x1 x2 x3 x4 x5 x6 x7 S12
    else
      cb (f_X12_longOf x7 S12) fun r18 S16 =>
      f_X12_shortestTo_85 lp16 x1 x2 x3 x4 x7 r18 x7 S16
def f_X12_shortestTo_54 (lp16 : Int32 → Int32 → Int32 → Int32 → Int32 → Int32 → Int32 → MS → Option (Int32 × MS)) (x1 : Int32) (x2 : Int32) (x3 : Int32) (x4 : Int32) (x5 : Int32) (x6 : Int32) (x7 : Int32) (S : MS) : Option (Int32 × MS) :=
  f_X12_shortestTo_55 lp16 x1 x2 x3 x4 x5 x6 x7 0 S
def f_X12_shortestTo_39 (lp16 : Int32 → Int32 → Int32 → Int32 → Int32 → Int32 → Int32 → MS → Option (Int32 × MS)) (x1 : Int32) (x2 : Int32) (x3 : Int32) (x4 : Int32) (x5 : Int32) (x6 : Int32) (x7 : Int32) (S : MS) : Option (Int32 × MS) :=
  cb (f_X12_longOf x7 S) fun r8 S6 =>
  if (x6 ≤ r8 : Prop) then
    f_X12_shortestTo_54 lp16 x1 x2 x3 x4 x5 x6 x7 S6
  else
    f_X12_shortestTo_55 lp16 x1 x2 x3 x4 x5 x6 x7 1 S6
def f_X12_shortestTo_16 : Nat → Int32 → Int32 → Int32 → Int32 → Int32 → Int32 → Int32 → MS → Option (Int32 × MS)
  | 0 => fun _ _ _ _ _ _ _ _ => none
  | n + 1 => fun x1 x2 x3 x4 x5 x6 x7 S =>
    let lp16 := f_X12_shortestTo_16 n
    if (6561 ≤ x7 : Prop) then
      some (x5, S)
    else
      if (x3 = 0 : Prop) then
        f_X12_shortestTo_39 lp16 x1 x2 x3 x4 x5 x6 x7 S
      else
        cb (f_X12_isTrue x7 x4 S) fun r21 S19 =>
        if (r21 = 0 : Prop) then
          f_X12_shortestTo_54 lp16 x1 x2 x3 x4 x5 x6 x7 S19
        else
          f_X12_shortestTo_39 lp16 x1 x2 x3 x4 x5 x6 x7 S19
def f_X12_shortestTo (a1 : Int32) (a2 : Int32) (a3 : Int32) (S : MS) : Option (Int32 × MS) :=
  cb (f_X12_worldStory S) fun r3 S1 =>
  f_X12_shortestTo_16 7000 a1 a2 a3 r3 (-1) 9 1 S1
set_option maxRecDepth 100000 in
set_option maxHeartbeats 4000000 in
theorem t_X12_shortestTo_85 {X : Cx} {ad : Nat → Nat} {PostX : Option Value → va_W → Prop} (hX : Ok X cX12_shortestTo 9 RX12) (hq : Rq X 70 0 0 (some .int) PostX) {u : (Int32 × MS)} (hp : PostX (some (.int u.1)) (mW X.E ad u.2)) {lp16 : Int32 → Int32 → Int32 → Int32 → Int32 → Int32 → Int32 → MS → Option (Int32 × MS)} (hlp16 : ∀ (x1 : Int32) (x2 : Int32) (x3 : Int32) (x4 : Int32) (x5 : Int32) (x6 : Int32) (x7 : Int32) (S : MS), lp16 x1 x2 x3 x4 x5 x6 x7 S = some u → G X 9 0 0 16 [(0, .ref (ad 0)), (1, .int x1), (2, .int x2), (3, .int x3), (4, .int x4), (5, .int x5), (6, .int x6), (7, .int x7)] [] (mW X.E ad S)) (x1 : Int32) (x2 : Int32) (x3 : Int32) (x4 : Int32) (x5 : Int32) (x6 : Int32) (x7 : Int32) (S : MS) (hf : f_X12_shortestTo_85 lp16 x1 x2 x3 x4 x5 x6 x7 S = some u) : G X 9 0 0 85 [(0, .ref (ad 0)), (1, .int x1), (2, .int x2), (3, .int x3), (4, .int x4), (5, .int x5), (6, .int x6), (7, .int x7)] [] (mW X.E ad S) := by
  unfold f_X12_shortestTo_85 at hf
  obtain ⟨v11, ev11, hf⟩ := bI_open hf
  refine g_iinc hX 7 (v := v11) [(7, .int v11), (0, .ref (ad 0)), (1, .int x1), (2, .int x2), (3, .int x3), (4, .int x4), (5, .int x5), (6, .int x6)] rfl (by rw [ev11]; rfl) (by decide) rfl dX12_shortestTo_85 ?_
  refine g_goto hX 16 (by decide) dX12_shortestTo_88 ?_
  refine g_lv [1, 2, 3, 4, 5, 6, 7, 0] rfl ?_
  exact hlp16 _ _ _ _ _ _ _ _ hf
set_option maxRecDepth 100000 in
set_option maxHeartbeats 4000000 in
theorem t_X12_shortestTo_55 {X : Cx} {ad : Nat → Nat} {PostX : Option Value → va_W → Prop} (hX : Ok X cX12_shortestTo 9 RX12) (hq : Rq X 70 0 0 (some .int) PostX) {u : (Int32 × MS)} (hp : PostX (some (.int u.1)) (mW X.E ad u.2)) {lp16 : Int32 → Int32 → Int32 → Int32 → Int32 → Int32 → Int32 → MS → Option (Int32 × MS)} (hlp16 : ∀ (x1 : Int32) (x2 : Int32) (x3 : Int32) (x4 : Int32) (x5 : Int32) (x6 : Int32) (x7 : Int32) (S : MS), lp16 x1 x2 x3 x4 x5 x6 x7 S = some u → G X 9 0 0 16 [(0, .ref (ad 0)), (1, .int x1), (2, .int x2), (3, .int x3), (4, .int x4), (5, .int x5), (6, .int x6), (7, .int x7)] [] (mW X.E ad S)) (x1 : Int32) (x2 : Int32) (x3 : Int32) (x4 : Int32) (x5 : Int32) (x6 : Int32) (x7 : Int32) (y0 : Int32) (S : MS) (hf : f_X12_shortestTo_55 lp16 x1 x2 x3 x4 x5 x6 x7 y0 S = some u) : G X 9 0 0 55 [(0, .ref (ad 0)), (1, .int x1), (2, .int x2), (3, .int x3), (4, .int x4), (5, .int x5), (6, .int x6), (7, .int x7)] [.int y0] (mW X.E ad S) := by
  unfold f_X12_shortestTo_55 at hf
  refine g_istore hX [(8, .int y0), (0, .ref (ad 0)), (1, .int x1), (2, .int x2), (3, .int x3), (4, .int x4), (5, .int x5), (6, .int x6), (7, .int x7)] (by decide) rfl dX12_shortestTo_55 ?_
  refine g_iload hX 0 rfl dX12_shortestTo_57 ?_
  refine g_if_eq hX 85 (by decide) dX12_shortestTo_59 (fun c10 => ?_) (fun c10 => ?_)
  · have hf := ite_t c10 hf
    refine g_lv [1, 2, 3, 4, 5, 6, 7, 8] rfl ?_
    exact t_X12_shortestTo_85 hX hq hp hlp16 _ _ _ _ _ _ _ _ hf
  · have hf := ite_f c10 hf
    refine g_aloadn hX 1 rfl rfl dX12_shortestTo_62 ?_
    refine g_iloadn hX 2 rfl rfl dX12_shortestTo_63 ?_
    refine g_iload hX 8 rfl dX12_shortestTo_64 ?_
    obtain ⟨r14, S12, h13, hf⟩ := cb_open hf
    refine k_X12_floorBy hX hq (c_X12_floorBy h13) (by decide) (by decide) (by decide) (Nat.le_of_ble_eq_true rfl) dX12_shortestTo_66 ?_
    refine g_iloadn hX 3 rfl rfl dX12_shortestTo_69 ?_
    refine g_icmp_lt hX 85 (by decide) dX12_shortestTo_70 (fun c15 => ?_) (fun c15 => ?_)
    · have hf := ite_t c15 hf
      refine g_lv [1, 2, 3, 4, 5, 6, 7, 8] rfl ?_
      exact t_X12_shortestTo_85 hX hq hp hlp16 _ _ _ _ _ _ _ _ hf
    · have hf := ite_f c15 hf
      refine g_iload hX 8 rfl dX12_shortestTo_73 ?_
      refine g_istore hX [(5, .int x7), (8, .int y0), (0, .ref (ad 0)), (1, .int x1), (2, .int x2), (3, .int x3), (4, .int x4), (6, .int x6), (7, .int x7)] (by decide) rfl dX12_shortestTo_75 ?_
      refine g_aloadn hX 2 rfl rfl dX12_shortestTo_77 ?_
      refine g_iload hX 8 rfl dX12_shortestTo_78 ?_
      obtain ⟨r18, S16, h17, hf⟩ := cb_open hf
      refine k_X12_longOf hX hq (c_X12_longOf h17) (by decide) (by decide) (by decide) (Nat.le_of_ble_eq_true rfl) dX12_shortestTo_80 ?_
      refine g_istore hX [(6, .int r18), (5, .int x7), (8, .int y0), (0, .ref (ad 0)), (1, .int x1), (2, .int x2), (3, .int x3), (4, .int x4), (7, .int x7)] (by decide) rfl dX12_shortestTo_83 ?_
      refine g_lv [3, 4, 5, 6, 7, 1, 0, 8] rfl ?_
      exact t_X12_shortestTo_85 hX hq hp hlp16 _ _ _ _ _ _ _ _ hf
set_option maxRecDepth 100000 in
set_option maxHeartbeats 4000000 in
theorem t_X12_shortestTo_54 {X : Cx} {ad : Nat → Nat} {PostX : Option Value → va_W → Prop} (hX : Ok X cX12_shortestTo 9 RX12) (hq : Rq X 70 0 0 (some .int) PostX) {u : (Int32 × MS)} (hp : PostX (some (.int u.1)) (mW X.E ad u.2)) {lp16 : Int32 → Int32 → Int32 → Int32 → Int32 → Int32 → Int32 → MS → Option (Int32 × MS)} (hlp16 : ∀ (x1 : Int32) (x2 : Int32) (x3 : Int32) (x4 : Int32) (x5 : Int32) (x6 : Int32) (x7 : Int32) (S : MS), lp16 x1 x2 x3 x4 x5 x6 x7 S = some u → G X 9 0 0 16 [(0, .ref (ad 0)), (1, .int x1), (2, .int x2), (3, .int x3), (4, .int x4), (5, .int x5), (6, .int x6), (7, .int x7)] [] (mW X.E ad S)) (x1 : Int32) (x2 : Int32) (x3 : Int32) (x4 : Int32) (x5 : Int32) (x6 : Int32) (x7 : Int32) (S : MS) (hf : f_X12_shortestTo_54 lp16 x1 x2 x3 x4 x5 x6 x7 S = some u) : G X 9 0 0 54 [(0, .ref (ad 0)), (1, .int x1), (2, .int x2), (3, .int x3), (4, .int x4), (5, .int x5), (6, .int x6), (7, .int x7)] [] (mW X.E ad S) := by
  unfold f_X12_shortestTo_54 at hf
  refine g_iconst hX (v := 0) (by decide) dX12_shortestTo_54 ?_
  exact t_X12_shortestTo_55 hX hq hp hlp16 _ _ _ _ _ _ _ _ _ hf
set_option maxRecDepth 100000 in
set_option maxHeartbeats 4000000 in
theorem t_X12_shortestTo_39 {X : Cx} {ad : Nat → Nat} {PostX : Option Value → va_W → Prop} (hX : Ok X cX12_shortestTo 9 RX12) (hq : Rq X 70 0 0 (some .int) PostX) {u : (Int32 × MS)} (hp : PostX (some (.int u.1)) (mW X.E ad u.2)) {lp16 : Int32 → Int32 → Int32 → Int32 → Int32 → Int32 → Int32 → MS → Option (Int32 × MS)} (hlp16 : ∀ (x1 : Int32) (x2 : Int32) (x3 : Int32) (x4 : Int32) (x5 : Int32) (x6 : Int32) (x7 : Int32) (S : MS), lp16 x1 x2 x3 x4 x5 x6 x7 S = some u → G X 9 0 0 16 [(0, .ref (ad 0)), (1, .int x1), (2, .int x2), (3, .int x3), (4, .int x4), (5, .int x5), (6, .int x6), (7, .int x7)] [] (mW X.E ad S)) (x1 : Int32) (x2 : Int32) (x3 : Int32) (x4 : Int32) (x5 : Int32) (x6 : Int32) (x7 : Int32) (S : MS) (hf : f_X12_shortestTo_39 lp16 x1 x2 x3 x4 x5 x6 x7 S = some u) : G X 9 0 0 39 [(0, .ref (ad 0)), (1, .int x1), (2, .int x2), (3, .int x3), (4, .int x4), (5, .int x5), (6, .int x6), (7, .int x7)] [] (mW X.E ad S) := by
  unfold f_X12_shortestTo_39 at hf
  refine g_aloadn hX 0 rfl rfl dX12_shortestTo_39 ?_
  refine g_iload hX 7 rfl dX12_shortestTo_40 ?_
  obtain ⟨r8, S6, h7, hf⟩ := cb_open hf
  refine k_X12_longOf hX hq (c_X12_longOf h7) (by decide) (by decide) (by decide) (Nat.le_of_ble_eq_true rfl) dX12_shortestTo_42 ?_
  refine g_iload hX 6 rfl dX12_shortestTo_45 ?_
  refine g_icmp_ge hX 54 (by decide) dX12_shortestTo_47 (fun c9 => ?_) (fun c9 => ?_)
  · have hf := ite_t c9 hf
    exact t_X12_shortestTo_54 hX hq hp hlp16 _ _ _ _ _ _ _ _ hf
  · have hf := ite_f c9 hf
    refine g_iconst hX (v := 1) (by decide) dX12_shortestTo_50 ?_
    refine g_goto hX 55 (by decide) dX12_shortestTo_51 ?_
    exact t_X12_shortestTo_55 hX hq hp hlp16 _ _ _ _ _ _ _ _ _ hf
set_option maxRecDepth 100000 in
set_option maxHeartbeats 4000000 in
theorem t_X12_shortestTo_16 {X : Cx} {ad : Nat → Nat} {PostX : Option Value → va_W → Prop} (hX : Ok X cX12_shortestTo 9 RX12) (hq : Rq X 70 0 0 (some .int) PostX) {u : (Int32 × MS)} (hp : PostX (some (.int u.1)) (mW X.E ad u.2)) : ∀ (n : Nat) (x1 : Int32) (x2 : Int32) (x3 : Int32) (x4 : Int32) (x5 : Int32) (x6 : Int32) (x7 : Int32) (S : MS), f_X12_shortestTo_16 n x1 x2 x3 x4 x5 x6 x7 S = some u → G X 9 0 0 16 [(0, .ref (ad 0)), (1, .int x1), (2, .int x2), (3, .int x3), (4, .int x4), (5, .int x5), (6, .int x6), (7, .int x7)] [] (mW X.E ad S) := by
  intro n
  induction n with
  | zero => intro _ _ _ _ _ _ _ _ hf; unfold f_X12_shortestTo_16 at hf; cases hf
  | succ n hlp16 =>
  intro x1 x2 x3 x4 x5 x6 x7 S hf
  unfold f_X12_shortestTo_16 at hf
  refine g_iload hX 7 rfl dX12_shortestTo_16 ?_
  refine g_sipush hX (v := 6561) (by decide) dX12_shortestTo_18 ?_
  refine g_icmp_ge hX 91 (by decide) dX12_shortestTo_21 (fun c4 => ?_) (fun c4 => ?_)
  · have hf := ite_t c4 hf
    refine g_iload hX 5 rfl dX12_shortestTo_91 ?_
    obtain rfl := oi hf
    exact g_iret hX hq (by decide) (by decide) hp dX12_shortestTo_93
  · have hf := ite_f c4 hf
    refine g_iloadn hX 3 rfl rfl dX12_shortestTo_24 ?_
    refine g_if_eq hX 39 (by decide) dX12_shortestTo_25 (fun c5 => ?_) (fun c5 => ?_)
    · have hf := ite_t c5 hf
      exact t_X12_shortestTo_39 hX hq hp hlp16 _ _ _ _ _ _ _ _ hf
    · have hf := ite_f c5 hf
      refine g_aloadn hX 0 rfl rfl dX12_shortestTo_28 ?_
      refine g_iload hX 7 rfl dX12_shortestTo_29 ?_
      refine g_iload hX 4 rfl dX12_shortestTo_31 ?_
      obtain ⟨r21, S19, h20, hf⟩ := cb_open hf
      refine k_X12_isTrue hX hq (c_X12_isTrue h20) (by decide) (by decide) (by decide) (Nat.le_of_ble_eq_true rfl) dX12_shortestTo_33 ?_
      refine g_if_eq hX 54 (by decide) dX12_shortestTo_36 (fun c22 => ?_) (fun c22 => ?_)
      · have hf := ite_t c22 hf
        exact t_X12_shortestTo_54 hX hq hp hlp16 _ _ _ _ _ _ _ _ hf
      · have hf := ite_f c22 hf
        exact t_X12_shortestTo_39 hX hq hp hlp16 _ _ _ _ _ _ _ _ hf
set_option maxRecDepth 100000 in
set_option maxHeartbeats 4000000 in
theorem t_X12_shortestTo_0 {X : Cx} {ad : Nat → Nat} {PostX : Option Value → va_W → Prop} (hX : Ok X cX12_shortestTo 9 RX12) (hq : Rq X 70 0 0 (some .int) PostX) {u : (Int32 × MS)} (hp : PostX (some (.int u.1)) (mW X.E ad u.2)) (a1 : Int32) (a2 : Int32) (a3 : Int32) (S : MS) (hf : f_X12_shortestTo a1 a2 a3 S = some u) : G X 9 0 0 0 [(0, .ref (ad 0)), (1, .int a1), (2, .int a2), (3, .int a3)] [] (mW X.E ad S) := by
  unfold f_X12_shortestTo at hf
  refine g_aloadn hX 0 rfl rfl dX12_shortestTo_0 ?_
  obtain ⟨r3, S1, h2, hf⟩ := cb_open hf
  refine k_X12_worldStory hX hq (c_X12_worldStory h2) (by decide) (by decide) (by decide) (Nat.le_of_ble_eq_true rfl) dX12_shortestTo_1 ?_
  refine g_istore hX [(4, .int r3), (0, .ref (ad 0)), (1, .int a1), (2, .int a2), (3, .int a3)] (by decide) rfl dX12_shortestTo_4 ?_
  refine g_iconst hX (v := (-1)) (by decide) dX12_shortestTo_6 ?_
  refine g_istore hX [(5, .int (-1)), (4, .int r3), (0, .ref (ad 0)), (1, .int a1), (2, .int a2), (3, .int a3)] (by decide) rfl dX12_shortestTo_7 ?_
  refine g_bipush hX (v := 9) (by decide) dX12_shortestTo_9 ?_
  refine g_istore hX [(6, .int 9), (5, .int (-1)), (4, .int r3), (0, .ref (ad 0)), (1, .int a1), (2, .int a2), (3, .int a3)] (by decide) rfl dX12_shortestTo_11 ?_
  refine g_iconst hX (v := 1) (by decide) dX12_shortestTo_13 ?_
  refine g_istore hX [(7, .int 1), (6, .int 9), (5, .int (-1)), (4, .int r3), (0, .ref (ad 0)), (1, .int a1), (2, .int a2), (3, .int a3)] (by decide) rfl dX12_shortestTo_14 ?_
  refine g_lv [4, 5, 6, 7, 3, 2, 1, 0] rfl ?_
  exact t_X12_shortestTo_16 hX hq hp _ _ _ _ _ _ _ _ _ hf
theorem c_X12_shortestTo {l : Launch} {E : En} {ad : Nat → Nat} {a1 : Int32} {a2 : Int32} {a3 : Int32} {r : Int32} {S S2 : MS} (hf : f_X12_shortestTo a1 a2 a3 S = some (r, S2)) : CP l E yX12_shortestTo cX12_shortestTo 9 (some .int) 70 0 0 [] [.ref (ad 0), .int a1, .int a2, .int a3] (mW E ad S) (fun rv w => rv = some (.int r) ∧ w = mW E ad S2) :=
  CP.of (lv := [(0, .ref (ad 0)), (1, .int a1), (2, .int a2), (3, .int a3)]) (by decide +kernel) (Nat.le_of_ble_eq_true rfl) rfl (fun X hl hE hro hX hq hn => by subst hl; subst hE; exact t_X12_shortestTo_0 hX hq ⟨rfl, rfl⟩ a1 a2 a3 S hf)
theorem kw_RX12_X12_shortestTo : KwV RX12 207 RX12 yX12_shortestTo cX12_shortestTo 9 (some .int) 3 := ⟨mem_wsV wd_6_40 wd_6_42 wd_s_45 wd_1_19 wd_6_43, rfl, ⟨by decide +kernel, by decide +kernel, by decide +kernel⟩, by decide⟩
theorem k_X12_shortestTo {X : Cx} {cc : ByteArray} {nL ce sl pc : Nat} {lv : List (Nat × Value)} {st : List Value} {dX mcX msX : Nat} {retX : Option FieldType} {PostX : Option Value → va_W → Prop} {ad : Nat → Nat} {S S2 : MS} {d : Nat} (hX : Ok X cc nL RX12) (hq : Rq X dX mcX msX retX PostX) {a1 : Int32} {a2 : Int32} {a3 : Int32} {r : Int32} (hM : CP X.l X.E yX12_shortestTo cX12_shortestTo 9 (some .int) d 0 0 [] [.ref (ad 0), .int a1, .int a2, .int a3] (mW X.E ad S) (fun rv w => rv = some (.int r) ∧ w = mW X.E ad S2)) (hd : d < dX) (hc : ce ≤ mcX) (hs : sl ≤ msX) (hcat : (st.map fun v => v.category).sum ≤ 8) (hdg : decode cc pc = .ok (.invokevirtual 207, 3)) (kk : G X nL ce sl (pc + 3) lv (.int r :: st) (mW X.E ad S2)) : G X nL ce sl pc lv (.int a3 :: .int a2 :: .int a1 :: .ref (ad 0) :: st) (mW X.E ad S) :=
  g_eqW (app1 _) (g_callV (pre := []) (mid := mW X.E ad S) (post := []) [.int a1, .int a2, .int a3] hX hq kw_RX12_X12_shortestTo hM (fun _ h => absurd h List.not_mem_nil) hd hc hs rfl (Recv.of 0 12 rfl rfl) rfl hcat hdg (fun rv ws2 hp => by obtain ⟨rfl, rfl⟩ := hp; exact g_eqW (app1 _).symm kk))
def f_X12_shortest_15 (S : MS) : Option (Int32 × MS) :=
  cb (f_X12_errs (-1000000001) S) fun r7 S5 =>
  some (r7, S5)
def f_X12_shortest (a1 : Int32) (a2 : Int32) (S : MS) : Option (Int32 × MS) :=
  cb (f_X12_isRider a1 S) fun r3 S1 =>
  if (r3 = 0 : Prop) then
    f_X12_shortest_15 S1
  else
    cs (f_X12_isFloor a2) fun r8 =>
    if (r8 = 0 : Prop) then
      f_X12_shortest_15 S1
    else
      cb (f_X12_shortestTo a1 a2 0 S1) fun r13 S11 =>
      if (0 ≤ r13 : Prop) then
        some (r13, S11)
      else
        cb (f_X12_errs (-1000000002) S11) fun r17 S15 =>
        some (r17, S15)
set_option maxRecDepth 100000 in
set_option maxHeartbeats 4000000 in
theorem t_X12_shortest_15 {X : Cx} {ad : Nat → Nat} {PostX : Option Value → va_W → Prop} (hX : Ok X cX12_shortest 4 RX12) (hq : Rq X 71 0 0 (some .int) PostX) {u : (Int32 × MS)} (hp : PostX (some (.int u.1)) (mW X.E ad u.2)) (S : MS) (hf : f_X12_shortest_15 S = some u) : G X 4 0 0 15 [(0, .ref (ad 0))] [] (mW X.E ad S) := by
  unfold f_X12_shortest_15 at hf
  refine g_aloadn hX 0 rfl rfl dX12_shortest_15 ?_
  refine g_ldc hX (v := (-1000000001)) wd_5_74 dX12_shortest_16 ?_
  obtain ⟨r7, S5, h6, hf⟩ := cb_open hf
  refine k_X12_errs hX hq (c_X12_errs h6) (by decide) (by decide) (by decide) (Nat.le_of_ble_eq_true rfl) dX12_shortest_18 ?_
  obtain rfl := oi hf
  exact g_iret hX hq (by decide) (by decide) hp dX12_shortest_21
set_option maxRecDepth 100000 in
set_option maxHeartbeats 4000000 in
theorem t_X12_shortest_0 {X : Cx} {ad : Nat → Nat} {PostX : Option Value → va_W → Prop} (hX : Ok X cX12_shortest 4 RX12) (hq : Rq X 71 0 0 (some .int) PostX) {u : (Int32 × MS)} (hp : PostX (some (.int u.1)) (mW X.E ad u.2)) (a1 : Int32) (a2 : Int32) (S : MS) (hf : f_X12_shortest a1 a2 S = some u) : G X 4 0 0 0 [(0, .ref (ad 0)), (1, .int a1), (2, .int a2)] [] (mW X.E ad S) := by
  unfold f_X12_shortest at hf
  refine g_aloadn hX 0 rfl rfl dX12_shortest_0 ?_
  refine g_iloadn hX 1 rfl rfl dX12_shortest_1 ?_
  obtain ⟨r3, S1, h2, hf⟩ := cb_open hf
  refine k_X12_isRider hX hq (c_X12_isRider h2) (by decide) (by decide) (by decide) (Nat.le_of_ble_eq_true rfl) dX12_shortest_2 ?_
  refine g_if_eq hX 15 (by decide) dX12_shortest_5 (fun c4 => ?_) (fun c4 => ?_)
  · have hf := ite_t c4 hf
    refine g_lv [0] rfl ?_
    exact t_X12_shortest_15 hX hq hp _ hf
  · have hf := ite_f c4 hf
    refine g_iloadn hX 2 rfl rfl dX12_shortest_8 ?_
    obtain ⟨r8, h9, hf⟩ := cs_open hf
    refine k_RX12_X12_isFloor hX hq h9 (by decide) (by decide) (by decide) (Nat.le_of_ble_eq_true rfl) dX12_shortest_9 ?_
    refine g_if_ne hX 22 (by decide) dX12_shortest_12 (fun c10 => ?_) (fun c10 => ?_)
    · have hf := ite_f c10 hf
      refine g_aloadn hX 0 rfl rfl dX12_shortest_22 ?_
      refine g_iloadn hX 1 rfl rfl dX12_shortest_23 ?_
      refine g_iloadn hX 2 rfl rfl dX12_shortest_24 ?_
      refine g_iconst hX (v := 0) (by decide) dX12_shortest_25 ?_
      obtain ⟨r13, S11, h12, hf⟩ := cb_open hf
      refine k_X12_shortestTo hX hq (c_X12_shortestTo h12) (by decide) (by decide) (by decide) (Nat.le_of_ble_eq_true rfl) dX12_shortest_26 ?_
      refine g_istoren hX [(3, .int r13), (0, .ref (ad 0)), (1, .int a1), (2, .int a2)] rfl (by decide) rfl dX12_shortest_29 ?_
      refine g_iloadn hX 0 rfl rfl dX12_shortest_30 ?_
      refine g_if_ge hX 43 (by decide) dX12_shortest_31 (fun c14 => ?_) (fun c14 => ?_)
      · have hf := ite_t c14 hf
        refine g_iloadn hX 0 rfl rfl dX12_shortest_43 ?_
        obtain rfl := oi hf
        exact g_iret hX hq (by decide) (by decide) hp dX12_shortest_44
      · have hf := ite_f c14 hf
        refine g_aloadn hX 1 rfl rfl dX12_shortest_34 ?_
        refine g_ldc hX (v := (-1000000002)) wd_6_48 dX12_shortest_35 ?_
        obtain ⟨r17, S15, h16, hf⟩ := cb_open hf
        refine k_X12_errs hX hq (c_X12_errs h16) (by decide) (by decide) (by decide) (Nat.le_of_ble_eq_true rfl) dX12_shortest_37 ?_
        refine g_goto hX 44 (by decide) dX12_shortest_40 ?_
        obtain rfl := oi hf
        exact g_iret hX hq (by decide) (by decide) hp dX12_shortest_44
    · have hf := ite_t c10 hf
      refine g_lv [0] rfl ?_
      exact t_X12_shortest_15 hX hq hp _ hf
theorem c_X12_shortest {l : Launch} {E : En} {ad : Nat → Nat} {a1 : Int32} {a2 : Int32} {r : Int32} {S S2 : MS} (hf : f_X12_shortest a1 a2 S = some (r, S2)) : CP l E yX12_shortest cX12_shortest 4 (some .int) 71 0 0 [] [.ref (ad 0), .int a1, .int a2] (mW E ad S) (fun rv w => rv = some (.int r) ∧ w = mW E ad S2) :=
  CP.of (lv := [(0, .ref (ad 0)), (1, .int a1), (2, .int a2)]) (by decide +kernel) (Nat.le_of_ble_eq_true rfl) rfl (fun X hl hE hro hX hq hn => by subst hl; subst hE; exact t_X12_shortest_0 hX hq ⟨rfl, rfl⟩ a1 a2 S hf)
def f_X12_truest_15 (S : MS) : Option (Int32 × MS) :=
  cb (f_X12_errs (-1000000001) S) fun r7 S5 =>
  some (r7, S5)
def f_X12_truest (a1 : Int32) (a2 : Int32) (S : MS) : Option (Int32 × MS) :=
  cb (f_X12_isRider a1 S) fun r3 S1 =>
  if (r3 = 0 : Prop) then
    f_X12_truest_15 S1
  else
    cs (f_X12_isFloor a2) fun r8 =>
    if (r8 = 0 : Prop) then
      f_X12_truest_15 S1
    else
      cb (f_X12_shortestTo a1 a2 1 S1) fun r13 S11 =>
      if (0 ≤ r13 : Prop) then
        some (r13, S11)
      else
        cb (f_X12_errs (-1000000002) S11) fun r17 S15 =>
        some (r17, S15)
set_option maxRecDepth 100000 in
set_option maxHeartbeats 4000000 in
theorem t_X12_truest_15 {X : Cx} {ad : Nat → Nat} {PostX : Option Value → va_W → Prop} (hX : Ok X cX12_truest 4 RX12) (hq : Rq X 71 0 0 (some .int) PostX) {u : (Int32 × MS)} (hp : PostX (some (.int u.1)) (mW X.E ad u.2)) (S : MS) (hf : f_X12_truest_15 S = some u) : G X 4 0 0 15 [(0, .ref (ad 0))] [] (mW X.E ad S) := by
  unfold f_X12_truest_15 at hf
  refine g_aloadn hX 0 rfl rfl dX12_truest_15 ?_
  refine g_ldc hX (v := (-1000000001)) wd_5_74 dX12_truest_16 ?_
  obtain ⟨r7, S5, h6, hf⟩ := cb_open hf
  refine k_X12_errs hX hq (c_X12_errs h6) (by decide) (by decide) (by decide) (Nat.le_of_ble_eq_true rfl) dX12_truest_18 ?_
  obtain rfl := oi hf
  exact g_iret hX hq (by decide) (by decide) hp dX12_truest_21
set_option maxRecDepth 100000 in
set_option maxHeartbeats 4000000 in
theorem t_X12_truest_0 {X : Cx} {ad : Nat → Nat} {PostX : Option Value → va_W → Prop} (hX : Ok X cX12_truest 4 RX12) (hq : Rq X 71 0 0 (some .int) PostX) {u : (Int32 × MS)} (hp : PostX (some (.int u.1)) (mW X.E ad u.2)) (a1 : Int32) (a2 : Int32) (S : MS) (hf : f_X12_truest a1 a2 S = some u) : G X 4 0 0 0 [(0, .ref (ad 0)), (1, .int a1), (2, .int a2)] [] (mW X.E ad S) := by
  unfold f_X12_truest at hf
  refine g_aloadn hX 0 rfl rfl dX12_truest_0 ?_
  refine g_iloadn hX 1 rfl rfl dX12_truest_1 ?_
  obtain ⟨r3, S1, h2, hf⟩ := cb_open hf
  refine k_X12_isRider hX hq (c_X12_isRider h2) (by decide) (by decide) (by decide) (Nat.le_of_ble_eq_true rfl) dX12_truest_2 ?_
  refine g_if_eq hX 15 (by decide) dX12_truest_5 (fun c4 => ?_) (fun c4 => ?_)
  · have hf := ite_t c4 hf
    refine g_lv [0] rfl ?_
    exact t_X12_truest_15 hX hq hp _ hf
  · have hf := ite_f c4 hf
    refine g_iloadn hX 2 rfl rfl dX12_truest_8 ?_
    obtain ⟨r8, h9, hf⟩ := cs_open hf
    refine k_RX12_X12_isFloor hX hq h9 (by decide) (by decide) (by decide) (Nat.le_of_ble_eq_true rfl) dX12_truest_9 ?_
    refine g_if_ne hX 22 (by decide) dX12_truest_12 (fun c10 => ?_) (fun c10 => ?_)
    · have hf := ite_f c10 hf
      refine g_aloadn hX 0 rfl rfl dX12_truest_22 ?_
      refine g_iloadn hX 1 rfl rfl dX12_truest_23 ?_
      refine g_iloadn hX 2 rfl rfl dX12_truest_24 ?_
      refine g_iconst hX (v := 1) (by decide) dX12_truest_25 ?_
      obtain ⟨r13, S11, h12, hf⟩ := cb_open hf
      refine k_X12_shortestTo hX hq (c_X12_shortestTo h12) (by decide) (by decide) (by decide) (Nat.le_of_ble_eq_true rfl) dX12_truest_26 ?_
      refine g_istoren hX [(3, .int r13), (0, .ref (ad 0)), (1, .int a1), (2, .int a2)] rfl (by decide) rfl dX12_truest_29 ?_
      refine g_iloadn hX 0 rfl rfl dX12_truest_30 ?_
      refine g_if_ge hX 43 (by decide) dX12_truest_31 (fun c14 => ?_) (fun c14 => ?_)
      · have hf := ite_t c14 hf
        refine g_iloadn hX 0 rfl rfl dX12_truest_43 ?_
        obtain rfl := oi hf
        exact g_iret hX hq (by decide) (by decide) hp dX12_truest_44
      · have hf := ite_f c14 hf
        refine g_aloadn hX 1 rfl rfl dX12_truest_34 ?_
        refine g_ldc hX (v := (-1000000002)) wd_6_48 dX12_truest_35 ?_
        obtain ⟨r17, S15, h16, hf⟩ := cb_open hf
        refine k_X12_errs hX hq (c_X12_errs h16) (by decide) (by decide) (by decide) (Nat.le_of_ble_eq_true rfl) dX12_truest_37 ?_
        refine g_goto hX 44 (by decide) dX12_truest_40 ?_
        obtain rfl := oi hf
        exact g_iret hX hq (by decide) (by decide) hp dX12_truest_44
    · have hf := ite_t c10 hf
      refine g_lv [0] rfl ?_
      exact t_X12_truest_15 hX hq hp _ hf
theorem c_X12_truest {l : Launch} {E : En} {ad : Nat → Nat} {a1 : Int32} {a2 : Int32} {r : Int32} {S S2 : MS} (hf : f_X12_truest a1 a2 S = some (r, S2)) : CP l E yX12_truest cX12_truest 4 (some .int) 71 0 0 [] [.ref (ad 0), .int a1, .int a2] (mW E ad S) (fun rv w => rv = some (.int r) ∧ w = mW E ad S2) :=
  CP.of (lv := [(0, .ref (ad 0)), (1, .int a1), (2, .int a2)]) (by decide +kernel) (Nat.le_of_ble_eq_true rfl) rfl (fun X hl hE hro hX hq hn => by subst hl; subst hE; exact t_X12_truest_0 hX hq ⟨rfl, rfl⟩ a1 a2 S hf)
def f_X12_out_15 (S : MS) : Option (Int32 × MS) :=
  cb (f_X12_errs (-1000000001) S) fun r7 S5 =>
  some (r7, S5)
def f_X12_out_134 (lp35 : Int32 → Int32 → Int32 → Int32 → Int32 → MS → Option (Int32 × MS)) (lp74 : Int32 → Int32 → Int32 → Int32 → Int32 → Int32 → Int32 → Int32 → MS → Option (Int32 × MS)) (x1 : Int32) (x2 : Int32) (x3 : Int32) (x4 : Int32) (x5 : Int32) (x6 : Int32) (x7 : Int32) (x8 : Int32) (S : MS) : Option (Int32 × MS) :=
  bI (x8 + 1) fun v29 =>
  lp74 x1 x2 x3 x4 x5 x6 x7 v29 S
def f_X12_out_112 (lp35 : Int32 → Int32 → Int32 → Int32 → Int32 → MS → Option (Int32 × MS)) (lp74 : Int32 → Int32 → Int32 → Int32 → Int32 → Int32 → Int32 → Int32 → MS → Option (Int32 × MS)) (x1 : Int32) (x2 : Int32) (x3 : Int32) (x4 : Int32) (x5 : Int32) (x6 : Int32) (x8 : Int32) (y0 : Int32) (S : MS) : Option (Int32 × MS) :=
  gix x8 8 fun k34 =>
  cb (f_X12_saying x3 x8 S) fun r37 S35 =>
  bI (x6 - ((S.1 5 k34) * r37)) fun v38 =>
  f_X12_out_134 lp35 lp74 x1 x2 x3 x4 x5 v38 y0 x8 S35
def f_X12_out_160 (lp35 : Int32 → Int32 → Int32 → Int32 → Int32 → MS → Option (Int32 × MS)) (x1 : Int32) (x2 : Int32) (x3 : Int32) (x4 : Int32) (x5 : Int32) (S : MS) : Option (Int32 × MS) :=
  bI (x5 + 1) fun v22 =>
  lp35 x1 x2 x3 x4 v22 S
def f_X12_out_140 (lp35 : Int32 → Int32 → Int32 → Int32 → Int32 → MS → Option (Int32 × MS)) (x1 : Int32) (x2 : Int32) (x3 : Int32) (x4 : Int32) (x5 : Int32) (x6 : Int32) (x7 : Int32) (S : MS) : Option (Int32 × MS) :=
  if (x7 = 0 : Prop) then
    f_X12_out_160 lp35 x1 x2 x3 x4 x5 S
  else
    cb (f_X12_floorBy x1 x6 S) fun r25 S23 =>
    if (r25 < x2 : Prop) then
      f_X12_out_160 lp35 x1 x2 x3 x4 x5 S23
    else
      f_X12_out_160 lp35 x1 x2 x3 x5 x5 S23
def f_X12_out_74 (lp35 : Int32 → Int32 → Int32 → Int32 → Int32 → MS → Option (Int32 × MS)) : Nat → Int32 → Int32 → Int32 → Int32 → Int32 → Int32 → Int32 → Int32 → MS → Option (Int32 × MS)
  | 0 => fun _ _ _ _ _ _ _ _ _ => none
  | n + 1 => fun x1 x2 x3 x4 x5 x6 x7 x8 S =>
    let lp74 := f_X12_out_74 lp35 n
    if (8 ≤ x8 : Prop) then
      f_X12_out_140 lp35 x1 x2 x3 x4 x5 x6 x7 S
    else
      if (x7 = 0 : Prop) then
        f_X12_out_140 lp35 x1 x2 x3 x4 x5 x6 x7 S
      else
        if (((jshr x5 x8) &&& 1) = 1 : Prop) then
          cb (f_X12_saying x3 x8 S) fun r32 S30 =>
          if (r32 ≤ 0 : Prop) then
            f_X12_out_112 lp35 lp74 x1 x2 x3 x4 x5 x6 x8 0 S30
          else
            f_X12_out_112 lp35 lp74 x1 x2 x3 x4 x5 x6 x8 1 S30
        else
          f_X12_out_134 lp35 lp74 x1 x2 x3 x4 x5 x6 x7 x8 S
def f_X12_out_69 (lp35 : Int32 → Int32 → Int32 → Int32 → Int32 → MS → Option (Int32 × MS)) (x1 : Int32) (x2 : Int32) (x3 : Int32) (x4 : Int32) (x5 : Int32) (x6 : Int32) (y0 : Int32) (S : MS) : Option (Int32 × MS) :=
  f_X12_out_74 lp35 7000 x1 x2 x3 x4 x5 x6 y0 0 S
def f_X12_out_64 (lp35 : Int32 → Int32 → Int32 → Int32 → Int32 → MS → Option (Int32 × MS)) (x1 : Int32) (x2 : Int32) (x3 : Int32) (x4 : Int32) (x5 : Int32) (x6 : Int32) (S : MS) : Option (Int32 × MS) :=
  f_X12_out_69 lp35 x1 x2 x3 x4 x5 x6 1 S
def f_X12_out_35 : Nat → Int32 → Int32 → Int32 → Int32 → Int32 → MS → Option (Int32 × MS)
  | 0 => fun _ _ _ _ _ _ => none
  | n + 1 => fun x1 x2 x3 x4 x5 S =>
    let lp35 := f_X12_out_35 n
    if (256 ≤ x5 : Prop) then
      if (0 ≤ x4 : Prop) then
        some (x4, S)
      else
        cb (f_X12_errs (-1000000002) S) fun r18 S16 =>
        some (r18, S16)
    else
      if (x4 < 0 : Prop) then
        f_X12_out_64 lp35 x1 x2 x3 x4 x5 x3 S
      else
        cs (f_X12_bits x5) fun r39 =>
        cs (f_X12_bits x4) fun r41 =>
        if (r41 ≤ r39 : Prop) then
          f_X12_out_69 lp35 x1 x2 x3 x4 x5 x3 0 S
        else
          f_X12_out_64 lp35 x1 x2 x3 x4 x5 x3 S
def f_X12_out (a1 : Int32) (a2 : Int32) (S : MS) : Option (Int32 × MS) :=
  cb (f_X12_isRider a1 S) fun r3 S1 =>
  if (r3 = 0 : Prop) then
    f_X12_out_15 S1
  else
    cs (f_X12_isFloor a2) fun r8 =>
    if (r8 = 0 : Prop) then
      f_X12_out_15 S1
    else
      cb (f_X12_its a1 2 S1) fun r13 S11 =>
      f_X12_out_35 7000 a1 a2 r13 (-1) 0 S11
set_option maxRecDepth 100000 in
set_option maxHeartbeats 4000000 in
theorem t_X12_out_15 {X : Cx} {ad : Nat → Nat} {PostX : Option Value → va_W → Prop} (hX : Ok X cX12_out 9 RX12) (hq : Rq X 70 0 0 (some .int) PostX) {u : (Int32 × MS)} (hp : PostX (some (.int u.1)) (mW X.E ad u.2)) (S : MS) (hf : f_X12_out_15 S = some u) : G X 9 0 0 15 [(0, .ref (ad 0))] [] (mW X.E ad S) := by
  unfold f_X12_out_15 at hf
  refine g_aloadn hX 0 rfl rfl dX12_out_15 ?_
  refine g_ldc hX (v := (-1000000001)) wd_5_74 dX12_out_16 ?_
  obtain ⟨r7, S5, h6, hf⟩ := cb_open hf
  refine k_X12_errs hX hq (c_X12_errs h6) (by decide) (by decide) (by decide) (Nat.le_of_ble_eq_true rfl) dX12_out_18 ?_
  obtain rfl := oi hf
  exact g_iret hX hq (by decide) (by decide) hp dX12_out_21
set_option maxRecDepth 100000 in
set_option maxHeartbeats 4000000 in
theorem t_X12_out_134 {X : Cx} {ad : Nat → Nat} {PostX : Option Value → va_W → Prop} (hX : Ok X cX12_out 9 RX12) (hq : Rq X 70 0 0 (some .int) PostX) {u : (Int32 × MS)} (hp : PostX (some (.int u.1)) (mW X.E ad u.2)) {lp35 : Int32 → Int32 → Int32 → Int32 → Int32 → MS → Option (Int32 × MS)} (hlp35 : ∀ (x1 : Int32) (x2 : Int32) (x3 : Int32) (x4 : Int32) (x5 : Int32) (S : MS), lp35 x1 x2 x3 x4 x5 S = some u → G X 9 0 0 35 [(0, .ref (ad 0)), (1, .int x1), (2, .int x2), (3, .int x3), (4, .int x4), (5, .int x5)] [] (mW X.E ad S)) {lp74 : Int32 → Int32 → Int32 → Int32 → Int32 → Int32 → Int32 → Int32 → MS → Option (Int32 × MS)} (hlp74 : ∀ (x1 : Int32) (x2 : Int32) (x3 : Int32) (x4 : Int32) (x5 : Int32) (x6 : Int32) (x7 : Int32) (x8 : Int32) (S : MS), lp74 x1 x2 x3 x4 x5 x6 x7 x8 S = some u → G X 9 0 0 74 [(0, .ref (ad 0)), (1, .int x1), (2, .int x2), (3, .int x3), (4, .int x4), (5, .int x5), (6, .int x6), (7, .int x7), (8, .int x8)] [] (mW X.E ad S)) (x1 : Int32) (x2 : Int32) (x3 : Int32) (x4 : Int32) (x5 : Int32) (x6 : Int32) (x7 : Int32) (x8 : Int32) (S : MS) (hf : f_X12_out_134 lp35 lp74 x1 x2 x3 x4 x5 x6 x7 x8 S = some u) : G X 9 0 0 134 [(0, .ref (ad 0)), (1, .int x1), (2, .int x2), (3, .int x3), (4, .int x4), (5, .int x5), (6, .int x6), (7, .int x7), (8, .int x8)] [] (mW X.E ad S) := by
  unfold f_X12_out_134 at hf
  obtain ⟨v29, ev29, hf⟩ := bI_open hf
  refine g_iinc hX 8 (v := v29) [(8, .int v29), (0, .ref (ad 0)), (1, .int x1), (2, .int x2), (3, .int x3), (4, .int x4), (5, .int x5), (6, .int x6), (7, .int x7)] rfl (by rw [ev29]; rfl) (by decide) rfl dX12_out_134 ?_
  refine g_goto hX 74 (by decide) dX12_out_137 ?_
  refine g_lv [1, 2, 3, 4, 5, 6, 7, 8, 0] rfl ?_
  exact hlp74 _ _ _ _ _ _ _ _ _ hf
set_option maxRecDepth 100000 in
set_option maxHeartbeats 4000000 in
theorem t_X12_out_112 {X : Cx} {ad : Nat → Nat} {PostX : Option Value → va_W → Prop} (hX : Ok X cX12_out 9 RX12) (hq : Rq X 70 0 0 (some .int) PostX) {u : (Int32 × MS)} (hp : PostX (some (.int u.1)) (mW X.E ad u.2)) {lp35 : Int32 → Int32 → Int32 → Int32 → Int32 → MS → Option (Int32 × MS)} (hlp35 : ∀ (x1 : Int32) (x2 : Int32) (x3 : Int32) (x4 : Int32) (x5 : Int32) (S : MS), lp35 x1 x2 x3 x4 x5 S = some u → G X 9 0 0 35 [(0, .ref (ad 0)), (1, .int x1), (2, .int x2), (3, .int x3), (4, .int x4), (5, .int x5)] [] (mW X.E ad S)) {lp74 : Int32 → Int32 → Int32 → Int32 → Int32 → Int32 → Int32 → Int32 → MS → Option (Int32 × MS)} (hlp74 : ∀ (x1 : Int32) (x2 : Int32) (x3 : Int32) (x4 : Int32) (x5 : Int32) (x6 : Int32) (x7 : Int32) (x8 : Int32) (S : MS), lp74 x1 x2 x3 x4 x5 x6 x7 x8 S = some u → G X 9 0 0 74 [(0, .ref (ad 0)), (1, .int x1), (2, .int x2), (3, .int x3), (4, .int x4), (5, .int x5), (6, .int x6), (7, .int x7), (8, .int x8)] [] (mW X.E ad S)) (x1 : Int32) (x2 : Int32) (x3 : Int32) (x4 : Int32) (x5 : Int32) (x6 : Int32) (x8 : Int32) (y0 : Int32) (S : MS) (hf : f_X12_out_112 lp35 lp74 x1 x2 x3 x4 x5 x6 x8 y0 S = some u) : G X 9 0 0 112 [(0, .ref (ad 0)), (1, .int x1), (2, .int x2), (3, .int x3), (4, .int x4), (5, .int x5), (6, .int x6), (8, .int x8)] [.int y0] (mW X.E ad S) := by
  unfold f_X12_out_112 at hf
  refine g_istore hX [(7, .int y0), (0, .ref (ad 0)), (1, .int x1), (2, .int x2), (3, .int x3), (4, .int x4), (5, .int x5), (6, .int x6), (8, .int x8)] (by decide) rfl dX12_out_112 ?_
  refine g_iload hX 7 rfl dX12_out_114 ?_
  refine g_aloadn hX 1 rfl rfl dX12_out_116 ?_
  refine mg_power hX dX12_out_117 ?_
  refine g_iload hX 8 rfl dX12_out_120 ?_
  obtain ⟨k34, jk34, ik34, hf⟩ := gix_open hf
  refine ml_power hX ik34 k34 jk34 (v := S.1 5 k34) rfl dX12_out_122 ?_
  refine g_aloadn hX 1 rfl rfl dX12_out_123 ?_
  refine g_iloadn hX 4 rfl rfl dX12_out_124 ?_
  refine g_iload hX 8 rfl dX12_out_125 ?_
  obtain ⟨r37, S35, h36, hf⟩ := cb_open hf
  refine k_X12_saying hX hq (c_X12_saying h36) (by decide) (by decide) (by decide) (Nat.le_of_ble_eq_true rfl) dX12_out_127 ?_
  refine g_imul hX dX12_out_130 ?_
  refine g_isub hX dX12_out_131 ?_
  obtain ⟨v38, ev38, hf⟩ := bI_open hf
  refine g_nm ev38 ?_
  refine g_istore hX [(6, .int v38), (7, .int y0), (0, .ref (ad 0)), (1, .int x1), (2, .int x2), (3, .int x3), (4, .int x4), (5, .int x5), (8, .int x8)] (by decide) rfl dX12_out_132 ?_
  refine g_lv [2, 3, 4, 5, 6, 7, 0, 1, 8] rfl ?_
  exact t_X12_out_134 hX hq hp hlp35 hlp74 _ _ _ _ _ _ _ _ _ hf
set_option maxRecDepth 100000 in
set_option maxHeartbeats 4000000 in
theorem t_X12_out_160 {X : Cx} {ad : Nat → Nat} {PostX : Option Value → va_W → Prop} (hX : Ok X cX12_out 9 RX12) (hq : Rq X 70 0 0 (some .int) PostX) {u : (Int32 × MS)} (hp : PostX (some (.int u.1)) (mW X.E ad u.2)) {lp35 : Int32 → Int32 → Int32 → Int32 → Int32 → MS → Option (Int32 × MS)} (hlp35 : ∀ (x1 : Int32) (x2 : Int32) (x3 : Int32) (x4 : Int32) (x5 : Int32) (S : MS), lp35 x1 x2 x3 x4 x5 S = some u → G X 9 0 0 35 [(0, .ref (ad 0)), (1, .int x1), (2, .int x2), (3, .int x3), (4, .int x4), (5, .int x5)] [] (mW X.E ad S)) (x1 : Int32) (x2 : Int32) (x3 : Int32) (x4 : Int32) (x5 : Int32) (S : MS) (hf : f_X12_out_160 lp35 x1 x2 x3 x4 x5 S = some u) : G X 9 0 0 160 [(0, .ref (ad 0)), (1, .int x1), (2, .int x2), (3, .int x3), (4, .int x4), (5, .int x5)] [] (mW X.E ad S) := by
  unfold f_X12_out_160 at hf
  obtain ⟨v22, ev22, hf⟩ := bI_open hf
  refine g_iinc hX 5 (v := v22) [(5, .int v22), (0, .ref (ad 0)), (1, .int x1), (2, .int x2), (3, .int x3), (4, .int x4)] rfl (by rw [ev22]; rfl) (by decide) rfl dX12_out_160 ?_
  refine g_goto hX 35 (by decide) dX12_out_163 ?_
  refine g_lv [1, 2, 3, 4, 5, 0] rfl ?_
  exact hlp35 _ _ _ _ _ _ hf
set_option maxRecDepth 100000 in
set_option maxHeartbeats 4000000 in
theorem t_X12_out_140 {X : Cx} {ad : Nat → Nat} {PostX : Option Value → va_W → Prop} (hX : Ok X cX12_out 9 RX12) (hq : Rq X 70 0 0 (some .int) PostX) {u : (Int32 × MS)} (hp : PostX (some (.int u.1)) (mW X.E ad u.2)) {lp35 : Int32 → Int32 → Int32 → Int32 → Int32 → MS → Option (Int32 × MS)} (hlp35 : ∀ (x1 : Int32) (x2 : Int32) (x3 : Int32) (x4 : Int32) (x5 : Int32) (S : MS), lp35 x1 x2 x3 x4 x5 S = some u → G X 9 0 0 35 [(0, .ref (ad 0)), (1, .int x1), (2, .int x2), (3, .int x3), (4, .int x4), (5, .int x5)] [] (mW X.E ad S)) (x1 : Int32) (x2 : Int32) (x3 : Int32) (x4 : Int32) (x5 : Int32) (x6 : Int32) (x7 : Int32) (S : MS) (hf : f_X12_out_140 lp35 x1 x2 x3 x4 x5 x6 x7 S = some u) : G X 9 0 0 140 [(0, .ref (ad 0)), (1, .int x1), (2, .int x2), (3, .int x3), (4, .int x4), (5, .int x5), (6, .int x6), (7, .int x7)] [] (mW X.E ad S) := by
  unfold f_X12_out_140 at hf
  refine g_iload hX 7 rfl dX12_out_140 ?_
  refine g_if_eq hX 160 (by decide) dX12_out_142 (fun c21 => ?_) (fun c21 => ?_)
  · have hf := ite_t c21 hf
    refine g_lv [0, 1, 2, 3, 4, 5] rfl ?_
    exact t_X12_out_160 hX hq hp hlp35 _ _ _ _ _ _ hf
  · have hf := ite_f c21 hf
    refine g_aloadn hX 0 rfl rfl dX12_out_145 ?_
    refine g_iloadn hX 1 rfl rfl dX12_out_146 ?_
    refine g_iload hX 6 rfl dX12_out_147 ?_
    obtain ⟨r25, S23, h24, hf⟩ := cb_open hf
    refine k_X12_floorBy hX hq (c_X12_floorBy h24) (by decide) (by decide) (by decide) (Nat.le_of_ble_eq_true rfl) dX12_out_149 ?_
    refine g_iloadn hX 2 rfl rfl dX12_out_152 ?_
    refine g_icmp_lt hX 160 (by decide) dX12_out_153 (fun c26 => ?_) (fun c26 => ?_)
    · have hf := ite_t c26 hf
      refine g_lv [0, 1, 2, 3, 4, 5] rfl ?_
      exact t_X12_out_160 hX hq hp hlp35 _ _ _ _ _ _ hf
    · have hf := ite_f c26 hf
      refine g_iload hX 5 rfl dX12_out_156 ?_
      refine g_istore hX [(4, .int x5), (0, .ref (ad 0)), (1, .int x1), (2, .int x2), (3, .int x3), (5, .int x5), (6, .int x6), (7, .int x7)] (by decide) rfl dX12_out_158 ?_
      refine g_lv [1, 2, 3, 4, 0, 5] rfl ?_
      exact t_X12_out_160 hX hq hp hlp35 _ _ _ _ _ _ hf
set_option maxRecDepth 100000 in
set_option maxHeartbeats 4000000 in
theorem t_X12_out_74 {X : Cx} {ad : Nat → Nat} {PostX : Option Value → va_W → Prop} (hX : Ok X cX12_out 9 RX12) (hq : Rq X 70 0 0 (some .int) PostX) {u : (Int32 × MS)} (hp : PostX (some (.int u.1)) (mW X.E ad u.2)) {lp35 : Int32 → Int32 → Int32 → Int32 → Int32 → MS → Option (Int32 × MS)} (hlp35 : ∀ (x1 : Int32) (x2 : Int32) (x3 : Int32) (x4 : Int32) (x5 : Int32) (S : MS), lp35 x1 x2 x3 x4 x5 S = some u → G X 9 0 0 35 [(0, .ref (ad 0)), (1, .int x1), (2, .int x2), (3, .int x3), (4, .int x4), (5, .int x5)] [] (mW X.E ad S)) : ∀ (n : Nat) (x1 : Int32) (x2 : Int32) (x3 : Int32) (x4 : Int32) (x5 : Int32) (x6 : Int32) (x7 : Int32) (x8 : Int32) (S : MS), f_X12_out_74 lp35 n x1 x2 x3 x4 x5 x6 x7 x8 S = some u → G X 9 0 0 74 [(0, .ref (ad 0)), (1, .int x1), (2, .int x2), (3, .int x3), (4, .int x4), (5, .int x5), (6, .int x6), (7, .int x7), (8, .int x8)] [] (mW X.E ad S) := by
  intro n
  induction n with
  | zero => intro _ _ _ _ _ _ _ _ _ hf; unfold f_X12_out_74 at hf; cases hf
  | succ n hlp74 =>
  intro x1 x2 x3 x4 x5 x6 x7 x8 S hf
  unfold f_X12_out_74 at hf
  refine g_iload hX 8 rfl dX12_out_74 ?_
  refine g_bipush hX (v := 8) (by decide) dX12_out_76 ?_
  refine g_icmp_ge hX 140 (by decide) dX12_out_78 (fun c20 => ?_) (fun c20 => ?_)
  · have hf := ite_t c20 hf
    refine g_lv [0, 1, 2, 3, 4, 5, 6, 7] rfl ?_
    exact t_X12_out_140 hX hq hp hlp35 _ _ _ _ _ _ _ _ hf
  · have hf := ite_f c20 hf
    refine g_iload hX 7 rfl dX12_out_81 ?_
    refine g_if_eq hX 140 (by decide) dX12_out_83 (fun c27 => ?_) (fun c27 => ?_)
    · have hf := ite_t c27 hf
      refine g_lv [0, 1, 2, 3, 4, 5, 6, 7] rfl ?_
      exact t_X12_out_140 hX hq hp hlp35 _ _ _ _ _ _ _ _ hf
    · have hf := ite_f c27 hf
      refine g_iload hX 5 rfl dX12_out_86 ?_
      refine g_iload hX 8 rfl dX12_out_88 ?_
      refine g_jshr hX dX12_out_90 ?_
      refine g_iconst hX (v := 1) (by decide) dX12_out_91 ?_
      refine g_iand hX dX12_out_92 ?_
      refine g_iconst hX (v := 1) (by decide) dX12_out_93 ?_
      refine g_icmp_ne hX 134 (by decide) dX12_out_94 (fun c28 => ?_) (fun c28 => ?_)
      · have hf := ite_f c28 hf
        exact t_X12_out_134 hX hq hp hlp35 hlp74 _ _ _ _ _ _ _ _ _ hf
      · have hf := ite_t c28 hf
        refine g_aloadn hX 0 rfl rfl dX12_out_97 ?_
        refine g_iloadn hX 3 rfl rfl dX12_out_98 ?_
        refine g_iload hX 8 rfl dX12_out_99 ?_
        obtain ⟨r32, S30, h31, hf⟩ := cb_open hf
        refine k_X12_saying hX hq (c_X12_saying h31) (by decide) (by decide) (by decide) (Nat.le_of_ble_eq_true rfl) dX12_out_101 ?_
        refine g_if_le hX 111 (by decide) dX12_out_104 (fun c33 => ?_) (fun c33 => ?_)
        · have hf := ite_t c33 hf
          refine g_iconst hX (v := 0) (by decide) dX12_out_111 ?_
          refine g_lv [0, 1, 2, 3, 4, 5, 6, 8] rfl ?_
          exact t_X12_out_112 hX hq hp hlp35 hlp74 _ _ _ _ _ _ _ _ _ hf
        · have hf := ite_f c33 hf
          refine g_iconst hX (v := 1) (by decide) dX12_out_107 ?_
          refine g_goto hX 112 (by decide) dX12_out_108 ?_
          refine g_lv [0, 1, 2, 3, 4, 5, 6, 8] rfl ?_
          exact t_X12_out_112 hX hq hp hlp35 hlp74 _ _ _ _ _ _ _ _ _ hf
set_option maxRecDepth 100000 in
set_option maxHeartbeats 4000000 in
theorem t_X12_out_69 {X : Cx} {ad : Nat → Nat} {PostX : Option Value → va_W → Prop} (hX : Ok X cX12_out 9 RX12) (hq : Rq X 70 0 0 (some .int) PostX) {u : (Int32 × MS)} (hp : PostX (some (.int u.1)) (mW X.E ad u.2)) {lp35 : Int32 → Int32 → Int32 → Int32 → Int32 → MS → Option (Int32 × MS)} (hlp35 : ∀ (x1 : Int32) (x2 : Int32) (x3 : Int32) (x4 : Int32) (x5 : Int32) (S : MS), lp35 x1 x2 x3 x4 x5 S = some u → G X 9 0 0 35 [(0, .ref (ad 0)), (1, .int x1), (2, .int x2), (3, .int x3), (4, .int x4), (5, .int x5)] [] (mW X.E ad S)) (x1 : Int32) (x2 : Int32) (x3 : Int32) (x4 : Int32) (x5 : Int32) (x6 : Int32) (y0 : Int32) (S : MS) (hf : f_X12_out_69 lp35 x1 x2 x3 x4 x5 x6 y0 S = some u) : G X 9 0 0 69 [(0, .ref (ad 0)), (1, .int x1), (2, .int x2), (3, .int x3), (4, .int x4), (5, .int x5), (6, .int x6)] [.int y0] (mW X.E ad S) := by
  unfold f_X12_out_69 at hf
  refine g_istore hX [(7, .int y0), (0, .ref (ad 0)), (1, .int x1), (2, .int x2), (3, .int x3), (4, .int x4), (5, .int x5), (6, .int x6)] (by decide) rfl dX12_out_69 ?_
  refine g_iconst hX (v := 0) (by decide) dX12_out_71 ?_
  refine g_istore hX [(8, .int 0), (7, .int y0), (0, .ref (ad 0)), (1, .int x1), (2, .int x2), (3, .int x3), (4, .int x4), (5, .int x5), (6, .int x6)] (by decide) rfl dX12_out_72 ?_
  refine g_lv [2, 3, 4, 5, 6, 7, 8, 1, 0] rfl ?_
  exact t_X12_out_74 hX hq hp hlp35 _ _ _ _ _ _ _ _ _ _ hf
set_option maxRecDepth 100000 in
set_option maxHeartbeats 4000000 in
theorem t_X12_out_64 {X : Cx} {ad : Nat → Nat} {PostX : Option Value → va_W → Prop} (hX : Ok X cX12_out 9 RX12) (hq : Rq X 70 0 0 (some .int) PostX) {u : (Int32 × MS)} (hp : PostX (some (.int u.1)) (mW X.E ad u.2)) {lp35 : Int32 → Int32 → Int32 → Int32 → Int32 → MS → Option (Int32 × MS)} (hlp35 : ∀ (x1 : Int32) (x2 : Int32) (x3 : Int32) (x4 : Int32) (x5 : Int32) (S : MS), lp35 x1 x2 x3 x4 x5 S = some u → G X 9 0 0 35 [(0, .ref (ad 0)), (1, .int x1), (2, .int x2), (3, .int x3), (4, .int x4), (5, .int x5)] [] (mW X.E ad S)) (x1 : Int32) (x2 : Int32) (x3 : Int32) (x4 : Int32) (x5 : Int32) (x6 : Int32) (S : MS) (hf : f_X12_out_64 lp35 x1 x2 x3 x4 x5 x6 S = some u) : G X 9 0 0 64 [(0, .ref (ad 0)), (1, .int x1), (2, .int x2), (3, .int x3), (4, .int x4), (5, .int x5), (6, .int x6)] [] (mW X.E ad S) := by
  unfold f_X12_out_64 at hf
  refine g_iconst hX (v := 1) (by decide) dX12_out_64 ?_
  refine g_goto hX 69 (by decide) dX12_out_65 ?_
  exact t_X12_out_69 hX hq hp hlp35 _ _ _ _ _ _ _ _ hf
set_option maxRecDepth 100000 in
set_option maxHeartbeats 4000000 in
theorem t_X12_out_35 {X : Cx} {ad : Nat → Nat} {PostX : Option Value → va_W → Prop} (hX : Ok X cX12_out 9 RX12) (hq : Rq X 70 0 0 (some .int) PostX) {u : (Int32 × MS)} (hp : PostX (some (.int u.1)) (mW X.E ad u.2)) : ∀ (n : Nat) (x1 : Int32) (x2 : Int32) (x3 : Int32) (x4 : Int32) (x5 : Int32) (S : MS), f_X12_out_35 n x1 x2 x3 x4 x5 S = some u → G X 9 0 0 35 [(0, .ref (ad 0)), (1, .int x1), (2, .int x2), (3, .int x3), (4, .int x4), (5, .int x5)] [] (mW X.E ad S) := by
  intro n
  induction n with
  | zero => intro _ _ _ _ _ _ hf; unfold f_X12_out_35 at hf; cases hf
  | succ n hlp35 =>
  intro x1 x2 x3 x4 x5 S hf
  unfold f_X12_out_35 at hf
  refine g_iload hX 5 rfl dX12_out_35 ?_
  refine g_sipush hX (v := 256) (by decide) dX12_out_37 ?_
  refine g_icmp_ge hX 166 (by decide) dX12_out_40 (fun c14 => ?_) (fun c14 => ?_)
  · have hf := ite_t c14 hf
    refine g_iload hX 4 rfl dX12_out_166 ?_
    refine g_if_ge hX 180 (by decide) dX12_out_168 (fun c15 => ?_) (fun c15 => ?_)
    · have hf := ite_t c15 hf
      refine g_iload hX 4 rfl dX12_out_180 ?_
      obtain rfl := oi hf
      exact g_iret hX hq (by decide) (by decide) hp dX12_out_182
    · have hf := ite_f c15 hf
      refine g_aloadn hX 0 rfl rfl dX12_out_171 ?_
      refine g_ldc hX (v := (-1000000002)) wd_6_48 dX12_out_172 ?_
      obtain ⟨r18, S16, h17, hf⟩ := cb_open hf
      refine k_X12_errs hX hq (c_X12_errs h17) (by decide) (by decide) (by decide) (Nat.le_of_ble_eq_true rfl) dX12_out_174 ?_
      refine g_goto hX 182 (by decide) dX12_out_177 ?_
      obtain rfl := oi hf
      exact g_iret hX hq (by decide) (by decide) hp dX12_out_182
  · have hf := ite_f c14 hf
    refine g_iloadn hX 3 rfl rfl dX12_out_43 ?_
    refine g_istore hX [(6, .int x3), (0, .ref (ad 0)), (1, .int x1), (2, .int x2), (3, .int x3), (4, .int x4), (5, .int x5)] (by decide) rfl dX12_out_44 ?_
    refine g_iload hX 5 rfl dX12_out_46 ?_
    refine g_if_lt hX 64 (by decide) dX12_out_48 (fun c19 => ?_) (fun c19 => ?_)
    · have hf := ite_t c19 hf
      refine g_lv [1, 2, 3, 4, 5, 6, 0] rfl ?_
      exact t_X12_out_64 hX hq hp hlp35 _ _ _ _ _ _ _ hf
    · have hf := ite_f c19 hf
      refine g_iload hX 6 rfl dX12_out_51 ?_
      obtain ⟨r39, h40, hf⟩ := cs_open hf
      refine k_RX12_X12_bits hX hq h40 (by decide) (by decide) (by decide) (Nat.le_of_ble_eq_true rfl) dX12_out_53 ?_
      refine g_iload hX 5 rfl dX12_out_56 ?_
      obtain ⟨r41, h42, hf⟩ := cs_open hf
      refine k_RX12_X12_bits hX hq h42 (by decide) (by decide) (by decide) (Nat.le_of_ble_eq_true rfl) dX12_out_58 ?_
      refine g_icmp_ge hX 68 (by decide) dX12_out_61 (fun c43 => ?_) (fun c43 => ?_)
      · have hf := ite_t c43 hf
        refine g_iconst hX (v := 0) (by decide) dX12_out_68 ?_
        refine g_lv [1, 2, 3, 4, 5, 6, 0] rfl ?_
        exact t_X12_out_69 hX hq hp hlp35 _ _ _ _ _ _ _ _ hf
      · have hf := ite_f c43 hf
        refine g_lv [1, 2, 3, 4, 5, 6, 0] rfl ?_
        exact t_X12_out_64 hX hq hp hlp35 _ _ _ _ _ _ _ hf
set_option maxRecDepth 100000 in
set_option maxHeartbeats 4000000 in
theorem t_X12_out_0 {X : Cx} {ad : Nat → Nat} {PostX : Option Value → va_W → Prop} (hX : Ok X cX12_out 9 RX12) (hq : Rq X 70 0 0 (some .int) PostX) {u : (Int32 × MS)} (hp : PostX (some (.int u.1)) (mW X.E ad u.2)) (a1 : Int32) (a2 : Int32) (S : MS) (hf : f_X12_out a1 a2 S = some u) : G X 9 0 0 0 [(0, .ref (ad 0)), (1, .int a1), (2, .int a2)] [] (mW X.E ad S) := by
  unfold f_X12_out at hf
  refine g_aloadn hX 0 rfl rfl dX12_out_0 ?_
  refine g_iloadn hX 1 rfl rfl dX12_out_1 ?_
  obtain ⟨r3, S1, h2, hf⟩ := cb_open hf
  refine k_X12_isRider hX hq (c_X12_isRider h2) (by decide) (by decide) (by decide) (Nat.le_of_ble_eq_true rfl) dX12_out_2 ?_
  refine g_if_eq hX 15 (by decide) dX12_out_5 (fun c4 => ?_) (fun c4 => ?_)
  · have hf := ite_t c4 hf
    refine g_lv [0] rfl ?_
    exact t_X12_out_15 hX hq hp _ hf
  · have hf := ite_f c4 hf
    refine g_iloadn hX 2 rfl rfl dX12_out_8 ?_
    obtain ⟨r8, h9, hf⟩ := cs_open hf
    refine k_RX12_X12_isFloor hX hq h9 (by decide) (by decide) (by decide) (Nat.le_of_ble_eq_true rfl) dX12_out_9 ?_
    refine g_if_ne hX 22 (by decide) dX12_out_12 (fun c10 => ?_) (fun c10 => ?_)
    · have hf := ite_f c10 hf
      refine g_aloadn hX 0 rfl rfl dX12_out_22 ?_
      refine g_iloadn hX 1 rfl rfl dX12_out_23 ?_
      refine g_iconst hX (v := 2) (by decide) dX12_out_24 ?_
      obtain ⟨r13, S11, h12, hf⟩ := cb_open hf
      refine k_X12_its hX hq (c_X12_its h12) (by decide) (by decide) (by decide) (Nat.le_of_ble_eq_true rfl) dX12_out_25 ?_
      refine g_istoren hX [(3, .int r13), (0, .ref (ad 0)), (1, .int a1), (2, .int a2)] rfl (by decide) rfl dX12_out_28 ?_
      refine g_iconst hX (v := (-1)) (by decide) dX12_out_29 ?_
      refine g_istore hX [(4, .int (-1)), (3, .int r13), (0, .ref (ad 0)), (1, .int a1), (2, .int a2)] (by decide) rfl dX12_out_30 ?_
      refine g_iconst hX (v := 0) (by decide) dX12_out_32 ?_
      refine g_istore hX [(5, .int 0), (4, .int (-1)), (3, .int r13), (0, .ref (ad 0)), (1, .int a1), (2, .int a2)] (by decide) rfl dX12_out_33 ?_
      refine g_lv [3, 4, 5, 2, 1, 0] rfl ?_
      exact t_X12_out_35 hX hq hp _ _ _ _ _ _ _ hf
    · have hf := ite_t c10 hf
      refine g_lv [0] rfl ?_
      exact t_X12_out_15 hX hq hp _ hf
theorem c_X12_out {l : Launch} {E : En} {ad : Nat → Nat} {a1 : Int32} {a2 : Int32} {r : Int32} {S S2 : MS} (hf : f_X12_out a1 a2 S = some (r, S2)) : CP l E yX12_out cX12_out 9 (some .int) 70 0 0 [] [.ref (ad 0), .int a1, .int a2] (mW E ad S) (fun rv w => rv = some (.int r) ∧ w = mW E ad S2) :=
  CP.of (lv := [(0, .ref (ad 0)), (1, .int a1), (2, .int a2)]) (by decide +kernel) (Nat.le_of_ble_eq_true rfl) rfl (fun X hl hE hro hX hq hn => by subst hl; subst hE; exact t_X12_out_0 hX hq ⟨rfl, rfl⟩ a1 a2 S hf)
def f_X12_when_15 (S : MS) : Option (Int32 × MS) :=
  cb (f_X12_errs (-1000000001) S) fun r7 S5 =>
  some (r7, S5)
def f_X12_when_61 (x3 : Int32) (S : MS) : Option (Int32 × MS) :=
  if (x3 ≤ 60 : Prop) then
    some (x3, (sM S 3 1))
  else
    cb (f_X12_errs (-1000000002) (sM S 3 1)) fun r15 S13 =>
    some (r15, S13)
def f_X12_when_36 : Nat → Int32 → Int32 → Int32 → MS → Option (Int32 × MS)
  | 0 => fun _ _ _ _ => none
  | n + 1 => fun x1 x2 x3 S =>
    let lp36 := f_X12_when_36 n
    if (60 < x3 : Prop) then
      f_X12_when_61 x3 S
    else
      cb (f_X12_floorOf x1 S) fun r18 S16 =>
      if (x2 ≤ r18 : Prop) then
        f_X12_when_61 x3 S16
      else
        cb (f_X12_oneDay S16) fun _ S20 =>
        bI (x3 + 1) fun v23 =>
        lp36 x1 x2 v23 S20
def f_X12_when (a1 : Int32) (a2 : Int32) (S : MS) : Option (Int32 × MS) :=
  cb (f_X12_isRider a1 S) fun r3 S1 =>
  if (r3 = 0 : Prop) then
    f_X12_when_15 S1
  else
    cs (f_X12_isFloor a2) fun r8 =>
    if (r8 = 0 : Prop) then
      f_X12_when_15 S1
    else
      f_X12_when_36 100 a1 a2 0 (sM S1 1 3)
set_option maxRecDepth 100000 in
set_option maxHeartbeats 4000000 in
theorem t_X12_when_15 {X : Cx} {ad : Nat → Nat} {PostX : Option Value → va_W → Prop} (hX : Ok X cX12_when 4 RX12) (hq : Rq X 72 0 0 (some .int) PostX) {u : (Int32 × MS)} (hp : PostX (some (.int u.1)) (mW X.E ad u.2)) (S : MS) (hf : f_X12_when_15 S = some u) : G X 4 0 0 15 [(0, .ref (ad 0))] [] (mW X.E ad S) := by
  unfold f_X12_when_15 at hf
  refine g_aloadn hX 0 rfl rfl dX12_when_15 ?_
  refine g_ldc hX (v := (-1000000001)) wd_5_74 dX12_when_16 ?_
  obtain ⟨r7, S5, h6, hf⟩ := cb_open hf
  refine k_X12_errs hX hq (c_X12_errs h6) (by decide) (by decide) (by decide) (Nat.le_of_ble_eq_true rfl) dX12_when_18 ?_
  obtain rfl := oi hf
  exact g_iret hX hq (by decide) (by decide) hp dX12_when_21
set_option maxRecDepth 100000 in
set_option maxHeartbeats 4000000 in
theorem t_X12_when_61 {X : Cx} {ad : Nat → Nat} {PostX : Option Value → va_W → Prop} (hX : Ok X cX12_when 4 RX12) (hq : Rq X 72 0 0 (some .int) PostX) {u : (Int32 × MS)} (hp : PostX (some (.int u.1)) (mW X.E ad u.2)) (x3 : Int32) (S : MS) (hf : f_X12_when_61 x3 S = some u) : G X 4 0 0 61 [(0, .ref (ad 0)), (3, .int x3)] [] (mW X.E ad S) := by
  unfold f_X12_when_61 at hf
  refine g_aloadn hX 0 rfl rfl dX12_when_61 ?_
  refine g_aloadn hX 0 rfl rfl dX12_when_62 ?_
  refine mg_tried hX dX12_when_63 ?_
  refine g_aloadn hX 0 rfl rfl dX12_when_66 ?_
  refine mg_row hX dX12_when_67 ?_
  refine k_moveAll_3_1 hX hq (by decide) (by decide) (by decide) (Nat.le_of_ble_eq_true rfl) dX12_when_70 ?_
  refine g_iloadn hX 1 rfl rfl dX12_when_73 ?_
  refine g_bipush hX (v := 60) (by decide) dX12_when_74 ?_
  refine g_icmp_le hX 88 (by decide) dX12_when_76 (fun c12 => ?_) (fun c12 => ?_)
  · have hf := ite_t c12 hf
    refine g_iloadn hX 1 rfl rfl dX12_when_88 ?_
    obtain rfl := oi hf
    exact g_iret hX hq (by decide) (by decide) hp dX12_when_89
  · have hf := ite_f c12 hf
    refine g_aloadn hX 0 rfl rfl dX12_when_79 ?_
    refine g_ldc hX (v := (-1000000002)) wd_6_48 dX12_when_80 ?_
    obtain ⟨r15, S13, h14, hf⟩ := cb_open hf
    refine k_X12_errs hX hq (c_X12_errs h14) (by decide) (by decide) (by decide) (Nat.le_of_ble_eq_true rfl) dX12_when_82 ?_
    refine g_goto hX 89 (by decide) dX12_when_85 ?_
    obtain rfl := oi hf
    exact g_iret hX hq (by decide) (by decide) hp dX12_when_89
set_option maxRecDepth 100000 in
set_option maxHeartbeats 4000000 in
theorem t_X12_when_36 {X : Cx} {ad : Nat → Nat} {PostX : Option Value → va_W → Prop} (hX : Ok X cX12_when 4 RX12) (hq : Rq X 72 0 0 (some .int) PostX) {u : (Int32 × MS)} (hp : PostX (some (.int u.1)) (mW X.E ad u.2)) : ∀ (n : Nat) (x1 : Int32) (x2 : Int32) (x3 : Int32) (S : MS), f_X12_when_36 n x1 x2 x3 S = some u → G X 4 0 0 36 [(0, .ref (ad 0)), (1, .int x1), (2, .int x2), (3, .int x3)] [] (mW X.E ad S) := by
  intro n
  induction n with
  | zero => intro _ _ _ _ hf; unfold f_X12_when_36 at hf; cases hf
  | succ n hlp36 =>
  intro x1 x2 x3 S hf
  unfold f_X12_when_36 at hf
  refine g_iloadn hX 3 rfl rfl dX12_when_36 ?_
  refine g_bipush hX (v := 60) (by decide) dX12_when_37 ?_
  refine g_icmp_gt hX 61 (by decide) dX12_when_39 (fun c11 => ?_) (fun c11 => ?_)
  · have hf := ite_t c11 hf
    refine g_lv [0, 3] rfl ?_
    exact t_X12_when_61 hX hq hp _ _ hf
  · have hf := ite_f c11 hf
    refine g_aloadn hX 0 rfl rfl dX12_when_42 ?_
    refine g_iloadn hX 1 rfl rfl dX12_when_43 ?_
    obtain ⟨r18, S16, h17, hf⟩ := cb_open hf
    refine k_X12_floorOf hX hq (c_X12_floorOf h17) (by decide) (by decide) (by decide) (Nat.le_of_ble_eq_true rfl) dX12_when_44 ?_
    refine g_iloadn hX 2 rfl rfl dX12_when_47 ?_
    refine g_icmp_ge hX 61 (by decide) dX12_when_48 (fun c19 => ?_) (fun c19 => ?_)
    · have hf := ite_t c19 hf
      refine g_lv [0, 3] rfl ?_
      exact t_X12_when_61 hX hq hp _ _ hf
    · have hf := ite_f c19 hf
      refine g_aloadn hX 0 rfl rfl dX12_when_51 ?_
      obtain ⟨z22, S20, h21, hf⟩ := cb_open hf
      refine k_X12_oneDay hX hq (c_X12_oneDay h21) (by decide) (by decide) (by decide) (Nat.le_of_ble_eq_true rfl) dX12_when_52 ?_
      obtain ⟨v23, ev23, hf⟩ := bI_open hf
      refine g_iinc hX 3 (v := v23) [(3, .int v23), (0, .ref (ad 0)), (1, .int x1), (2, .int x2)] rfl (by rw [ev23]; rfl) (by decide) rfl dX12_when_55 ?_
      refine g_goto hX 36 (by decide) dX12_when_58 ?_
      refine g_lv [1, 2, 3, 0] rfl ?_
      exact hlp36 _ _ _ _ hf
set_option maxRecDepth 100000 in
set_option maxHeartbeats 4000000 in
theorem t_X12_when_0 {X : Cx} {ad : Nat → Nat} {PostX : Option Value → va_W → Prop} (hX : Ok X cX12_when 4 RX12) (hq : Rq X 72 0 0 (some .int) PostX) {u : (Int32 × MS)} (hp : PostX (some (.int u.1)) (mW X.E ad u.2)) (a1 : Int32) (a2 : Int32) (S : MS) (hf : f_X12_when a1 a2 S = some u) : G X 4 0 0 0 [(0, .ref (ad 0)), (1, .int a1), (2, .int a2)] [] (mW X.E ad S) := by
  unfold f_X12_when at hf
  refine g_aloadn hX 0 rfl rfl dX12_when_0 ?_
  refine g_iloadn hX 1 rfl rfl dX12_when_1 ?_
  obtain ⟨r3, S1, h2, hf⟩ := cb_open hf
  refine k_X12_isRider hX hq (c_X12_isRider h2) (by decide) (by decide) (by decide) (Nat.le_of_ble_eq_true rfl) dX12_when_2 ?_
  refine g_if_eq hX 15 (by decide) dX12_when_5 (fun c4 => ?_) (fun c4 => ?_)
  · have hf := ite_t c4 hf
    refine g_lv [0] rfl ?_
    exact t_X12_when_15 hX hq hp _ hf
  · have hf := ite_f c4 hf
    refine g_iloadn hX 2 rfl rfl dX12_when_8 ?_
    obtain ⟨r8, h9, hf⟩ := cs_open hf
    refine k_RX12_X12_isFloor hX hq h9 (by decide) (by decide) (by decide) (Nat.le_of_ble_eq_true rfl) dX12_when_9 ?_
    refine g_if_ne hX 22 (by decide) dX12_when_12 (fun c10 => ?_) (fun c10 => ?_)
    · have hf := ite_f c10 hf
      refine g_aloadn hX 0 rfl rfl dX12_when_22 ?_
      refine g_aloadn hX 0 rfl rfl dX12_when_23 ?_
      refine mg_row hX dX12_when_24 ?_
      refine g_aloadn hX 0 rfl rfl dX12_when_27 ?_
      refine mg_tried hX dX12_when_28 ?_
      refine k_moveAll_1_3 hX hq (by decide) (by decide) (by decide) (Nat.le_of_ble_eq_true rfl) dX12_when_31 ?_
      refine g_iconst hX (v := 0) (by decide) dX12_when_34 ?_
      refine g_istoren hX [(3, .int 0), (0, .ref (ad 0)), (1, .int a1), (2, .int a2)] rfl (by decide) rfl dX12_when_35 ?_
      refine g_lv [1, 2, 3, 0] rfl ?_
      exact t_X12_when_36 hX hq hp _ _ _ _ _ hf
    · have hf := ite_t c10 hf
      refine g_lv [0] rfl ?_
      exact t_X12_when_15 hX hq hp _ hf
theorem c_X12_when {l : Launch} {E : En} {ad : Nat → Nat} {a1 : Int32} {a2 : Int32} {r : Int32} {S S2 : MS} (hf : f_X12_when a1 a2 S = some (r, S2)) : CP l E yX12_when cX12_when 4 (some .int) 72 0 0 [] [.ref (ad 0), .int a1, .int a2] (mW E ad S) (fun rv w => rv = some (.int r) ∧ w = mW E ad S2) :=
  CP.of (lv := [(0, .ref (ad 0)), (1, .int a1), (2, .int a2)]) (by decide +kernel) (Nat.le_of_ble_eq_true rfl) rfl (fun X hl hE hro hX hq hn => by subst hl; subst hE; exact t_X12_when_0 hX hq ⟨rfl, rfl⟩ a1 a2 S hf)
def f_X12_still_45 (x1 : Int32) (S : MS) : Option (Int32 × MS) :=
  if (x1 ≤ 60 : Prop) then
    some (x1, (sM S 3 1))
  else
    cb (f_X12_errs (-1000000002) (sM S 3 1)) fun r5 S3 =>
    some (r5, S3)
def f_X12_still_16 : Nat → Int32 → Int32 → MS → Option (Int32 × MS)
  | 0 => fun _ _ _ => none
  | n + 1 => fun x1 x2 S =>
    let lp16 := f_X12_still_16 n
    if (60 < x1 : Prop) then
      f_X12_still_45 x1 S
    else
      cb (f_X12_heardAll S) fun r8 S6 =>
      if (x2 = r8 : Prop) then
        f_X12_still_45 x1 S6
      else
        cb (f_X12_heardAll S6) fun r12 S10 =>
        cb (f_X12_oneDay S10) fun _ S13 =>
        bI (x1 + 1) fun v16 =>
        lp16 v16 r12 S13
def f_X12_still (S : MS) : Option (Int32 × MS) :=
  f_X12_still_16 100 (-1) (-1) (sM S 1 3)
set_option maxRecDepth 100000 in
set_option maxHeartbeats 4000000 in
theorem t_X12_still_45 {X : Cx} {ad : Nat → Nat} {PostX : Option Value → va_W → Prop} (hX : Ok X cX12_still 3 RX12) (hq : Rq X 72 0 0 (some .int) PostX) {u : (Int32 × MS)} (hp : PostX (some (.int u.1)) (mW X.E ad u.2)) (x1 : Int32) (S : MS) (hf : f_X12_still_45 x1 S = some u) : G X 3 0 0 45 [(0, .ref (ad 0)), (1, .int x1)] [] (mW X.E ad S) := by
  unfold f_X12_still_45 at hf
  refine g_aloadn hX 0 rfl rfl dX12_still_45 ?_
  refine g_aloadn hX 0 rfl rfl dX12_still_46 ?_
  refine mg_tried hX dX12_still_47 ?_
  refine g_aloadn hX 0 rfl rfl dX12_still_50 ?_
  refine mg_row hX dX12_still_51 ?_
  refine k_moveAll_3_1 hX hq (by decide) (by decide) (by decide) (Nat.le_of_ble_eq_true rfl) dX12_still_54 ?_
  refine g_iloadn hX 1 rfl rfl dX12_still_57 ?_
  refine g_bipush hX (v := 60) (by decide) dX12_still_58 ?_
  refine g_icmp_le hX 72 (by decide) dX12_still_60 (fun c2 => ?_) (fun c2 => ?_)
  · have hf := ite_t c2 hf
    refine g_iloadn hX 1 rfl rfl dX12_still_72 ?_
    obtain rfl := oi hf
    exact g_iret hX hq (by decide) (by decide) hp dX12_still_73
  · have hf := ite_f c2 hf
    refine g_aloadn hX 0 rfl rfl dX12_still_63 ?_
    refine g_ldc hX (v := (-1000000002)) wd_6_48 dX12_still_64 ?_
    obtain ⟨r5, S3, h4, hf⟩ := cb_open hf
    refine k_X12_errs hX hq (c_X12_errs h4) (by decide) (by decide) (by decide) (Nat.le_of_ble_eq_true rfl) dX12_still_66 ?_
    refine g_goto hX 73 (by decide) dX12_still_69 ?_
    obtain rfl := oi hf
    exact g_iret hX hq (by decide) (by decide) hp dX12_still_73
set_option maxRecDepth 100000 in
set_option maxHeartbeats 4000000 in
theorem t_X12_still_16 {X : Cx} {ad : Nat → Nat} {PostX : Option Value → va_W → Prop} (hX : Ok X cX12_still 3 RX12) (hq : Rq X 72 0 0 (some .int) PostX) {u : (Int32 × MS)} (hp : PostX (some (.int u.1)) (mW X.E ad u.2)) : ∀ (n : Nat) (x1 : Int32) (x2 : Int32) (S : MS), f_X12_still_16 n x1 x2 S = some u → G X 3 0 0 16 [(0, .ref (ad 0)), (1, .int x1), (2, .int x2)] [] (mW X.E ad S) := by
  intro n
  induction n with
  | zero => intro _ _ _ hf; unfold f_X12_still_16 at hf; cases hf
  | succ n hlp16 =>
  intro x1 x2 S hf
  unfold f_X12_still_16 at hf
  refine g_iloadn hX 1 rfl rfl dX12_still_16 ?_
  refine g_bipush hX (v := 60) (by decide) dX12_still_17 ?_
  refine g_icmp_gt hX 45 (by decide) dX12_still_19 (fun c1 => ?_) (fun c1 => ?_)
  · have hf := ite_t c1 hf
    refine g_lv [0, 1] rfl ?_
    exact t_X12_still_45 hX hq hp _ _ hf
  · have hf := ite_f c1 hf
    refine g_iloadn hX 2 rfl rfl dX12_still_22 ?_
    refine g_aloadn hX 0 rfl rfl dX12_still_23 ?_
    obtain ⟨r8, S6, h7, hf⟩ := cb_open hf
    refine k_X12_heardAll hX hq (c_X12_heardAll h7) (by decide) (by decide) (by decide) (Nat.le_of_ble_eq_true rfl) dX12_still_24 ?_
    refine g_icmp_eq hX 45 (by decide) dX12_still_27 (fun c9 => ?_) (fun c9 => ?_)
    · have hf := ite_t c9 hf
      refine g_lv [0, 1] rfl ?_
      exact t_X12_still_45 hX hq hp _ _ hf
    · have hf := ite_f c9 hf
      refine g_aloadn hX 0 rfl rfl dX12_still_30 ?_
      obtain ⟨r12, S10, h11, hf⟩ := cb_open hf
      refine k_X12_heardAll hX hq (c_X12_heardAll h11) (by decide) (by decide) (by decide) (Nat.le_of_ble_eq_true rfl) dX12_still_31 ?_
      refine g_istoren hX [(2, .int r12), (0, .ref (ad 0)), (1, .int x1)] rfl (by decide) rfl dX12_still_34 ?_
      refine g_aloadn hX 1 rfl rfl dX12_still_35 ?_
      obtain ⟨z15, S13, h14, hf⟩ := cb_open hf
      refine k_X12_oneDay hX hq (c_X12_oneDay h14) (by decide) (by decide) (by decide) (Nat.le_of_ble_eq_true rfl) dX12_still_36 ?_
      obtain ⟨v16, ev16, hf⟩ := bI_open hf
      refine g_iinc hX 2 (v := v16) [(1, .int v16), (2, .int r12), (0, .ref (ad 0))] rfl (by rw [ev16]; rfl) (by decide) rfl dX12_still_39 ?_
      refine g_goto hX 16 (by decide) dX12_still_42 ?_
      refine g_lv [2, 0, 1] rfl ?_
      exact hlp16 _ _ _ hf
set_option maxRecDepth 100000 in
set_option maxHeartbeats 4000000 in
theorem t_X12_still_0 {X : Cx} {ad : Nat → Nat} {PostX : Option Value → va_W → Prop} (hX : Ok X cX12_still 3 RX12) (hq : Rq X 72 0 0 (some .int) PostX) {u : (Int32 × MS)} (hp : PostX (some (.int u.1)) (mW X.E ad u.2)) (S : MS) (hf : f_X12_still S = some u) : G X 3 0 0 0 [(0, .ref (ad 0))] [] (mW X.E ad S) := by
  unfold f_X12_still at hf
  refine g_aloadn hX 0 rfl rfl dX12_still_0 ?_
  refine g_aloadn hX 0 rfl rfl dX12_still_1 ?_
  refine mg_row hX dX12_still_2 ?_
  refine g_aloadn hX 0 rfl rfl dX12_still_5 ?_
  refine mg_tried hX dX12_still_6 ?_
  refine k_moveAll_1_3 hX hq (by decide) (by decide) (by decide) (Nat.le_of_ble_eq_true rfl) dX12_still_9 ?_
  refine g_iconst hX (v := (-1)) (by decide) dX12_still_12 ?_
  refine g_istoren hX [(1, .int (-1)), (0, .ref (ad 0))] rfl (by decide) rfl dX12_still_13 ?_
  refine g_iconst hX (v := (-1)) (by decide) dX12_still_14 ?_
  refine g_istoren hX [(2, .int (-1)), (1, .int (-1)), (0, .ref (ad 0))] rfl (by decide) rfl dX12_still_15 ?_
  refine g_lv [2, 1, 0] rfl ?_
  exact t_X12_still_16 hX hq hp _ _ _ _ hf
theorem c_X12_still {l : Launch} {E : En} {ad : Nat → Nat} {r : Int32} {S S2 : MS} (hf : f_X12_still S = some (r, S2)) : CP l E yX12_still cX12_still 3 (some .int) 72 0 0 [] [.ref (ad 0)] (mW E ad S) (fun rv w => rv = some (.int r) ∧ w = mW E ad S2) :=
  CP.of (lv := [(0, .ref (ad 0))]) (by decide +kernel) (Nat.le_of_ble_eq_true rfl) rfl (fun X hl hE hro hX hq hn => by subst hl; subst hE; exact t_X12_still_0 hX hq ⟨rfl, rfl⟩ S hf)
def f_X12_then_31 : Nat → Int32 → Int32 → MS → Option (Int32 × MS)
  | 0 => fun _ _ _ => none
  | n + 1 => fun x1 x2 S =>
    let lp31 := f_X12_then_31 n
    if (x1 ≤ x2 : Prop) then
      cb (f_X12_heardAll S) fun r7 S5 =>
      some (r7, (sM S5 3 1))
    else
      cb (f_X12_oneDay S) fun _ S8 =>
      bI (x2 + 1) fun v11 =>
      lp31 x1 v11 S8
def f_X12_then (a1 : Int32) (S : MS) : Option (Int32 × MS) :=
  cs (f_X12_in a1 0 60) fun r1 =>
  if (r1 = 0 : Prop) then
    cb (f_X12_errs (-1000000001) S) fun r14 S12 =>
    some (r14, S12)
  else
    f_X12_then_31 100 a1 0 (sM S 1 3)
set_option maxRecDepth 100000 in
set_option maxHeartbeats 4000000 in
theorem t_X12_then_31 {X : Cx} {ad : Nat → Nat} {PostX : Option Value → va_W → Prop} (hX : Ok X cX12_then 3 RX12) (hq : Rq X 72 0 0 (some .int) PostX) {u : (Int32 × MS)} (hp : PostX (some (.int u.1)) (mW X.E ad u.2)) : ∀ (n : Nat) (x1 : Int32) (x2 : Int32) (S : MS), f_X12_then_31 n x1 x2 S = some u → G X 3 0 0 31 [(0, .ref (ad 0)), (1, .int x1), (2, .int x2)] [] (mW X.E ad S) := by
  intro n
  induction n with
  | zero => intro _ _ _ hf; unfold f_X12_then_31 at hf; cases hf
  | succ n hlp31 =>
  intro x1 x2 S hf
  unfold f_X12_then_31 at hf
  refine g_iloadn hX 2 rfl rfl dX12_then_31 ?_
  refine g_iloadn hX 1 rfl rfl dX12_then_32 ?_
  refine g_icmp_ge hX 46 (by decide) dX12_then_33 (fun c4 => ?_) (fun c4 => ?_)
  · have hf := ite_t c4 hf
    refine g_aloadn hX 0 rfl rfl dX12_then_46 ?_
    obtain ⟨r7, S5, h6, hf⟩ := cb_open hf
    refine k_X12_heardAll hX hq (c_X12_heardAll h6) (by decide) (by decide) (by decide) (Nat.le_of_ble_eq_true rfl) dX12_then_47 ?_
    refine g_istoren hX [(2, .int r7), (0, .ref (ad 0)), (1, .int x1)] rfl (by decide) rfl dX12_then_50 ?_
    refine g_aloadn hX 1 rfl rfl dX12_then_51 ?_
    refine g_aloadn hX 1 rfl rfl dX12_then_52 ?_
    refine mg_tried hX dX12_then_53 ?_
    refine g_aloadn hX 1 rfl rfl dX12_then_56 ?_
    refine mg_row hX dX12_then_57 ?_
    refine k_moveAll_3_1 hX hq (by decide) (by decide) (by decide) (Nat.le_of_ble_eq_true rfl) dX12_then_60 ?_
    refine g_iloadn hX 0 rfl rfl dX12_then_63 ?_
    obtain rfl := oi hf
    exact g_iret hX hq (by decide) (by decide) hp dX12_then_64
  · have hf := ite_f c4 hf
    refine g_aloadn hX 0 rfl rfl dX12_then_36 ?_
    obtain ⟨z10, S8, h9, hf⟩ := cb_open hf
    refine k_X12_oneDay hX hq (c_X12_oneDay h9) (by decide) (by decide) (by decide) (Nat.le_of_ble_eq_true rfl) dX12_then_37 ?_
    obtain ⟨v11, ev11, hf⟩ := bI_open hf
    refine g_iinc hX 2 (v := v11) [(2, .int v11), (0, .ref (ad 0)), (1, .int x1)] rfl (by rw [ev11]; rfl) (by decide) rfl dX12_then_40 ?_
    refine g_goto hX 31 (by decide) dX12_then_43 ?_
    refine g_lv [1, 2, 0] rfl ?_
    exact hlp31 _ _ _ hf
set_option maxRecDepth 100000 in
set_option maxHeartbeats 4000000 in
theorem t_X12_then_0 {X : Cx} {ad : Nat → Nat} {PostX : Option Value → va_W → Prop} (hX : Ok X cX12_then 3 RX12) (hq : Rq X 72 0 0 (some .int) PostX) {u : (Int32 × MS)} (hp : PostX (some (.int u.1)) (mW X.E ad u.2)) (a1 : Int32) (S : MS) (hf : f_X12_then a1 S = some u) : G X 3 0 0 0 [(0, .ref (ad 0)), (1, .int a1)] [] (mW X.E ad S) := by
  unfold f_X12_then at hf
  refine g_iloadn hX 1 rfl rfl dX12_then_0 ?_
  refine g_iconst hX (v := 0) (by decide) dX12_then_1 ?_
  refine g_bipush hX (v := 60) (by decide) dX12_then_2 ?_
  obtain ⟨r1, h2, hf⟩ := cs_open hf
  refine k_RX12_X12_in hX hq h2 (by decide) (by decide) (by decide) (Nat.le_of_ble_eq_true rfl) dX12_then_4 ?_
  refine g_if_ne hX 17 (by decide) dX12_then_7 (fun c3 => ?_) (fun c3 => ?_)
  · have hf := ite_f c3 hf
    refine g_aloadn hX 0 rfl rfl dX12_then_17 ?_
    refine g_aloadn hX 0 rfl rfl dX12_then_18 ?_
    refine mg_row hX dX12_then_19 ?_
    refine g_aloadn hX 0 rfl rfl dX12_then_22 ?_
    refine mg_tried hX dX12_then_23 ?_
    refine k_moveAll_1_3 hX hq (by decide) (by decide) (by decide) (Nat.le_of_ble_eq_true rfl) dX12_then_26 ?_
    refine g_iconst hX (v := 0) (by decide) dX12_then_29 ?_
    refine g_istoren hX [(2, .int 0), (0, .ref (ad 0)), (1, .int a1)] rfl (by decide) rfl dX12_then_30 ?_
    refine g_lv [1, 2, 0] rfl ?_
    exact t_X12_then_31 hX hq hp _ _ _ _ hf
  · have hf := ite_t c3 hf
    refine g_aloadn hX 0 rfl rfl dX12_then_10 ?_
    refine g_ldc hX (v := (-1000000001)) wd_5_74 dX12_then_11 ?_
    obtain ⟨r14, S12, h13, hf⟩ := cb_open hf
    refine k_X12_errs hX hq (c_X12_errs h13) (by decide) (by decide) (by decide) (Nat.le_of_ble_eq_true rfl) dX12_then_13 ?_
    obtain rfl := oi hf
    exact g_iret hX hq (by decide) (by decide) hp dX12_then_16
theorem c_X12_then {l : Launch} {E : En} {ad : Nat → Nat} {a1 : Int32} {r : Int32} {S S2 : MS} (hf : f_X12_then a1 S = some (r, S2)) : CP l E yX12_then cX12_then 3 (some .int) 72 0 0 [] [.ref (ad 0), .int a1] (mW E ad S) (fun rv w => rv = some (.int r) ∧ w = mW E ad S2) :=
  CP.of (lv := [(0, .ref (ad 0)), (1, .int a1)]) (by decide +kernel) (Nat.le_of_ble_eq_true rfl) rfl (fun X hl hE hro hX hq hn => by subst hl; subst hE; exact t_X12_then_0 hX hq ⟨rfl, rfl⟩ a1 S hf)
def f_X12_areSo_42 (lp4 : Int32 → Int32 → Int32 → MS → Option (Int32 × MS)) (x1 : Int32) (x3 : Int32) (y0 : Int32) (S : MS) : Option (Int32 × MS) :=
  bI (x3 + 1) fun v11 =>
  lp4 x1 y0 v11 S
def f_X12_areSo_4 : Nat → Int32 → Int32 → Int32 → MS → Option (Int32 × MS)
  | 0 => fun _ _ _ _ => none
  | n + 1 => fun x1 x2 x3 S =>
    let lp4 := f_X12_areSo_4 n
    gix x1 4 fun k1 =>
    if ((S.1 8 k1) ≤ x3 : Prop) then
      gz x2 <| some (x2, S)
    else
      if (x2 = 0 : Prop) then
        gz x2 <| some (x2, S)
      else
        cb (f_X12_floorOf x3 S) fun r8 S6 =>
        gix ((40 * x1) + x3) 160 fun k9 =>
        if (r8 = (S6.1 9 k9) : Prop) then
          f_X12_areSo_42 lp4 x1 x3 1 S6
        else
          f_X12_areSo_42 lp4 x1 x3 0 S6
def f_X12_areSo (a1 : Int32) (S : MS) : Option (Int32 × MS) :=
  f_X12_areSo_4 100 a1 1 0 S
set_option maxRecDepth 100000 in
set_option maxHeartbeats 4000000 in
theorem t_X12_areSo_42 {X : Cx} {ad : Nat → Nat} {PostX : Option Value → va_W → Prop} (hX : Ok X cX12_areSo 4 RX12) (hq : Rq X 71 0 0 (some .boolean) PostX) {u : (Int32 × MS)} (hp : PostX (some (.int u.1)) (mW X.E ad u.2)) {lp4 : Int32 → Int32 → Int32 → MS → Option (Int32 × MS)} (hlp4 : ∀ (x1 : Int32) (x2 : Int32) (x3 : Int32) (S : MS), lp4 x1 x2 x3 S = some u → G X 4 0 0 4 [(0, .ref (ad 0)), (1, .int x1), (2, .int x2), (3, .int x3)] [] (mW X.E ad S)) (x1 : Int32) (x3 : Int32) (y0 : Int32) (S : MS) (hf : f_X12_areSo_42 lp4 x1 x3 y0 S = some u) : G X 4 0 0 42 [(0, .ref (ad 0)), (1, .int x1), (3, .int x3)] [.int y0] (mW X.E ad S) := by
  unfold f_X12_areSo_42 at hf
  refine g_istoren hX [(2, .int y0), (0, .ref (ad 0)), (1, .int x1), (3, .int x3)] rfl (by decide) rfl dX12_areSo_42 ?_
  obtain ⟨v11, ev11, hf⟩ := bI_open hf
  refine g_iinc hX 3 (v := v11) [(3, .int v11), (2, .int y0), (0, .ref (ad 0)), (1, .int x1)] rfl (by rw [ev11]; rfl) (by decide) rfl dX12_areSo_43 ?_
  refine g_goto hX 4 (by decide) dX12_areSo_46 ?_
  refine g_lv [2, 3, 1, 0] rfl ?_
  exact hlp4 _ _ _ _ hf
set_option maxRecDepth 100000 in
set_option maxHeartbeats 4000000 in
theorem t_X12_areSo_4 {X : Cx} {ad : Nat → Nat} {PostX : Option Value → va_W → Prop} (hX : Ok X cX12_areSo 4 RX12) (hq : Rq X 71 0 0 (some .boolean) PostX) {u : (Int32 × MS)} (hp : PostX (some (.int u.1)) (mW X.E ad u.2)) : ∀ (n : Nat) (x1 : Int32) (x2 : Int32) (x3 : Int32) (S : MS), f_X12_areSo_4 n x1 x2 x3 S = some u → G X 4 0 0 4 [(0, .ref (ad 0)), (1, .int x1), (2, .int x2), (3, .int x3)] [] (mW X.E ad S) := by
  intro n
  induction n with
  | zero => intro _ _ _ _ hf; unfold f_X12_areSo_4 at hf; cases hf
  | succ n hlp4 =>
  intro x1 x2 x3 S hf
  unfold f_X12_areSo_4 at hf
  refine g_iloadn hX 3 rfl rfl dX12_areSo_4 ?_
  refine g_aloadn hX 0 rfl rfl dX12_areSo_5 ?_
  refine mg_sizeOf hX dX12_areSo_6 ?_
  refine g_iloadn hX 1 rfl rfl dX12_areSo_9 ?_
  obtain ⟨k1, jk1, ik1, hf⟩ := gix_open hf
  refine ml_sizeOf hX ik1 k1 jk1 (v := S.1 8 k1) rfl dX12_areSo_10 ?_
  refine g_icmp_ge hX 49 (by decide) dX12_areSo_11 (fun c2 => ?_) (fun c2 => ?_)
  · have hf := ite_t c2 hf
    refine g_iloadn hX 2 rfl rfl dX12_areSo_49 ?_
    obtain ⟨h3, hf⟩ := gz_open hf
    obtain rfl := oi hf
    exact g_zret hX hq (by decide) (by decide) (nar_z h3) hp dX12_areSo_50
  · have hf := ite_f c2 hf
    refine g_iloadn hX 2 rfl rfl dX12_areSo_14 ?_
    refine g_if_eq hX 49 (by decide) dX12_areSo_15 (fun c4 => ?_) (fun c4 => ?_)
    · have hf := ite_t c4 hf
      refine g_iloadn hX 2 rfl rfl dX12_areSo_49 ?_
      obtain ⟨h5, hf⟩ := gz_open hf
      obtain rfl := oi hf
      exact g_zret hX hq (by decide) (by decide) (nar_z h5) hp dX12_areSo_50
    · have hf := ite_f c4 hf
      refine g_aloadn hX 0 rfl rfl dX12_areSo_18 ?_
      refine g_iloadn hX 3 rfl rfl dX12_areSo_19 ?_
      obtain ⟨r8, S6, h7, hf⟩ := cb_open hf
      refine k_X12_floorOf hX hq (c_X12_floorOf h7) (by decide) (by decide) (by decide) (Nat.le_of_ble_eq_true rfl) dX12_areSo_20 ?_
      refine g_aloadn hX 0 rfl rfl dX12_areSo_23 ?_
      refine mg_sheets hX dX12_areSo_24 ?_
      refine g_bipush hX (v := 40) (by decide) dX12_areSo_27 ?_
      refine g_iloadn hX 1 rfl rfl dX12_areSo_29 ?_
      refine g_imul hX dX12_areSo_30 ?_
      refine g_iloadn hX 3 rfl rfl dX12_areSo_31 ?_
      refine g_iadd hX dX12_areSo_32 ?_
      obtain ⟨k9, jk9, ik9, hf⟩ := gix_open hf
      refine ml_sheets hX ik9 k9 jk9 (v := S6.1 9 k9) rfl dX12_areSo_33 ?_
      refine g_icmp_ne hX 41 (by decide) dX12_areSo_34 (fun c10 => ?_) (fun c10 => ?_)
      · have hf := ite_f c10 hf
        refine g_iconst hX (v := 0) (by decide) dX12_areSo_41 ?_
        refine g_lv [0, 1, 3] rfl ?_
        exact t_X12_areSo_42 hX hq hp hlp4 _ _ _ _ hf
      · have hf := ite_t c10 hf
        refine g_iconst hX (v := 1) (by decide) dX12_areSo_37 ?_
        refine g_goto hX 42 (by decide) dX12_areSo_38 ?_
        refine g_lv [0, 1, 3] rfl ?_
        exact t_X12_areSo_42 hX hq hp hlp4 _ _ _ _ hf
set_option maxRecDepth 100000 in
set_option maxHeartbeats 4000000 in
theorem t_X12_areSo_0 {X : Cx} {ad : Nat → Nat} {PostX : Option Value → va_W → Prop} (hX : Ok X cX12_areSo 4 RX12) (hq : Rq X 71 0 0 (some .boolean) PostX) {u : (Int32 × MS)} (hp : PostX (some (.int u.1)) (mW X.E ad u.2)) (a1 : Int32) (S : MS) (hf : f_X12_areSo a1 S = some u) : G X 4 0 0 0 [(0, .ref (ad 0)), (1, .int a1)] [] (mW X.E ad S) := by
  unfold f_X12_areSo at hf
  refine g_iconst hX (v := 1) (by decide) dX12_areSo_0 ?_
  refine g_istoren hX [(2, .int 1), (0, .ref (ad 0)), (1, .int a1)] rfl (by decide) rfl dX12_areSo_1 ?_
  refine g_iconst hX (v := 0) (by decide) dX12_areSo_2 ?_
  refine g_istoren hX [(3, .int 0), (2, .int 1), (0, .ref (ad 0)), (1, .int a1)] rfl (by decide) rfl dX12_areSo_3 ?_
  refine g_lv [2, 3, 1, 0] rfl ?_
  exact t_X12_areSo_4 hX hq hp _ _ _ _ _ hf
theorem c_X12_areSo {l : Launch} {E : En} {ad : Nat → Nat} {a1 : Int32} {r : Int32} {S S2 : MS} (hf : f_X12_areSo a1 S = some (r, S2)) : CP l E yX12_areSo cX12_areSo 4 (some .boolean) 71 0 0 [] [.ref (ad 0), .int a1] (mW E ad S) (fun rv w => rv = some (.int r) ∧ w = mW E ad S2) :=
  CP.of (lv := [(0, .ref (ad 0)), (1, .int a1)]) (by decide +kernel) (Nat.le_of_ble_eq_true rfl) rfl (fun X hl hE hro hX hq hn => by subst hl; subst hE; exact t_X12_areSo_0 hX hq ⟨rfl, rfl⟩ a1 S hf)
theorem kw_RX12_X12_areSo : KwV RX12 218 RX12 yX12_areSo cX12_areSo 4 (some .boolean) 1 := ⟨mem_wsV wd_6_80 wd_6_82 wd_s_48 wd_1_19 wd_6_83, rfl, ⟨by decide +kernel, by decide +kernel, by decide +kernel⟩, by decide⟩
theorem k_X12_areSo {X : Cx} {cc : ByteArray} {nL ce sl pc : Nat} {lv : List (Nat × Value)} {st : List Value} {dX mcX msX : Nat} {retX : Option FieldType} {PostX : Option Value → va_W → Prop} {ad : Nat → Nat} {S S2 : MS} {d : Nat} (hX : Ok X cc nL RX12) (hq : Rq X dX mcX msX retX PostX) {a1 : Int32} {r : Int32} (hM : CP X.l X.E yX12_areSo cX12_areSo 4 (some .boolean) d 0 0 [] [.ref (ad 0), .int a1] (mW X.E ad S) (fun rv w => rv = some (.int r) ∧ w = mW X.E ad S2)) (hd : d < dX) (hc : ce ≤ mcX) (hs : sl ≤ msX) (hcat : (st.map fun v => v.category).sum ≤ 8) (hdg : decode cc pc = .ok (.invokevirtual 218, 3)) (kk : G X nL ce sl (pc + 3) lv (.int r :: st) (mW X.E ad S2)) : G X nL ce sl pc lv (.int a1 :: .ref (ad 0) :: st) (mW X.E ad S) :=
  g_eqW (app1 _) (g_callV (pre := []) (mid := mW X.E ad S) (post := []) [.int a1] hX hq kw_RX12_X12_areSo hM (fun _ h => absurd h List.not_mem_nil) hd hc hs rfl (Recv.of 0 12 rfl rfl) rfl hcat hdg (fun rv ws2 hp => by obtain ⟨rfl, rfl⟩ := hp; exact g_eqW (app1 _).symm kk))

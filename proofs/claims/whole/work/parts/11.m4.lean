def f_X12_creditOf_78 (x1 : Int32) (x3 : Int32) (x4 : Int32) (x5 : Int32) (y0 : Int32) (y1 : Int32) (S : MS) : Option (Int32 × MS) :=
  bI (y0 + y1) fun v13 =>
  if (x3 = 1 : Prop) then
    some (x5, S)
  else
  if (x3 = 2 : Prop) then
    some (x4, S)
  else
  if (x3 = 3 : Prop) then
    some (v13, S)
  else
  if (x3 = 4 : Prop) then
    cb (f_X12_its x1 1 S) fun r20 S18 =>
    some ((x5 + r20), S18)
  else
  if (x3 = 5 : Prop) then
    some ((x4 + (S.2 4)), S)
  else
  if (x3 = 6 : Prop) then
    some ((((v13 - (S.2 2)) - (S.2 3)) - (S.2 4)), S)
  else
  some (x4, S)
def f_X12_creditOf_62 (x1 : Int32) (x3 : Int32) (x4 : Int32) (y0 : Int32) (S : MS) : Option (Int32 × MS) :=
  if ((S.2 3) = 0 : Prop) then
    f_X12_creditOf_78 x1 x3 x4 y0 x4 3 S
  else
    f_X12_creditOf_78 x1 x3 x4 y0 x4 0 S
def f_X12_creditOf_41 (x1 : Int32) (x3 : Int32) (y1 : Int32) (y2 : Int32) (y3 : Int32) (S : MS) : Option (Int32 × MS) :=
  cb (f_X12_lawOf y1 y2 y3 (S.2 4) S) fun r10 S8 =>
  if (5 ≤ r10 : Prop) then
    f_X12_creditOf_62 x1 x3 r10 5 S8
  else
    f_X12_creditOf_62 x1 x3 r10 r10 S8
def f_X12_creditOf_28 (x1 : Int32) (x3 : Int32) (y1 : Int32) (y2 : Int32) (S : MS) : Option (Int32 × MS) :=
  f_X12_creditOf_41 x1 x3 y1 y2 ((S.2 3) / 2) S
def f_X12_creditOf (a1 : Int32) (a2 : Int32) (S : MS) : Option (Int32 × MS) :=
  cb (f_X12_weigh a2 S) fun _ S1 =>
  cb (f_X12_its a1 0 S1) fun r6 S4 =>
  if (r6 = 2 : Prop) then
    f_X12_creditOf_28 a1 r6 0 (S4.2 2) S4
  else
    if (r6 = 5 : Prop) then
      f_X12_creditOf_28 a1 r6 0 (S4.2 2) S4
    else
      f_X12_creditOf_41 a1 r6 0 (S4.2 2) (S4.2 3) S4
set_option maxRecDepth 100000 in
set_option maxHeartbeats 4000000 in
theorem t_X12_creditOf_78 {X : Cx} {ad : Nat → Nat} {PostX : Option Value → va_W → Prop} (hX : Ok X cX12_creditOf 7 RX12) (hq : Rq X 68 0 0 (some .int) PostX) {u : (Int32 × MS)} (hp : PostX (some (.int u.1)) (mW X.E ad u.2)) (x1 : Int32) (x3 : Int32) (x4 : Int32) (x5 : Int32) (y0 : Int32) (y1 : Int32) (S : MS) (hf : f_X12_creditOf_78 x1 x3 x4 x5 y0 y1 S = some u) : G X 7 0 0 78 [(0, .ref (ad 0)), (1, .int x1), (3, .int x3), (4, .int x4), (5, .int x5)] [.int y1, .int y0] (mW X.E ad S) := by
  unfold f_X12_creditOf_78 at hf
  refine g_iadd hX dX12_creditOf_78 ?_
  obtain ⟨v13, ev13, hf⟩ := bI_open hf
  refine g_nm ev13 ?_
  refine g_istore hX [(6, .int v13), (0, .ref (ad 0)), (1, .int x1), (3, .int x3), (4, .int x4), (5, .int x5)] (by decide) rfl dX12_creditOf_79 ?_
  refine g_iloadn hX 3 rfl rfl dX12_creditOf_81 ?_
  by_cases c14 : x3 = 1
  · have hf := ite_t c14 hf
    refine g_tsin hX 120 c14 (by decide) (by rfl) (by decide) dX12_creditOf_82 ?_
    refine g_iload hX 5 rfl dX12_creditOf_120 ?_
    obtain rfl := oi hf
    exact g_iret hX hq (by decide) (by decide) hp dX12_creditOf_122
  have hf := ite_f c14 hf
  by_cases c15 : x3 = 2
  · have hf := ite_t c15 hf
    refine g_tsin hX 162 c15 (by decide) (by rfl) (by decide) dX12_creditOf_82 ?_
    refine g_iload hX 4 rfl dX12_creditOf_162 ?_
    obtain rfl := oi hf
    exact g_iret hX hq (by decide) (by decide) hp dX12_creditOf_164
  have hf := ite_f c15 hf
  by_cases c16 : x3 = 3
  · have hf := ite_t c16 hf
    refine g_tsin hX 133 c16 (by decide) (by rfl) (by decide) dX12_creditOf_82 ?_
    refine g_iload hX 0 rfl dX12_creditOf_133 ?_
    obtain rfl := oi hf
    exact g_iret hX hq (by decide) (by decide) hp dX12_creditOf_135
  have hf := ite_f c16 hf
  by_cases c17 : x3 = 4
  · have hf := ite_t c17 hf
    refine g_tsin hX 123 c17 (by decide) (by rfl) (by decide) dX12_creditOf_82 ?_
    refine g_iload hX 5 rfl dX12_creditOf_123 ?_
    refine g_aloadn hX 1 rfl rfl dX12_creditOf_125 ?_
    refine g_iloadn hX 2 rfl rfl dX12_creditOf_126 ?_
    refine g_iconst hX (v := 1) (by decide) dX12_creditOf_127 ?_
    obtain ⟨r20, S18, h19, hf⟩ := cb_open hf
    refine k_X12_its hX hq (c_X12_its h19) (by decide) (by decide) (by decide) (Nat.le_of_ble_eq_true rfl) dX12_creditOf_128 ?_
    refine g_iadd hX dX12_creditOf_131 ?_
    obtain rfl := oi hf
    exact g_iret hX hq (by decide) (by decide) hp dX12_creditOf_132
  have hf := ite_f c17 hf
  by_cases c21 : x3 = 5
  · have hf := ite_t c21 hf
    refine g_tsin hX 154 c21 (by decide) (by rfl) (by decide) dX12_creditOf_82 ?_
    refine g_iload hX 4 rfl dX12_creditOf_154 ?_
    refine g_aloadn hX 1 rfl rfl dX12_creditOf_156 ?_
    refine mg_fresh hX (v := S.2 4) rfl dX12_creditOf_157 ?_
    refine g_iadd hX dX12_creditOf_160 ?_
    obtain rfl := oi hf
    exact g_iret hX hq (by decide) (by decide) hp dX12_creditOf_161
  have hf := ite_f c21 hf
  by_cases c22 : x3 = 6
  · have hf := ite_t c22 hf
    refine g_tsin hX 136 c22 (by decide) (by rfl) (by decide) dX12_creditOf_82 ?_
    refine g_iload hX 0 rfl dX12_creditOf_136 ?_
    refine g_aloadn hX 1 rfl rfl dX12_creditOf_138 ?_
    refine mg_as hX (v := S.2 2) rfl dX12_creditOf_139 ?_
    refine g_isub hX dX12_creditOf_142 ?_
    refine g_aloadn hX 1 rfl rfl dX12_creditOf_143 ?_
    refine mg_other hX (v := S.2 3) rfl dX12_creditOf_144 ?_
    refine g_isub hX dX12_creditOf_147 ?_
    refine g_aloadn hX 1 rfl rfl dX12_creditOf_148 ?_
    refine mg_fresh hX (v := S.2 4) rfl dX12_creditOf_149 ?_
    refine g_isub hX dX12_creditOf_152 ?_
    obtain rfl := oi hf
    exact g_iret hX hq (by decide) (by decide) hp dX12_creditOf_153
  have hf := ite_f c22 hf
  refine g_tsout hX 162 (tsw_out_1_6 c14 c15 c16 c17 c21 c22) (by decide) dX12_creditOf_82 ?_
  refine g_iload hX 4 rfl dX12_creditOf_162 ?_
  obtain rfl := oi hf
  exact g_iret hX hq (by decide) (by decide) hp dX12_creditOf_164
set_option maxRecDepth 100000 in
set_option maxHeartbeats 4000000 in
theorem t_X12_creditOf_62 {X : Cx} {ad : Nat → Nat} {PostX : Option Value → va_W → Prop} (hX : Ok X cX12_creditOf 7 RX12) (hq : Rq X 68 0 0 (some .int) PostX) {u : (Int32 × MS)} (hp : PostX (some (.int u.1)) (mW X.E ad u.2)) (x1 : Int32) (x3 : Int32) (x4 : Int32) (y0 : Int32) (S : MS) (hf : f_X12_creditOf_62 x1 x3 x4 y0 S = some u) : G X 7 0 0 62 [(0, .ref (ad 0)), (1, .int x1), (3, .int x3), (4, .int x4)] [.int y0] (mW X.E ad S) := by
  unfold f_X12_creditOf_62 at hf
  refine g_istore hX [(5, .int y0), (0, .ref (ad 0)), (1, .int x1), (3, .int x3), (4, .int x4)] (by decide) rfl dX12_creditOf_62 ?_
  refine g_iload hX 4 rfl dX12_creditOf_64 ?_
  refine g_aloadn hX 1 rfl rfl dX12_creditOf_66 ?_
  refine mg_other hX (v := S.2 3) rfl dX12_creditOf_67 ?_
  refine g_if_ne hX 77 (by decide) dX12_creditOf_70 (fun c12 => ?_) (fun c12 => ?_)
  · have hf := ite_f c12 hf
    refine g_iconst hX (v := 0) (by decide) dX12_creditOf_77 ?_
    refine g_lv [1, 2, 3, 4, 0] rfl ?_
    exact t_X12_creditOf_78 hX hq hp _ _ _ _ _ _ _ hf
  · have hf := ite_t c12 hf
    refine g_iconst hX (v := 3) (by decide) dX12_creditOf_73 ?_
    refine g_goto hX 78 (by decide) dX12_creditOf_74 ?_
    refine g_lv [1, 2, 3, 4, 0] rfl ?_
    exact t_X12_creditOf_78 hX hq hp _ _ _ _ _ _ _ hf
set_option maxRecDepth 100000 in
set_option maxHeartbeats 4000000 in
theorem t_X12_creditOf_41 {X : Cx} {ad : Nat → Nat} {PostX : Option Value → va_W → Prop} (hX : Ok X cX12_creditOf 7 RX12) (hq : Rq X 68 0 0 (some .int) PostX) {u : (Int32 × MS)} (hp : PostX (some (.int u.1)) (mW X.E ad u.2)) (x1 : Int32) (x3 : Int32) (y1 : Int32) (y2 : Int32) (y3 : Int32) (S : MS) (hf : f_X12_creditOf_41 x1 x3 y1 y2 y3 S = some u) : G X 7 0 0 41 [(0, .ref (ad 0)), (1, .int x1), (3, .int x3)] [.int y3, .int y2, .int y1, .ref (ad 0)] (mW X.E ad S) := by
  unfold f_X12_creditOf_41 at hf
  refine g_aloadn hX 0 rfl rfl dX12_creditOf_41 ?_
  refine mg_fresh hX (v := S.2 4) rfl dX12_creditOf_42 ?_
  obtain ⟨r10, S8, h9, hf⟩ := cb_open hf
  refine k_X12_lawOf hX hq (c_X12_lawOf h9) (by decide) (by decide) (by decide) (Nat.le_of_ble_eq_true rfl) dX12_creditOf_45 ?_
  refine g_istore hX [(4, .int r10), (0, .ref (ad 0)), (1, .int x1), (3, .int x3)] (by decide) rfl dX12_creditOf_48 ?_
  refine g_iload hX 0 rfl dX12_creditOf_50 ?_
  refine g_iconst hX (v := 5) (by decide) dX12_creditOf_52 ?_
  refine g_icmp_ge hX 61 (by decide) dX12_creditOf_53 (fun c11 => ?_) (fun c11 => ?_)
  · have hf := ite_t c11 hf
    refine g_iconst hX (v := 5) (by decide) dX12_creditOf_61 ?_
    refine g_lv [1, 2, 3, 0] rfl ?_
    exact t_X12_creditOf_62 hX hq hp _ _ _ _ _ hf
  · have hf := ite_f c11 hf
    refine g_iload hX 0 rfl dX12_creditOf_56 ?_
    refine g_goto hX 62 (by decide) dX12_creditOf_58 ?_
    refine g_lv [1, 2, 3, 0] rfl ?_
    exact t_X12_creditOf_62 hX hq hp _ _ _ _ _ hf
set_option maxRecDepth 100000 in
set_option maxHeartbeats 4000000 in
theorem t_X12_creditOf_28 {X : Cx} {ad : Nat → Nat} {PostX : Option Value → va_W → Prop} (hX : Ok X cX12_creditOf 7 RX12) (hq : Rq X 68 0 0 (some .int) PostX) {u : (Int32 × MS)} (hp : PostX (some (.int u.1)) (mW X.E ad u.2)) (x1 : Int32) (x3 : Int32) (y1 : Int32) (y2 : Int32) (S : MS) (hf : f_X12_creditOf_28 x1 x3 y1 y2 S = some u) : G X 7 0 0 28 [(0, .ref (ad 0)), (1, .int x1), (3, .int x3)] [.int y2, .int y1, .ref (ad 0)] (mW X.E ad S) := by
  unfold f_X12_creditOf_28 at hf
  refine g_aloadn hX 0 rfl rfl dX12_creditOf_28 ?_
  refine mg_other hX (v := S.2 3) rfl dX12_creditOf_29 ?_
  refine g_iconst hX (v := 2) (by decide) dX12_creditOf_32 ?_
  refine g_idiv hX (by decide) dX12_creditOf_33 ?_
  refine g_goto hX 41 (by decide) dX12_creditOf_34 ?_
  exact t_X12_creditOf_41 hX hq hp _ _ _ _ _ _ hf
set_option maxRecDepth 100000 in
set_option maxHeartbeats 4000000 in
theorem t_X12_creditOf_0 {X : Cx} {ad : Nat → Nat} {PostX : Option Value → va_W → Prop} (hX : Ok X cX12_creditOf 7 RX12) (hq : Rq X 68 0 0 (some .int) PostX) {u : (Int32 × MS)} (hp : PostX (some (.int u.1)) (mW X.E ad u.2)) (a1 : Int32) (a2 : Int32) (S : MS) (hf : f_X12_creditOf a1 a2 S = some u) : G X 7 0 0 0 [(0, .ref (ad 0)), (1, .int a1), (2, .int a2)] [] (mW X.E ad S) := by
  unfold f_X12_creditOf at hf
  refine g_aloadn hX 0 rfl rfl dX12_creditOf_0 ?_
  refine g_iloadn hX 2 rfl rfl dX12_creditOf_1 ?_
  obtain ⟨z3, S1, h2, hf⟩ := cb_open hf
  refine k_X12_weigh hX hq (c_X12_weigh h2) (by decide) (by decide) (by decide) (Nat.le_of_ble_eq_true rfl) dX12_creditOf_2 ?_
  refine g_aloadn hX 0 rfl rfl dX12_creditOf_5 ?_
  refine g_iloadn hX 1 rfl rfl dX12_creditOf_6 ?_
  refine g_iconst hX (v := 0) (by decide) dX12_creditOf_7 ?_
  obtain ⟨r6, S4, h5, hf⟩ := cb_open hf
  refine k_X12_its hX hq (c_X12_its h5) (by decide) (by decide) (by decide) (Nat.le_of_ble_eq_true rfl) dX12_creditOf_8 ?_
  refine g_istoren hX [(3, .int r6), (0, .ref (ad 0)), (1, .int a1), (2, .int a2)] rfl (by decide) rfl dX12_creditOf_11 ?_
  refine g_aloadn hX 1 rfl rfl dX12_creditOf_12 ?_
  refine g_iconst hX (v := 0) (by decide) dX12_creditOf_13 ?_
  refine g_aloadn hX 1 rfl rfl dX12_creditOf_14 ?_
  refine mg_as hX (v := S4.2 2) rfl dX12_creditOf_15 ?_
  refine g_iloadn hX 0 rfl rfl dX12_creditOf_18 ?_
  refine g_iconst hX (v := 2) (by decide) dX12_creditOf_19 ?_
  refine g_icmp_eq hX 28 (by decide) dX12_creditOf_20 (fun c7 => ?_) (fun c7 => ?_)
  · have hf := ite_t c7 hf
    refine g_lv [1, 2, 0] rfl ?_
    exact t_X12_creditOf_28 hX hq hp _ _ _ _ _ hf
  · have hf := ite_f c7 hf
    refine g_iloadn hX 0 rfl rfl dX12_creditOf_23 ?_
    refine g_iconst hX (v := 5) (by decide) dX12_creditOf_24 ?_
    refine g_icmp_ne hX 37 (by decide) dX12_creditOf_25 (fun c23 => ?_) (fun c23 => ?_)
    · have hf := ite_f c23 hf
      refine g_aloadn hX 1 rfl rfl dX12_creditOf_37 ?_
      refine mg_other hX (v := S4.2 3) rfl dX12_creditOf_38 ?_
      refine g_lv [1, 2, 0] rfl ?_
      exact t_X12_creditOf_41 hX hq hp _ _ _ _ _ _ hf
    · have hf := ite_t c23 hf
      refine g_lv [1, 2, 0] rfl ?_
      exact t_X12_creditOf_28 hX hq hp _ _ _ _ _ hf
theorem c_X12_creditOf {l : Launch} {E : En} {ad : Nat → Nat} {a1 : Int32} {a2 : Int32} {r : Int32} {S S2 : MS} (hf : f_X12_creditOf a1 a2 S = some (r, S2)) : CP l E yX12_creditOf cX12_creditOf 7 (some .int) 68 0 0 [] [.ref (ad 0), .int a1, .int a2] (mW E ad S) (fun rv w => rv = some (.int r) ∧ w = mW E ad S2) :=
  CP.of (lv := [(0, .ref (ad 0)), (1, .int a1), (2, .int a2)]) (by decide +kernel) (Nat.le_of_ble_eq_true rfl) rfl (fun X hl hE hro hX hq hn => by subst hl; subst hE; exact t_X12_creditOf_0 hX hq ⟨rfl, rfl⟩ a1 a2 S hf)
theorem kw_RX12_X12_creditOf : KwV RX12 90 RX12 yX12_creditOf cX12_creditOf 7 (some .int) 2 := ⟨mem_wsV wd_5_121 wd_5_123 wd_s_23 wd_1_19 wd_5_124, rfl, ⟨by decide +kernel, by decide +kernel, by decide +kernel⟩, by decide⟩
theorem k_X12_creditOf {X : Cx} {cc : ByteArray} {nL ce sl pc : Nat} {lv : List (Nat × Value)} {st : List Value} {dX mcX msX : Nat} {retX : Option FieldType} {PostX : Option Value → va_W → Prop} {ad : Nat → Nat} {S S2 : MS} {d : Nat} (hX : Ok X cc nL RX12) (hq : Rq X dX mcX msX retX PostX) {a1 : Int32} {a2 : Int32} {r : Int32} (hM : CP X.l X.E yX12_creditOf cX12_creditOf 7 (some .int) d 0 0 [] [.ref (ad 0), .int a1, .int a2] (mW X.E ad S) (fun rv w => rv = some (.int r) ∧ w = mW X.E ad S2)) (hd : d < dX) (hc : ce ≤ mcX) (hs : sl ≤ msX) (hcat : (st.map fun v => v.category).sum ≤ 8) (hdg : decode cc pc = .ok (.invokevirtual 90, 3)) (kk : G X nL ce sl (pc + 3) lv (.int r :: st) (mW X.E ad S2)) : G X nL ce sl pc lv (.int a2 :: .int a1 :: .ref (ad 0) :: st) (mW X.E ad S) :=
  g_eqW (app1 _) (g_callV (pre := []) (mid := mW X.E ad S) (post := []) [.int a1, .int a2] hX hq kw_RX12_X12_creditOf hM (fun _ h => absurd h List.not_mem_nil) hd hc hs rfl (Recv.of 0 12 rfl rfl) rfl hcat hdg (fun rv ws2 hp => by obtain ⟨rfl, rfl⟩ := hp; exact g_eqW (app1 _).symm kk))
def f_X12_floorBy (a1 : Int32) (a2 : Int32) (S : MS) : Option (Int32 × MS) :=
  cb (f_X12_creditOf a1 a2 S) fun r3 S1 =>
  if (a2 = 0 : Prop) then
    some ((-1), S1)
  else
    cs (f_X12_held r3 0 9) fun r5 =>
    some (r5, S1)
set_option maxRecDepth 100000 in
set_option maxHeartbeats 4000000 in
theorem t_X12_floorBy_0 {X : Cx} {ad : Nat → Nat} {PostX : Option Value → va_W → Prop} (hX : Ok X cX12_floorBy 4 RX12) (hq : Rq X 69 0 0 (some .int) PostX) {u : (Int32 × MS)} (hp : PostX (some (.int u.1)) (mW X.E ad u.2)) (a1 : Int32) (a2 : Int32) (S : MS) (hf : f_X12_floorBy a1 a2 S = some u) : G X 4 0 0 0 [(0, .ref (ad 0)), (1, .int a1), (2, .int a2)] [] (mW X.E ad S) := by
  unfold f_X12_floorBy at hf
  refine g_aloadn hX 0 rfl rfl dX12_floorBy_0 ?_
  refine g_iloadn hX 1 rfl rfl dX12_floorBy_1 ?_
  refine g_iloadn hX 2 rfl rfl dX12_floorBy_2 ?_
  obtain ⟨r3, S1, h2, hf⟩ := cb_open hf
  refine k_X12_creditOf hX hq (c_X12_creditOf h2) (by decide) (by decide) (by decide) (Nat.le_of_ble_eq_true rfl) dX12_floorBy_3 ?_
  refine g_istoren hX [(3, .int r3), (0, .ref (ad 0)), (1, .int a1), (2, .int a2)] rfl (by decide) rfl dX12_floorBy_6 ?_
  refine g_iloadn hX 3 rfl rfl dX12_floorBy_7 ?_
  refine g_if_ne hX 15 (by decide) dX12_floorBy_8 (fun c4 => ?_) (fun c4 => ?_)
  · have hf := ite_f c4 hf
    refine g_iloadn hX 0 rfl rfl dX12_floorBy_15 ?_
    refine g_iconst hX (v := 0) (by decide) dX12_floorBy_16 ?_
    refine g_bipush hX (v := 9) (by decide) dX12_floorBy_17 ?_
    obtain ⟨r5, h6, hf⟩ := cs_open hf
    refine k_RX12_X12_held hX hq h6 (by decide) (by decide) (by decide) (Nat.le_of_ble_eq_true rfl) dX12_floorBy_19 ?_
    obtain rfl := oi hf
    exact g_iret hX hq (by decide) (by decide) hp dX12_floorBy_22
  · have hf := ite_t c4 hf
    refine g_iconst hX (v := (-1)) (by decide) dX12_floorBy_11 ?_
    refine g_goto hX 22 (by decide) dX12_floorBy_12 ?_
    obtain rfl := oi hf
    exact g_iret hX hq (by decide) (by decide) hp dX12_floorBy_22
theorem c_X12_floorBy {l : Launch} {E : En} {ad : Nat → Nat} {a1 : Int32} {a2 : Int32} {r : Int32} {S S2 : MS} (hf : f_X12_floorBy a1 a2 S = some (r, S2)) : CP l E yX12_floorBy cX12_floorBy 4 (some .int) 69 0 0 [] [.ref (ad 0), .int a1, .int a2] (mW E ad S) (fun rv w => rv = some (.int r) ∧ w = mW E ad S2) :=
  CP.of (lv := [(0, .ref (ad 0)), (1, .int a1), (2, .int a2)]) (by decide +kernel) (Nat.le_of_ble_eq_true rfl) rfl (fun X hl hE hro hX hq hn => by subst hl; subst hE; exact t_X12_floorBy_0 hX hq ⟨rfl, rfl⟩ a1 a2 S hf)
theorem kw_RX12_X12_floorBy : KwV RX12 97 RX12 yX12_floorBy cX12_floorBy 4 (some .int) 2 := ⟨mem_wsV wd_5_183 wd_5_185 wd_s_37 wd_1_19 wd_5_186, rfl, ⟨by decide +kernel, by decide +kernel, by decide +kernel⟩, by decide⟩
theorem k_X12_floorBy {X : Cx} {cc : ByteArray} {nL ce sl pc : Nat} {lv : List (Nat × Value)} {st : List Value} {dX mcX msX : Nat} {retX : Option FieldType} {PostX : Option Value → va_W → Prop} {ad : Nat → Nat} {S S2 : MS} {d : Nat} (hX : Ok X cc nL RX12) (hq : Rq X dX mcX msX retX PostX) {a1 : Int32} {a2 : Int32} {r : Int32} (hM : CP X.l X.E yX12_floorBy cX12_floorBy 4 (some .int) d 0 0 [] [.ref (ad 0), .int a1, .int a2] (mW X.E ad S) (fun rv w => rv = some (.int r) ∧ w = mW X.E ad S2)) (hd : d < dX) (hc : ce ≤ mcX) (hs : sl ≤ msX) (hcat : (st.map fun v => v.category).sum ≤ 8) (hdg : decode cc pc = .ok (.invokevirtual 97, 3)) (kk : G X nL ce sl (pc + 3) lv (.int r :: st) (mW X.E ad S2)) : G X nL ce sl pc lv (.int a2 :: .int a1 :: .ref (ad 0) :: st) (mW X.E ad S) :=
  g_eqW (app1 _) (g_callV (pre := []) (mid := mW X.E ad S) (post := []) [.int a1, .int a2] hX hq kw_RX12_X12_floorBy hM (fun _ h => absurd h List.not_mem_nil) hd hc hs rfl (Recv.of 0 12 rfl rfl) rfl hcat hdg (fun rv ws2 hp => by obtain ⟨rfl, rfl⟩ := hp; exact g_eqW (app1 _).symm kk))
def f_X12_floorOf (a1 : Int32) (S : MS) : Option (Int32 × MS) :=
  cb (f_X12_its a1 2 S) fun r3 S1 =>
  cb (f_X12_floorBy a1 r3 S1) fun r6 S4 =>
  some (r6, S4)
set_option maxRecDepth 100000 in
set_option maxHeartbeats 4000000 in
theorem t_X12_floorOf_0 {X : Cx} {ad : Nat → Nat} {PostX : Option Value → va_W → Prop} (hX : Ok X cX12_floorOf 2 RX12) (hq : Rq X 70 0 0 (some .int) PostX) {u : (Int32 × MS)} (hp : PostX (some (.int u.1)) (mW X.E ad u.2)) (a1 : Int32) (S : MS) (hf : f_X12_floorOf a1 S = some u) : G X 2 0 0 0 [(0, .ref (ad 0)), (1, .int a1)] [] (mW X.E ad S) := by
  unfold f_X12_floorOf at hf
  refine g_aloadn hX 0 rfl rfl dX12_floorOf_0 ?_
  refine g_iloadn hX 1 rfl rfl dX12_floorOf_1 ?_
  refine g_aloadn hX 0 rfl rfl dX12_floorOf_2 ?_
  refine g_iloadn hX 1 rfl rfl dX12_floorOf_3 ?_
  refine g_iconst hX (v := 2) (by decide) dX12_floorOf_4 ?_
  obtain ⟨r3, S1, h2, hf⟩ := cb_open hf
  refine k_X12_its hX hq (c_X12_its h2) (by decide) (by decide) (by decide) (Nat.le_of_ble_eq_true rfl) dX12_floorOf_5 ?_
  obtain ⟨r6, S4, h5, hf⟩ := cb_open hf
  refine k_X12_floorBy hX hq (c_X12_floorBy h5) (by decide) (by decide) (by decide) (Nat.le_of_ble_eq_true rfl) dX12_floorOf_8 ?_
  obtain rfl := oi hf
  exact g_iret hX hq (by decide) (by decide) hp dX12_floorOf_11
theorem c_X12_floorOf {l : Launch} {E : En} {ad : Nat → Nat} {a1 : Int32} {r : Int32} {S S2 : MS} (hf : f_X12_floorOf a1 S = some (r, S2)) : CP l E yX12_floorOf cX12_floorOf 2 (some .int) 70 0 0 [] [.ref (ad 0), .int a1] (mW E ad S) (fun rv w => rv = some (.int r) ∧ w = mW E ad S2) :=
  CP.of (lv := [(0, .ref (ad 0)), (1, .int a1)]) (by decide +kernel) (Nat.le_of_ble_eq_true rfl) rfl (fun X hl hE hro hX hq hn => by subst hl; subst hE; exact t_X12_floorOf_0 hX hq ⟨rfl, rfl⟩ a1 S hf)
theorem kw_RX12_X12_floorOf : KwV RX12 103 RX12 yX12_floorOf cX12_floorOf 2 (some .int) 1 := ⟨mem_wsV wd_5_179 wd_5_181 wd_s_36 wd_1_19 wd_5_182, rfl, ⟨by decide +kernel, by decide +kernel, by decide +kernel⟩, by decide⟩
theorem k_X12_floorOf {X : Cx} {cc : ByteArray} {nL ce sl pc : Nat} {lv : List (Nat × Value)} {st : List Value} {dX mcX msX : Nat} {retX : Option FieldType} {PostX : Option Value → va_W → Prop} {ad : Nat → Nat} {S S2 : MS} {d : Nat} (hX : Ok X cc nL RX12) (hq : Rq X dX mcX msX retX PostX) {a1 : Int32} {r : Int32} (hM : CP X.l X.E yX12_floorOf cX12_floorOf 2 (some .int) d 0 0 [] [.ref (ad 0), .int a1] (mW X.E ad S) (fun rv w => rv = some (.int r) ∧ w = mW X.E ad S2)) (hd : d < dX) (hc : ce ≤ mcX) (hs : sl ≤ msX) (hcat : (st.map fun v => v.category).sum ≤ 8) (hdg : decode cc pc = .ok (.invokevirtual 103, 3)) (kk : G X nL ce sl (pc + 3) lv (.int r :: st) (mW X.E ad S2)) : G X nL ce sl pc lv (.int a1 :: .ref (ad 0) :: st) (mW X.E ad S) :=
  g_eqW (app1 _) (g_callV (pre := []) (mid := mW X.E ad S) (post := []) [.int a1] hX hq kw_RX12_X12_floorOf hM (fun _ h => absurd h List.not_mem_nil) hd hc hs rfl (Recv.of 0 12 rfl rfl) rfl hcat hdg (fun rv ws2 hp => by obtain ⟨rfl, rfl⟩ := hp; exact g_eqW (app1 _).symm kk))
def f_X12_worldStory_4 : Nat → Int32 → Int32 → MS → Option (Int32 × MS)
  | 0 => fun _ _ _ => none
  | n + 1 => fun x1 x2 S =>
    let lp4 := f_X12_worldStory_4 n
    if (8 ≤ x2 : Prop) then
      some (x1, S)
    else
      gix x2 8 fun k2 =>
      bI (x1 + ((S.1 5 k2) * (2 - ((jshr (S.1 1 8) x2) &&& 1)))) fun v3 =>
      bI (x2 + 1) fun v4 =>
      lp4 v3 v4 S
def f_X12_worldStory (S : MS) : Option (Int32 × MS) :=
  f_X12_worldStory_4 100 0 0 S
set_option maxRecDepth 100000 in
set_option maxHeartbeats 4000000 in
theorem t_X12_worldStory_4 {X : Cx} {ad : Nat → Nat} {PostX : Option Value → va_W → Prop} (hX : Ok X cX12_worldStory 3 RX12) (hq : Rq X 0 0 0 (some .int) PostX) {u : (Int32 × MS)} (hp : PostX (some (.int u.1)) (mW X.E ad u.2)) : ∀ (n : Nat) (x1 : Int32) (x2 : Int32) (S : MS), f_X12_worldStory_4 n x1 x2 S = some u → G X 3 0 0 4 [(0, .ref (ad 0)), (1, .int x1), (2, .int x2)] [] (mW X.E ad S) := by
  intro n
  induction n with
  | zero => intro _ _ _ hf; unfold f_X12_worldStory_4 at hf; cases hf
  | succ n hlp4 =>
  intro x1 x2 S hf
  unfold f_X12_worldStory_4 at hf
  refine g_iloadn hX 2 rfl rfl dX12_worldStory_4 ?_
  refine g_bipush hX (v := 8) (by decide) dX12_worldStory_5 ?_
  refine g_icmp_ge hX 39 (by decide) dX12_worldStory_7 (fun c1 => ?_) (fun c1 => ?_)
  · have hf := ite_t c1 hf
    refine g_iloadn hX 1 rfl rfl dX12_worldStory_39 ?_
    obtain rfl := oi hf
    exact g_iret hX hq (by decide) (by decide) hp dX12_worldStory_40
  · have hf := ite_f c1 hf
    refine g_iloadn hX 1 rfl rfl dX12_worldStory_10 ?_
    refine g_aloadn hX 0 rfl rfl dX12_worldStory_11 ?_
    refine mg_power hX dX12_worldStory_12 ?_
    refine g_iloadn hX 2 rfl rfl dX12_worldStory_15 ?_
    obtain ⟨k2, jk2, ik2, hf⟩ := gix_open hf
    refine ml_power hX ik2 k2 jk2 (v := S.1 5 k2) rfl dX12_worldStory_16 ?_
    refine g_iconst hX (v := 2) (by decide) dX12_worldStory_17 ?_
    refine g_aloadn hX 0 rfl rfl dX12_worldStory_18 ?_
    refine mg_row hX dX12_worldStory_19 ?_
    refine g_bipush hX (v := 8) (by decide) dX12_worldStory_22 ?_
    refine ml_row hX (vpc (by decide)) 8 (by decide) (v := S.1 1 8) rfl dX12_worldStory_24 ?_
    refine g_iloadn hX 2 rfl rfl dX12_worldStory_25 ?_
    refine g_jshr hX dX12_worldStory_26 ?_
    refine g_iconst hX (v := 1) (by decide) dX12_worldStory_27 ?_
    refine g_iand hX dX12_worldStory_28 ?_
    refine g_isub hX dX12_worldStory_29 ?_
    refine g_imul hX dX12_worldStory_30 ?_
    refine g_iadd hX dX12_worldStory_31 ?_
    obtain ⟨v3, ev3, hf⟩ := bI_open hf
    refine g_nm ev3 ?_
    refine g_istoren hX [(1, .int v3), (0, .ref (ad 0)), (2, .int x2)] rfl (by decide) rfl dX12_worldStory_32 ?_
    obtain ⟨v4, ev4, hf⟩ := bI_open hf
    refine g_iinc hX 2 (v := v4) [(2, .int v4), (1, .int v3), (0, .ref (ad 0))] rfl (by rw [ev4]; rfl) (by decide) rfl dX12_worldStory_33 ?_
    refine g_goto hX 4 (by decide) dX12_worldStory_36 ?_
    refine g_lv [2, 1, 0] rfl ?_
    exact hlp4 _ _ _ hf
set_option maxRecDepth 100000 in
set_option maxHeartbeats 4000000 in
theorem t_X12_worldStory_0 {X : Cx} {ad : Nat → Nat} {PostX : Option Value → va_W → Prop} (hX : Ok X cX12_worldStory 3 RX12) (hq : Rq X 0 0 0 (some .int) PostX) {u : (Int32 × MS)} (hp : PostX (some (.int u.1)) (mW X.E ad u.2)) (S : MS) (hf : f_X12_worldStory S = some u) : G X 3 0 0 0 [(0, .ref (ad 0))] [] (mW X.E ad S) := by
  unfold f_X12_worldStory at hf
  refine g_iconst hX (v := 0) (by decide) dX12_worldStory_0 ?_
  refine g_istoren hX [(1, .int 0), (0, .ref (ad 0))] rfl (by decide) rfl dX12_worldStory_1 ?_
  refine g_iconst hX (v := 0) (by decide) dX12_worldStory_2 ?_
  refine g_istoren hX [(2, .int 0), (1, .int 0), (0, .ref (ad 0))] rfl (by decide) rfl dX12_worldStory_3 ?_
  refine g_lv [2, 1, 0] rfl ?_
  exact t_X12_worldStory_4 hX hq hp _ _ _ _ hf
theorem c_X12_worldStory {l : Launch} {E : En} {ad : Nat → Nat} {r : Int32} {S S2 : MS} (hf : f_X12_worldStory S = some (r, S2)) : CP l E yX12_worldStory cX12_worldStory 3 (some .int) 0 0 0 [] [.ref (ad 0)] (mW E ad S) (fun rv w => rv = some (.int r) ∧ w = mW E ad S2) :=
  CP.of (lv := [(0, .ref (ad 0))]) (by decide +kernel) (Nat.le_of_ble_eq_true rfl) rfl (fun X hl hE hro hX hq hn => by subst hl; subst hE; exact t_X12_worldStory_0 hX hq ⟨rfl, rfl⟩ S hf)
theorem kw_RX12_X12_worldStory : KwV RX12 106 RX12 yX12_worldStory cX12_worldStory 3 (some .int) 0 := ⟨mem_wsV wd_5_187 wd_5_189 wd_s_38 wd_1_19 wd_5_190, rfl, ⟨by decide +kernel, by decide +kernel, by decide +kernel⟩, by decide⟩
theorem k_X12_worldStory {X : Cx} {cc : ByteArray} {nL ce sl pc : Nat} {lv : List (Nat × Value)} {st : List Value} {dX mcX msX : Nat} {retX : Option FieldType} {PostX : Option Value → va_W → Prop} {ad : Nat → Nat} {S S2 : MS} {d : Nat} (hX : Ok X cc nL RX12) (hq : Rq X dX mcX msX retX PostX) {r : Int32} (hM : CP X.l X.E yX12_worldStory cX12_worldStory 3 (some .int) d 0 0 [] [.ref (ad 0)] (mW X.E ad S) (fun rv w => rv = some (.int r) ∧ w = mW X.E ad S2)) (hd : d < dX) (hc : ce ≤ mcX) (hs : sl ≤ msX) (hcat : (st.map fun v => v.category).sum ≤ 8) (hdg : decode cc pc = .ok (.invokevirtual 106, 3)) (kk : G X nL ce sl (pc + 3) lv (.int r :: st) (mW X.E ad S2)) : G X nL ce sl pc lv (.ref (ad 0) :: st) (mW X.E ad S) :=
  g_eqW (app1 _) (g_callV (pre := []) (mid := mW X.E ad S) (post := []) [] hX hq kw_RX12_X12_worldStory hM (fun _ h => absurd h List.not_mem_nil) hd hc hs rfl (Recv.of 0 12 rfl rfl) rfl hcat hdg (fun rv ws2 hp => by obtain ⟨rfl, rfl⟩ := hp; exact g_eqW (app1 _).symm kk))
def f_X12_isTrue_47 (lp5 : Int32 → Int32 → Int32 → Int32 → MS → Option (Int32 × MS)) (x1 : Int32) (x2 : Int32) (x4 : Int32) (y0 : Int32) (S : MS) : Option (Int32 × MS) :=
  bI (x4 + 1) fun v7 =>
  lp5 x1 x2 y0 v7 S
def f_X12_isTrue_42 (lp5 : Int32 → Int32 → Int32 → Int32 → MS → Option (Int32 × MS)) (x1 : Int32) (x2 : Int32) (x4 : Int32) (S : MS) : Option (Int32 × MS) :=
  f_X12_isTrue_47 lp5 x1 x2 x4 1 S
def f_X12_isTrue_46 (lp5 : Int32 → Int32 → Int32 → Int32 → MS → Option (Int32 × MS)) (x1 : Int32) (x2 : Int32) (x4 : Int32) (S : MS) : Option (Int32 × MS) :=
  f_X12_isTrue_47 lp5 x1 x2 x4 0 S
def f_X12_isTrue_5 : Nat → Int32 → Int32 → Int32 → Int32 → MS → Option (Int32 × MS)
  | 0 => fun _ _ _ _ _ => none
  | n + 1 => fun x1 x2 x3 x4 S =>
    let lp5 := f_X12_isTrue_5 n
    if (8 ≤ x4 : Prop) then
      gz x3 <| some (x3, S)
    else
      cb (f_X12_saying x1 x4 S) fun r5 S3 =>
      if (x3 = 0 : Prop) then
        f_X12_isTrue_46 lp5 x1 x2 x4 S3
      else
        if (r5 = 0 : Prop) then
          f_X12_isTrue_42 lp5 x1 x2 x4 S3
        else
          cb (f_X12_saying x2 x4 S3) fun r11 S9 =>
          if (r5 = r11 : Prop) then
            f_X12_isTrue_42 lp5 x1 x2 x4 S9
          else
            f_X12_isTrue_46 lp5 x1 x2 x4 S9
def f_X12_isTrue (a1 : Int32) (a2 : Int32) (S : MS) : Option (Int32 × MS) :=
  f_X12_isTrue_5 100 a1 a2 1 0 S
set_option maxRecDepth 100000 in
set_option maxHeartbeats 4000000 in
theorem t_X12_isTrue_47 {X : Cx} {ad : Nat → Nat} {PostX : Option Value → va_W → Prop} (hX : Ok X cX12_isTrue 6 RX12) (hq : Rq X 1 0 0 (some .boolean) PostX) {u : (Int32 × MS)} (hp : PostX (some (.int u.1)) (mW X.E ad u.2)) {lp5 : Int32 → Int32 → Int32 → Int32 → MS → Option (Int32 × MS)} (hlp5 : ∀ (x1 : Int32) (x2 : Int32) (x3 : Int32) (x4 : Int32) (S : MS), lp5 x1 x2 x3 x4 S = some u → G X 6 0 0 5 [(0, .ref (ad 0)), (1, .int x1), (2, .int x2), (3, .int x3), (4, .int x4)] [] (mW X.E ad S)) (x1 : Int32) (x2 : Int32) (x4 : Int32) (y0 : Int32) (S : MS) (hf : f_X12_isTrue_47 lp5 x1 x2 x4 y0 S = some u) : G X 6 0 0 47 [(0, .ref (ad 0)), (1, .int x1), (2, .int x2), (4, .int x4)] [.int y0] (mW X.E ad S) := by
  unfold f_X12_isTrue_47 at hf
  refine g_istoren hX [(3, .int y0), (0, .ref (ad 0)), (1, .int x1), (2, .int x2), (4, .int x4)] rfl (by decide) rfl dX12_isTrue_47 ?_
  obtain ⟨v7, ev7, hf⟩ := bI_open hf
  refine g_iinc hX 4 (v := v7) [(4, .int v7), (3, .int y0), (0, .ref (ad 0)), (1, .int x1), (2, .int x2)] rfl (by rw [ev7]; rfl) (by decide) rfl dX12_isTrue_48 ?_
  refine g_goto hX 5 (by decide) dX12_isTrue_51 ?_
  refine g_lv [2, 3, 4, 1, 0] rfl ?_
  exact hlp5 _ _ _ _ _ hf
set_option maxRecDepth 100000 in
set_option maxHeartbeats 4000000 in
theorem t_X12_isTrue_42 {X : Cx} {ad : Nat → Nat} {PostX : Option Value → va_W → Prop} (hX : Ok X cX12_isTrue 6 RX12) (hq : Rq X 1 0 0 (some .boolean) PostX) {u : (Int32 × MS)} (hp : PostX (some (.int u.1)) (mW X.E ad u.2)) {lp5 : Int32 → Int32 → Int32 → Int32 → MS → Option (Int32 × MS)} (hlp5 : ∀ (x1 : Int32) (x2 : Int32) (x3 : Int32) (x4 : Int32) (S : MS), lp5 x1 x2 x3 x4 S = some u → G X 6 0 0 5 [(0, .ref (ad 0)), (1, .int x1), (2, .int x2), (3, .int x3), (4, .int x4)] [] (mW X.E ad S)) (x1 : Int32) (x2 : Int32) (x4 : Int32) (S : MS) (hf : f_X12_isTrue_42 lp5 x1 x2 x4 S = some u) : G X 6 0 0 42 [(0, .ref (ad 0)), (1, .int x1), (2, .int x2), (4, .int x4)] [] (mW X.E ad S) := by
  unfold f_X12_isTrue_42 at hf
  refine g_iconst hX (v := 1) (by decide) dX12_isTrue_42 ?_
  refine g_goto hX 47 (by decide) dX12_isTrue_43 ?_
  exact t_X12_isTrue_47 hX hq hp hlp5 _ _ _ _ _ hf
set_option maxRecDepth 100000 in
set_option maxHeartbeats 4000000 in
theorem t_X12_isTrue_46 {X : Cx} {ad : Nat → Nat} {PostX : Option Value → va_W → Prop} (hX : Ok X cX12_isTrue 6 RX12) (hq : Rq X 1 0 0 (some .boolean) PostX) {u : (Int32 × MS)} (hp : PostX (some (.int u.1)) (mW X.E ad u.2)) {lp5 : Int32 → Int32 → Int32 → Int32 → MS → Option (Int32 × MS)} (hlp5 : ∀ (x1 : Int32) (x2 : Int32) (x3 : Int32) (x4 : Int32) (S : MS), lp5 x1 x2 x3 x4 S = some u → G X 6 0 0 5 [(0, .ref (ad 0)), (1, .int x1), (2, .int x2), (3, .int x3), (4, .int x4)] [] (mW X.E ad S)) (x1 : Int32) (x2 : Int32) (x4 : Int32) (S : MS) (hf : f_X12_isTrue_46 lp5 x1 x2 x4 S = some u) : G X 6 0 0 46 [(0, .ref (ad 0)), (1, .int x1), (2, .int x2), (4, .int x4)] [] (mW X.E ad S) := by
  unfold f_X12_isTrue_46 at hf
  refine g_iconst hX (v := 0) (by decide) dX12_isTrue_46 ?_
  exact t_X12_isTrue_47 hX hq hp hlp5 _ _ _ _ _ hf
set_option maxRecDepth 100000 in
set_option maxHeartbeats 4000000 in
theorem t_X12_isTrue_5 {X : Cx} {ad : Nat → Nat} {PostX : Option Value → va_W → Prop} (hX : Ok X cX12_isTrue 6 RX12) (hq : Rq X 1 0 0 (some .boolean) PostX) {u : (Int32 × MS)} (hp : PostX (some (.int u.1)) (mW X.E ad u.2)) : ∀ (n : Nat) (x1 : Int32) (x2 : Int32) (x3 : Int32) (x4 : Int32) (S : MS), f_X12_isTrue_5 n x1 x2 x3 x4 S = some u → G X 6 0 0 5 [(0, .ref (ad 0)), (1, .int x1), (2, .int x2), (3, .int x3), (4, .int x4)] [] (mW X.E ad S) := by
  intro n
  induction n with
  | zero => intro _ _ _ _ _ hf; unfold f_X12_isTrue_5 at hf; cases hf
  | succ n hlp5 =>
  intro x1 x2 x3 x4 S hf
  unfold f_X12_isTrue_5 at hf
  refine g_iload hX 4 rfl dX12_isTrue_5 ?_
  refine g_bipush hX (v := 8) (by decide) dX12_isTrue_7 ?_
  refine g_icmp_ge hX 54 (by decide) dX12_isTrue_9 (fun c1 => ?_) (fun c1 => ?_)
  · have hf := ite_t c1 hf
    refine g_iloadn hX 3 rfl rfl dX12_isTrue_54 ?_
    obtain ⟨h2, hf⟩ := gz_open hf
    obtain rfl := oi hf
    exact g_zret hX hq (by decide) (by decide) (nar_z h2) hp dX12_isTrue_55
  · have hf := ite_f c1 hf
    refine g_aloadn hX 0 rfl rfl dX12_isTrue_12 ?_
    refine g_iloadn hX 1 rfl rfl dX12_isTrue_13 ?_
    refine g_iload hX 4 rfl dX12_isTrue_14 ?_
    obtain ⟨r5, S3, h4, hf⟩ := cb_open hf
    refine k_X12_saying hX hq (c_X12_saying h4) (by decide) (by decide) (by decide) (Nat.le_of_ble_eq_true rfl) dX12_isTrue_16 ?_
    refine g_istore hX [(5, .int r5), (0, .ref (ad 0)), (1, .int x1), (2, .int x2), (3, .int x3), (4, .int x4)] (by decide) rfl dX12_isTrue_19 ?_
    refine g_iloadn hX 4 rfl rfl dX12_isTrue_21 ?_
    refine g_if_eq hX 46 (by decide) dX12_isTrue_22 (fun c6 => ?_) (fun c6 => ?_)
    · have hf := ite_t c6 hf
      refine g_lv [1, 2, 3, 5] rfl ?_
      exact t_X12_isTrue_46 hX hq hp hlp5 _ _ _ _ hf
    · have hf := ite_f c6 hf
      refine g_iload hX 0 rfl dX12_isTrue_25 ?_
      refine g_if_eq hX 42 (by decide) dX12_isTrue_27 (fun c8 => ?_) (fun c8 => ?_)
      · have hf := ite_t c8 hf
        refine g_lv [1, 2, 3, 5] rfl ?_
        exact t_X12_isTrue_42 hX hq hp hlp5 _ _ _ _ hf
      · have hf := ite_f c8 hf
        refine g_iload hX 0 rfl dX12_isTrue_30 ?_
        refine g_aloadn hX 1 rfl rfl dX12_isTrue_32 ?_
        refine g_iloadn hX 3 rfl rfl dX12_isTrue_33 ?_
        refine g_iload hX 5 rfl dX12_isTrue_34 ?_
        obtain ⟨r11, S9, h10, hf⟩ := cb_open hf
        refine k_X12_saying hX hq (c_X12_saying h10) (by decide) (by decide) (by decide) (Nat.le_of_ble_eq_true rfl) dX12_isTrue_36 ?_
        refine g_icmp_ne hX 46 (by decide) dX12_isTrue_39 (fun c12 => ?_) (fun c12 => ?_)
        · have hf := ite_f c12 hf
          refine g_lv [1, 2, 3, 5] rfl ?_
          exact t_X12_isTrue_46 hX hq hp hlp5 _ _ _ _ hf
        · have hf := ite_t c12 hf
          refine g_lv [1, 2, 3, 5] rfl ?_
          exact t_X12_isTrue_42 hX hq hp hlp5 _ _ _ _ hf
set_option maxRecDepth 100000 in
set_option maxHeartbeats 4000000 in
theorem t_X12_isTrue_0 {X : Cx} {ad : Nat → Nat} {PostX : Option Value → va_W → Prop} (hX : Ok X cX12_isTrue 6 RX12) (hq : Rq X 1 0 0 (some .boolean) PostX) {u : (Int32 × MS)} (hp : PostX (some (.int u.1)) (mW X.E ad u.2)) (a1 : Int32) (a2 : Int32) (S : MS) (hf : f_X12_isTrue a1 a2 S = some u) : G X 6 0 0 0 [(0, .ref (ad 0)), (1, .int a1), (2, .int a2)] [] (mW X.E ad S) := by
  unfold f_X12_isTrue at hf
  refine g_iconst hX (v := 1) (by decide) dX12_isTrue_0 ?_
  refine g_istoren hX [(3, .int 1), (0, .ref (ad 0)), (1, .int a1), (2, .int a2)] rfl (by decide) rfl dX12_isTrue_1 ?_
  refine g_iconst hX (v := 0) (by decide) dX12_isTrue_2 ?_
  refine g_istore hX [(4, .int 0), (3, .int 1), (0, .ref (ad 0)), (1, .int a1), (2, .int a2)] (by decide) rfl dX12_isTrue_3 ?_
  refine g_lv [2, 3, 4, 1, 0] rfl ?_
  exact t_X12_isTrue_5 hX hq hp _ _ _ _ _ _ hf
theorem c_X12_isTrue {l : Launch} {E : En} {ad : Nat → Nat} {a1 : Int32} {a2 : Int32} {r : Int32} {S S2 : MS} (hf : f_X12_isTrue a1 a2 S = some (r, S2)) : CP l E yX12_isTrue cX12_isTrue 6 (some .boolean) 1 0 0 [] [.ref (ad 0), .int a1, .int a2] (mW E ad S) (fun rv w => rv = some (.int r) ∧ w = mW E ad S2) :=
  CP.of (lv := [(0, .ref (ad 0)), (1, .int a1), (2, .int a2)]) (by decide +kernel) (Nat.le_of_ble_eq_true rfl) rfl (fun X hl hE hro hX hq hn => by subst hl; subst hE; exact t_X12_isTrue_0 hX hq ⟨rfl, rfl⟩ a1 a2 S hf)
theorem kw_RX12_X12_isTrue : KwV RX12 109 RX12 yX12_isTrue cX12_isTrue 6 (some .boolean) 2 := ⟨mem_wsV wd_5_191 wd_5_193 wd_s_39 wd_1_19 wd_5_194, rfl, ⟨by decide +kernel, by decide +kernel, by decide +kernel⟩, by decide⟩
theorem k_X12_isTrue {X : Cx} {cc : ByteArray} {nL ce sl pc : Nat} {lv : List (Nat × Value)} {st : List Value} {dX mcX msX : Nat} {retX : Option FieldType} {PostX : Option Value → va_W → Prop} {ad : Nat → Nat} {S S2 : MS} {d : Nat} (hX : Ok X cc nL RX12) (hq : Rq X dX mcX msX retX PostX) {a1 : Int32} {a2 : Int32} {r : Int32} (hM : CP X.l X.E yX12_isTrue cX12_isTrue 6 (some .boolean) d 0 0 [] [.ref (ad 0), .int a1, .int a2] (mW X.E ad S) (fun rv w => rv = some (.int r) ∧ w = mW X.E ad S2)) (hd : d < dX) (hc : ce ≤ mcX) (hs : sl ≤ msX) (hcat : (st.map fun v => v.category).sum ≤ 8) (hdg : decode cc pc = .ok (.invokevirtual 109, 3)) (kk : G X nL ce sl (pc + 3) lv (.int r :: st) (mW X.E ad S2)) : G X nL ce sl pc lv (.int a2 :: .int a1 :: .ref (ad 0) :: st) (mW X.E ad S) :=
  g_eqW (app1 _) (g_callV (pre := []) (mid := mW X.E ad S) (post := []) [.int a1, .int a2] hX hq kw_RX12_X12_isTrue hM (fun _ h => absurd h List.not_mem_nil) hd hc hs rfl (Recv.of 0 12 rfl rfl) rfl hcat hdg (fun rv ws2 hp => by obtain ⟨rfl, rfl⟩ := hp; exact g_eqW (app1 _).symm kk))
def f_X12_ofRider_18 (S : MS) : Option (Int32 × MS) :=
  cb (f_X12_errs (-1000000001) S) fun r7 S5 =>
  some (r7, S5)
def f_X12_ofRider (a1 : Int32) (a2 : Int32) (S : MS) : Option (Int32 × MS) :=
  cb (f_X12_isRider a1 S) fun r3 S1 =>
  if (r3 = 0 : Prop) then
    f_X12_ofRider_18 S1
  else
    cs (f_X12_in a2 0 9) fun r8 =>
    if (r8 = 0 : Prop) then
      f_X12_ofRider_18 S1
    else
      cb (f_X12_its a1 2 S1) fun r13 S11 =>
      cb (f_X12_weigh r13 S11) fun _ S14 =>
      if (a2 = 3 : Prop) then
        some ((((S14.2 2) + (S14.2 3)) + (S14.2 4)), S14)
      else
      if (a2 = 4 : Prop) then
        some ((S14.2 2), S14)
      else
      if (a2 = 5 : Prop) then
        some ((S14.2 3), S14)
      else
      if (a2 = 6 : Prop) then
        some ((S14.2 4), S14)
      else
      if (a2 = 7 : Prop) then
        cb (f_X12_creditOf a1 r13 S14) fun r24 S22 =>
        some (r24, S22)
      else
      if (a2 = 8 : Prop) then
        cb (f_X12_floorOf a1 S14) fun r28 S26 =>
        some (r28, S26)
      else
      if (a2 = 9 : Prop) then
        cb (f_X12_worldStory S14) fun r32 S30 =>
        cb (f_X12_isTrue r13 r32 S30) fun r35 S33 =>
        if (r35 = 0 : Prop) then
          some (0, S33)
        else
          some (1, S33)
      else
      cb (f_X12_its a1 a2 S14) fun r39 S37 =>
      some (r39, S37)
set_option maxRecDepth 100000 in
set_option maxHeartbeats 4000000 in
theorem t_X12_ofRider_18 {X : Cx} {ad : Nat → Nat} {PostX : Option Value → va_W → Prop} (hX : Ok X cX12_ofRider 4 RX12) (hq : Rq X 71 0 0 (some .int) PostX) {u : (Int32 × MS)} (hp : PostX (some (.int u.1)) (mW X.E ad u.2)) (S : MS) (hf : f_X12_ofRider_18 S = some u) : G X 4 0 0 18 [(0, .ref (ad 0))] [] (mW X.E ad S) := by
  unfold f_X12_ofRider_18 at hf
  refine g_aloadn hX 0 rfl rfl dX12_ofRider_18 ?_
  refine g_ldc hX (v := (-1000000001)) wd_5_74 dX12_ofRider_19 ?_
  obtain ⟨r7, S5, h6, hf⟩ := cb_open hf
  refine k_X12_errs hX hq (c_X12_errs h6) (by decide) (by decide) (by decide) (Nat.le_of_ble_eq_true rfl) dX12_ofRider_21 ?_
  obtain rfl := oi hf
  exact g_iret hX hq (by decide) (by decide) hp dX12_ofRider_24
set_option maxRecDepth 100000 in
set_option maxHeartbeats 4000000 in
theorem t_X12_ofRider_0 {X : Cx} {ad : Nat → Nat} {PostX : Option Value → va_W → Prop} (hX : Ok X cX12_ofRider 4 RX12) (hq : Rq X 71 0 0 (some .int) PostX) {u : (Int32 × MS)} (hp : PostX (some (.int u.1)) (mW X.E ad u.2)) (a1 : Int32) (a2 : Int32) (S : MS) (hf : f_X12_ofRider a1 a2 S = some u) : G X 4 0 0 0 [(0, .ref (ad 0)), (1, .int a1), (2, .int a2)] [] (mW X.E ad S) := by
  unfold f_X12_ofRider at hf
  refine g_aloadn hX 0 rfl rfl dX12_ofRider_0 ?_
  refine g_iloadn hX 1 rfl rfl dX12_ofRider_1 ?_
  obtain ⟨r3, S1, h2, hf⟩ := cb_open hf
  refine k_X12_isRider hX hq (c_X12_isRider h2) (by decide) (by decide) (by decide) (Nat.le_of_ble_eq_true rfl) dX12_ofRider_2 ?_
  refine g_if_eq hX 18 (by decide) dX12_ofRider_5 (fun c4 => ?_) (fun c4 => ?_)
  · have hf := ite_t c4 hf
    refine g_lv [0] rfl ?_
    exact t_X12_ofRider_18 hX hq hp _ hf
  · have hf := ite_f c4 hf
    refine g_iloadn hX 2 rfl rfl dX12_ofRider_8 ?_
    refine g_iconst hX (v := 0) (by decide) dX12_ofRider_9 ?_
    refine g_bipush hX (v := 9) (by decide) dX12_ofRider_10 ?_
    obtain ⟨r8, h9, hf⟩ := cs_open hf
    refine k_RX12_X12_in hX hq h9 (by decide) (by decide) (by decide) (Nat.le_of_ble_eq_true rfl) dX12_ofRider_12 ?_
    refine g_if_ne hX 25 (by decide) dX12_ofRider_15 (fun c10 => ?_) (fun c10 => ?_)
    · have hf := ite_f c10 hf
      refine g_aloadn hX 0 rfl rfl dX12_ofRider_25 ?_
      refine g_iloadn hX 1 rfl rfl dX12_ofRider_26 ?_
      refine g_iconst hX (v := 2) (by decide) dX12_ofRider_27 ?_
      obtain ⟨r13, S11, h12, hf⟩ := cb_open hf
      refine k_X12_its hX hq (c_X12_its h12) (by decide) (by decide) (by decide) (Nat.le_of_ble_eq_true rfl) dX12_ofRider_28 ?_
      refine g_istoren hX [(3, .int r13), (0, .ref (ad 0)), (1, .int a1), (2, .int a2)] rfl (by decide) rfl dX12_ofRider_31 ?_
      refine g_aloadn hX 1 rfl rfl dX12_ofRider_32 ?_
      refine g_iloadn hX 0 rfl rfl dX12_ofRider_33 ?_
      obtain ⟨z16, S14, h15, hf⟩ := cb_open hf
      refine k_X12_weigh hX hq (c_X12_weigh h15) (by decide) (by decide) (by decide) (Nat.le_of_ble_eq_true rfl) dX12_ofRider_34 ?_
      refine g_iloadn hX 3 rfl rfl dX12_ofRider_37 ?_
      by_cases c17 : a2 = 3
      · have hf := ite_t c17 hf
        refine g_tsin hX 80 c17 (by decide) (by rfl) (by decide) dX12_ofRider_38 ?_
        refine g_aloadn hX 1 rfl rfl dX12_ofRider_80 ?_
        refine mg_as hX (v := S14.2 2) rfl dX12_ofRider_81 ?_
        refine g_aloadn hX 1 rfl rfl dX12_ofRider_84 ?_
        refine mg_other hX (v := S14.2 3) rfl dX12_ofRider_85 ?_
        refine g_iadd hX dX12_ofRider_88 ?_
        refine g_aloadn hX 1 rfl rfl dX12_ofRider_89 ?_
        refine mg_fresh hX (v := S14.2 4) rfl dX12_ofRider_90 ?_
        refine g_iadd hX dX12_ofRider_93 ?_
        obtain rfl := oi hf
        exact g_iret hX hq (by decide) (by decide) hp dX12_ofRider_94
      have hf := ite_f c17 hf
      by_cases c18 : a2 = 4
      · have hf := ite_t c18 hf
        refine g_tsin hX 95 c18 (by decide) (by rfl) (by decide) dX12_ofRider_38 ?_
        refine g_aloadn hX 1 rfl rfl dX12_ofRider_95 ?_
        refine mg_as hX (v := S14.2 2) rfl dX12_ofRider_96 ?_
        obtain rfl := oi hf
        exact g_iret hX hq (by decide) (by decide) hp dX12_ofRider_99
      have hf := ite_f c18 hf
      by_cases c19 : a2 = 5
      · have hf := ite_t c19 hf
        refine g_tsin hX 100 c19 (by decide) (by rfl) (by decide) dX12_ofRider_38 ?_
        refine g_aloadn hX 1 rfl rfl dX12_ofRider_100 ?_
        refine mg_other hX (v := S14.2 3) rfl dX12_ofRider_101 ?_
        obtain rfl := oi hf
        exact g_iret hX hq (by decide) (by decide) hp dX12_ofRider_104
      have hf := ite_f c19 hf
      by_cases c20 : a2 = 6
      · have hf := ite_t c20 hf
        refine g_tsin hX 105 c20 (by decide) (by rfl) (by decide) dX12_ofRider_38 ?_
        refine g_aloadn hX 1 rfl rfl dX12_ofRider_105 ?_
        refine mg_fresh hX (v := S14.2 4) rfl dX12_ofRider_106 ?_
        obtain rfl := oi hf
        exact g_iret hX hq (by decide) (by decide) hp dX12_ofRider_109
      have hf := ite_f c20 hf
      by_cases c21 : a2 = 7
      · have hf := ite_t c21 hf
        refine g_tsin hX 110 c21 (by decide) (by rfl) (by decide) dX12_ofRider_38 ?_
        refine g_aloadn hX 1 rfl rfl dX12_ofRider_110 ?_
        refine g_iloadn hX 2 rfl rfl dX12_ofRider_111 ?_
        refine g_iloadn hX 0 rfl rfl dX12_ofRider_112 ?_
        obtain ⟨r24, S22, h23, hf⟩ := cb_open hf
        refine k_X12_creditOf hX hq (c_X12_creditOf h23) (by decide) (by decide) (by decide) (Nat.le_of_ble_eq_true rfl) dX12_ofRider_113 ?_
        obtain rfl := oi hf
        exact g_iret hX hq (by decide) (by decide) hp dX12_ofRider_116
      have hf := ite_f c21 hf
      by_cases c25 : a2 = 8
      · have hf := ite_t c25 hf
        refine g_tsin hX 117 c25 (by decide) (by rfl) (by decide) dX12_ofRider_38 ?_
        refine g_aloadn hX 1 rfl rfl dX12_ofRider_117 ?_
        refine g_iloadn hX 2 rfl rfl dX12_ofRider_118 ?_
        obtain ⟨r28, S26, h27, hf⟩ := cb_open hf
        refine k_X12_floorOf hX hq (c_X12_floorOf h27) (by decide) (by decide) (by decide) (Nat.le_of_ble_eq_true rfl) dX12_ofRider_119 ?_
        obtain rfl := oi hf
        exact g_iret hX hq (by decide) (by decide) hp dX12_ofRider_122
      have hf := ite_f c25 hf
      by_cases c29 : a2 = 9
      · have hf := ite_t c29 hf
        refine g_tsin hX 123 c29 (by decide) (by rfl) (by decide) dX12_ofRider_38 ?_
        refine g_aloadn hX 1 rfl rfl dX12_ofRider_123 ?_
        refine g_iloadn hX 0 rfl rfl dX12_ofRider_124 ?_
        refine g_aloadn hX 1 rfl rfl dX12_ofRider_125 ?_
        obtain ⟨r32, S30, h31, hf⟩ := cb_open hf
        refine k_X12_worldStory hX hq (c_X12_worldStory h31) (by decide) (by decide) (by decide) (Nat.le_of_ble_eq_true rfl) dX12_ofRider_126 ?_
        obtain ⟨r35, S33, h34, hf⟩ := cb_open hf
        refine k_X12_isTrue hX hq (c_X12_isTrue h34) (by decide) (by decide) (by decide) (Nat.le_of_ble_eq_true rfl) dX12_ofRider_129 ?_
        refine g_if_eq hX 139 (by decide) dX12_ofRider_132 (fun c36 => ?_) (fun c36 => ?_)
        · have hf := ite_t c36 hf
          refine g_iconst hX (v := 0) (by decide) dX12_ofRider_139 ?_
          obtain rfl := oi hf
          exact g_iret hX hq (by decide) (by decide) hp dX12_ofRider_140
        · have hf := ite_f c36 hf
          refine g_iconst hX (v := 1) (by decide) dX12_ofRider_135 ?_
          refine g_goto hX 140 (by decide) dX12_ofRider_136 ?_
          obtain rfl := oi hf
          exact g_iret hX hq (by decide) (by decide) hp dX12_ofRider_140
      have hf := ite_f c29 hf
      refine g_tsout hX 141 (tsw_out_3_9 c17 c18 c19 c20 c21 c25 c29) (by decide) dX12_ofRider_38 ?_
      refine g_aloadn hX 1 rfl rfl dX12_ofRider_141 ?_
      refine g_iloadn hX 2 rfl rfl dX12_ofRider_142 ?_
      refine g_iloadn hX 3 rfl rfl dX12_ofRider_143 ?_
      obtain ⟨r39, S37, h38, hf⟩ := cb_open hf
      refine k_X12_its hX hq (c_X12_its h38) (by decide) (by decide) (by decide) (Nat.le_of_ble_eq_true rfl) dX12_ofRider_144 ?_
      obtain rfl := oi hf
      exact g_iret hX hq (by decide) (by decide) hp dX12_ofRider_147
    · have hf := ite_t c10 hf
      refine g_lv [0] rfl ?_
      exact t_X12_ofRider_18 hX hq hp _ hf
theorem c_X12_ofRider {l : Launch} {E : En} {ad : Nat → Nat} {a1 : Int32} {a2 : Int32} {r : Int32} {S S2 : MS} (hf : f_X12_ofRider a1 a2 S = some (r, S2)) : CP l E yX12_ofRider cX12_ofRider 4 (some .int) 71 0 0 [] [.ref (ad 0), .int a1, .int a2] (mW E ad S) (fun rv w => rv = some (.int r) ∧ w = mW E ad S2) :=
  CP.of (lv := [(0, .ref (ad 0)), (1, .int a1), (2, .int a2)]) (by decide +kernel) (Nat.le_of_ble_eq_true rfl) rfl (fun X hl hE hro hX hq hn => by subst hl; subst hE; exact t_X12_ofRider_0 hX hq ⟨rfl, rfl⟩ a1 a2 S hf)
def f_X12_story_19 (S : MS) : Option (Int32 × MS) :=
  cb (f_X12_errs (-1000000001) S) fun r7 S5 =>
  some (r7, S5)
def f_X12_story (a1 : Int32) (a2 : Int32) (S : MS) : Option (Int32 × MS) :=
  cb (f_X12_isRider a1 S) fun r3 S1 =>
  if (r3 = 0 : Prop) then
    f_X12_story_19 S1
  else
    cs (f_X12_in a2 0 6560) fun r8 =>
    if (r8 = 0 : Prop) then
      f_X12_story_19 S1
    else
      cb (f_X12_its a1 2 S1) fun r13 S11 =>
      gix ((18 + (3 * a1)) + 2) 206 fun k14 =>
      some (r13, (sA S11 1 k14 a2))
set_option maxRecDepth 100000 in
set_option maxHeartbeats 4000000 in
theorem t_X12_story_19 {X : Cx} {ad : Nat → Nat} {PostX : Option Value → va_W → Prop} (hX : Ok X cX12_story 4 RX12) (hq : Rq X 2 0 0 (some .int) PostX) {u : (Int32 × MS)} (hp : PostX (some (.int u.1)) (mW X.E ad u.2)) (S : MS) (hf : f_X12_story_19 S = some u) : G X 4 0 0 19 [(0, .ref (ad 0))] [] (mW X.E ad S) := by
  unfold f_X12_story_19 at hf
  refine g_aloadn hX 0 rfl rfl dX12_story_19 ?_
  refine g_ldc hX (v := (-1000000001)) wd_5_74 dX12_story_20 ?_
  obtain ⟨r7, S5, h6, hf⟩ := cb_open hf
  refine k_X12_errs hX hq (c_X12_errs h6) (by decide) (by decide) (by decide) (Nat.le_of_ble_eq_true rfl) dX12_story_22 ?_
  obtain rfl := oi hf
  exact g_iret hX hq (by decide) (by decide) hp dX12_story_25
set_option maxRecDepth 100000 in
set_option maxHeartbeats 4000000 in
theorem t_X12_story_0 {X : Cx} {ad : Nat → Nat} {PostX : Option Value → va_W → Prop} (hX : Ok X cX12_story 4 RX12) (hq : Rq X 2 0 0 (some .int) PostX) {u : (Int32 × MS)} (hp : PostX (some (.int u.1)) (mW X.E ad u.2)) (a1 : Int32) (a2 : Int32) (S : MS) (hf : f_X12_story a1 a2 S = some u) : G X 4 0 0 0 [(0, .ref (ad 0)), (1, .int a1), (2, .int a2)] [] (mW X.E ad S) := by
  unfold f_X12_story at hf
  refine g_aloadn hX 0 rfl rfl dX12_story_0 ?_
  refine g_iloadn hX 1 rfl rfl dX12_story_1 ?_
  obtain ⟨r3, S1, h2, hf⟩ := cb_open hf
  refine k_X12_isRider hX hq (c_X12_isRider h2) (by decide) (by decide) (by decide) (Nat.le_of_ble_eq_true rfl) dX12_story_2 ?_
  refine g_if_eq hX 19 (by decide) dX12_story_5 (fun c4 => ?_) (fun c4 => ?_)
  · have hf := ite_t c4 hf
    refine g_lv [0] rfl ?_
    exact t_X12_story_19 hX hq hp _ hf
  · have hf := ite_f c4 hf
    refine g_iloadn hX 2 rfl rfl dX12_story_8 ?_
    refine g_iconst hX (v := 0) (by decide) dX12_story_9 ?_
    refine g_sipush hX (v := 6560) (by decide) dX12_story_10 ?_
    obtain ⟨r8, h9, hf⟩ := cs_open hf
    refine k_RX12_X12_in hX hq h9 (by decide) (by decide) (by decide) (Nat.le_of_ble_eq_true rfl) dX12_story_13 ?_
    refine g_if_ne hX 26 (by decide) dX12_story_16 (fun c10 => ?_) (fun c10 => ?_)
    · have hf := ite_f c10 hf
      refine g_aloadn hX 0 rfl rfl dX12_story_26 ?_
      refine g_iloadn hX 1 rfl rfl dX12_story_27 ?_
      refine g_iconst hX (v := 2) (by decide) dX12_story_28 ?_
      obtain ⟨r13, S11, h12, hf⟩ := cb_open hf
      refine k_X12_its hX hq (c_X12_its h12) (by decide) (by decide) (by decide) (Nat.le_of_ble_eq_true rfl) dX12_story_29 ?_
      refine g_istoren hX [(3, .int r13), (0, .ref (ad 0)), (1, .int a1), (2, .int a2)] rfl (by decide) rfl dX12_story_32 ?_
      refine g_aloadn hX 1 rfl rfl dX12_story_33 ?_
      refine mg_row hX dX12_story_34 ?_
      refine g_bipush hX (v := 18) (by decide) dX12_story_37 ?_
      refine g_iconst hX (v := 3) (by decide) dX12_story_39 ?_
      refine g_iloadn hX 2 rfl rfl dX12_story_40 ?_
      refine g_imul hX dX12_story_41 ?_
      refine g_iadd hX dX12_story_42 ?_
      refine g_iconst hX (v := 2) (by decide) dX12_story_43 ?_
      refine g_iadd hX dX12_story_44 ?_
      refine g_iloadn hX 3 rfl rfl dX12_story_45 ?_
      obtain ⟨k14, jk14, ik14, hf⟩ := gix_open hf
      refine ms_row hX ik14 k14 jk14 dX12_story_46 ?_
      refine g_iloadn hX 0 rfl rfl dX12_story_47 ?_
      obtain rfl := oi hf
      exact g_iret hX hq (by decide) (by decide) hp dX12_story_48
    · have hf := ite_t c10 hf
      refine g_lv [0] rfl ?_
      exact t_X12_story_19 hX hq hp _ hf
theorem c_X12_story {l : Launch} {E : En} {ad : Nat → Nat} {a1 : Int32} {a2 : Int32} {r : Int32} {S S2 : MS} (hf : f_X12_story a1 a2 S = some (r, S2)) : CP l E yX12_story cX12_story 4 (some .int) 2 0 0 [] [.ref (ad 0), .int a1, .int a2] (mW E ad S) (fun rv w => rv = some (.int r) ∧ w = mW E ad S2) :=
  CP.of (lv := [(0, .ref (ad 0)), (1, .int a1), (2, .int a2)]) (by decide +kernel) (Nat.le_of_ble_eq_true rfl) rfl (fun X hl hE hro hX hq hn => by subst hl; subst hE; exact t_X12_story_0 hX hq ⟨rfl, rfl⟩ a1 a2 S hf)
def f_X12_say_24 (S : MS) : Option (Int32 × MS) :=
  cb (f_X12_errs (-1000000001) S) fun r7 S5 =>
  some (r7, S5)
def f_X12_say (a1 : Int32) (a2 : Int32) (a3 : Int32) (S : MS) : Option (Int32 × MS) :=
  cb (f_X12_isRider a1 S) fun r3 S1 =>
  if (r3 = 0 : Prop) then
    f_X12_say_24 S1
  else
    cs (f_X12_isFact a2) fun r8 =>
    if (r8 = 0 : Prop) then
      f_X12_say_24 S1
    else
      cs (f_X12_in a3 0 2) fun r11 =>
      if (r11 = 0 : Prop) then
        f_X12_say_24 S1
      else
        cb (f_X12_its a1 2 S1) fun r16 S14 =>
        cb (f_X12_saying r16 a2 S14) fun r19 S17 =>
        bI ((18 + (3 * a1)) + 2) fun v20 =>
        gix v20 206 fun k21 =>
        gix a2 8 fun k22 =>
        bI ((S17.1 1 k21) + ((S17.1 5 k22) * (a3 - r19))) fun v23 =>
        gix v20 206 fun k24 =>
        some (r19, (sA S17 1 k24 v23))
set_option maxRecDepth 100000 in
set_option maxHeartbeats 4000000 in
theorem t_X12_say_24 {X : Cx} {ad : Nat → Nat} {PostX : Option Value → va_W → Prop} (hX : Ok X cX12_say 5 RX12) (hq : Rq X 2 0 0 (some .int) PostX) {u : (Int32 × MS)} (hp : PostX (some (.int u.1)) (mW X.E ad u.2)) (S : MS) (hf : f_X12_say_24 S = some u) : G X 5 0 0 24 [(0, .ref (ad 0))] [] (mW X.E ad S) := by
  unfold f_X12_say_24 at hf
  refine g_aloadn hX 0 rfl rfl dX12_say_24 ?_
  refine g_ldc hX (v := (-1000000001)) wd_5_74 dX12_say_25 ?_
  obtain ⟨r7, S5, h6, hf⟩ := cb_open hf
  refine k_X12_errs hX hq (c_X12_errs h6) (by decide) (by decide) (by decide) (Nat.le_of_ble_eq_true rfl) dX12_say_27 ?_
  obtain rfl := oi hf
  exact g_iret hX hq (by decide) (by decide) hp dX12_say_30
set_option maxRecDepth 100000 in
set_option maxHeartbeats 4000000 in
theorem t_X12_say_0 {X : Cx} {ad : Nat → Nat} {PostX : Option Value → va_W → Prop} (hX : Ok X cX12_say 5 RX12) (hq : Rq X 2 0 0 (some .int) PostX) {u : (Int32 × MS)} (hp : PostX (some (.int u.1)) (mW X.E ad u.2)) (a1 : Int32) (a2 : Int32) (a3 : Int32) (S : MS) (hf : f_X12_say a1 a2 a3 S = some u) : G X 5 0 0 0 [(0, .ref (ad 0)), (1, .int a1), (2, .int a2), (3, .int a3)] [] (mW X.E ad S) := by
  unfold f_X12_say at hf
  refine g_aloadn hX 0 rfl rfl dX12_say_0 ?_
  refine g_iloadn hX 1 rfl rfl dX12_say_1 ?_
  obtain ⟨r3, S1, h2, hf⟩ := cb_open hf
  refine k_X12_isRider hX hq (c_X12_isRider h2) (by decide) (by decide) (by decide) (Nat.le_of_ble_eq_true rfl) dX12_say_2 ?_
  refine g_if_eq hX 24 (by decide) dX12_say_5 (fun c4 => ?_) (fun c4 => ?_)
  · have hf := ite_t c4 hf
    refine g_lv [0] rfl ?_
    exact t_X12_say_24 hX hq hp _ hf
  · have hf := ite_f c4 hf
    refine g_iloadn hX 2 rfl rfl dX12_say_8 ?_
    obtain ⟨r8, h9, hf⟩ := cs_open hf
    refine k_RX12_X12_isFact hX hq h9 (by decide) (by decide) (by decide) (Nat.le_of_ble_eq_true rfl) dX12_say_9 ?_
    refine g_if_eq hX 24 (by decide) dX12_say_12 (fun c10 => ?_) (fun c10 => ?_)
    · have hf := ite_t c10 hf
      refine g_lv [0] rfl ?_
      exact t_X12_say_24 hX hq hp _ hf
    · have hf := ite_f c10 hf
      refine g_iloadn hX 3 rfl rfl dX12_say_15 ?_
      refine g_iconst hX (v := 0) (by decide) dX12_say_16 ?_
      refine g_iconst hX (v := 2) (by decide) dX12_say_17 ?_
      obtain ⟨r11, h12, hf⟩ := cs_open hf
      refine k_RX12_X12_in hX hq h12 (by decide) (by decide) (by decide) (Nat.le_of_ble_eq_true rfl) dX12_say_18 ?_
      refine g_if_ne hX 31 (by decide) dX12_say_21 (fun c13 => ?_) (fun c13 => ?_)
      · have hf := ite_f c13 hf
        refine g_aloadn hX 0 rfl rfl dX12_say_31 ?_
        refine g_aloadn hX 0 rfl rfl dX12_say_32 ?_
        refine g_iloadn hX 1 rfl rfl dX12_say_33 ?_
        refine g_iconst hX (v := 2) (by decide) dX12_say_34 ?_
        obtain ⟨r16, S14, h15, hf⟩ := cb_open hf
        refine k_X12_its hX hq (c_X12_its h15) (by decide) (by decide) (by decide) (Nat.le_of_ble_eq_true rfl) dX12_say_35 ?_
        refine g_iloadn hX 2 rfl rfl dX12_say_38 ?_
        obtain ⟨r19, S17, h18, hf⟩ := cb_open hf
        refine k_X12_saying hX hq (c_X12_saying h18) (by decide) (by decide) (by decide) (Nat.le_of_ble_eq_true rfl) dX12_say_39 ?_
        refine g_istore hX [(4, .int r19), (0, .ref (ad 0)), (1, .int a1), (2, .int a2), (3, .int a3)] (by decide) rfl dX12_say_42 ?_
        refine g_aloadn hX 1 rfl rfl dX12_say_44 ?_
        refine mg_row hX dX12_say_45 ?_
        refine g_bipush hX (v := 18) (by decide) dX12_say_48 ?_
        refine g_iconst hX (v := 3) (by decide) dX12_say_50 ?_
        refine g_iloadn hX 2 rfl rfl dX12_say_51 ?_
        refine g_imul hX dX12_say_52 ?_
        refine g_iadd hX dX12_say_53 ?_
        refine g_iconst hX (v := 2) (by decide) dX12_say_54 ?_
        refine g_iadd hX dX12_say_55 ?_
        obtain ⟨v20, ev20, hf⟩ := bI_open hf
        refine g_nm ev20 ?_
        refine g_dup2 hX rfl rfl dX12_say_56 ?_
        obtain ⟨k21, jk21, ik21, hf⟩ := gix_open hf
        refine ml_row hX ik21 k21 jk21 (v := S17.1 1 k21) rfl dX12_say_57 ?_
        refine g_aloadn hX 1 rfl rfl dX12_say_58 ?_
        refine mg_power hX dX12_say_59 ?_
        refine g_iloadn hX 3 rfl rfl dX12_say_62 ?_
        obtain ⟨k22, jk22, ik22, hf⟩ := gix_open hf
        refine ml_power hX ik22 k22 jk22 (v := S17.1 5 k22) rfl dX12_say_63 ?_
        refine g_iloadn hX 4 rfl rfl dX12_say_64 ?_
        refine g_iload hX 0 rfl dX12_say_65 ?_
        refine g_isub hX dX12_say_67 ?_
        refine g_imul hX dX12_say_68 ?_
        refine g_iadd hX dX12_say_69 ?_
        obtain ⟨v23, ev23, hf⟩ := bI_open hf
        refine g_nm ev23 ?_
        obtain ⟨k24, jk24, ik24, hf⟩ := gix_open hf
        refine ms_row hX ik24 k24 jk24 dX12_say_70 ?_
        refine g_iload hX 0 rfl dX12_say_71 ?_
        obtain rfl := oi hf
        exact g_iret hX hq (by decide) (by decide) hp dX12_say_73
      · have hf := ite_t c13 hf
        refine g_lv [0] rfl ?_
        exact t_X12_say_24 hX hq hp _ hf
theorem c_X12_say {l : Launch} {E : En} {ad : Nat → Nat} {a1 : Int32} {a2 : Int32} {a3 : Int32} {r : Int32} {S S2 : MS} (hf : f_X12_say a1 a2 a3 S = some (r, S2)) : CP l E yX12_say cX12_say 5 (some .int) 2 0 0 [] [.ref (ad 0), .int a1, .int a2, .int a3] (mW E ad S) (fun rv w => rv = some (.int r) ∧ w = mW E ad S2) :=
  CP.of (lv := [(0, .ref (ad 0)), (1, .int a1), (2, .int a2), (3, .int a3)]) (by decide +kernel) (Nat.le_of_ble_eq_true rfl) rfl (fun X hl hE hro hX hq hn => by subst hl; subst hE; exact t_X12_say_0 hX hq ⟨rfl, rfl⟩ a1 a2 a3 S hf)
def f_X12_become_18 (S : MS) : Option (Int32 × MS) :=
  cb (f_X12_errs (-1000000001) S) fun r7 S5 =>
  some (r7, S5)
def f_X12_become (a1 : Int32) (a2 : Int32) (S : MS) : Option (Int32 × MS) :=
  cb (f_X12_isRider a1 S) fun r3 S1 =>
  if (r3 = 0 : Prop) then
    f_X12_become_18 S1
  else
    cs (f_X12_in a2 0 69) fun r8 =>
    if (r8 = 0 : Prop) then
      f_X12_become_18 S1
    else
      cb (f_X12_its a1 0 S1) fun r13 S11 =>
      bI (a2 / 10) fun v14 =>
      gix (18 + (3 * a1)) 206 fun k15 =>
      bI (jrem a2 10) fun v16 =>
      gix ((18 + (3 * a1)) + 1) 206 fun k17 =>
      some (r13, (sA (sA S11 1 k15 v14) 1 k17 v16))
set_option maxRecDepth 100000 in
set_option maxHeartbeats 4000000 in
theorem t_X12_become_18 {X : Cx} {ad : Nat → Nat} {PostX : Option Value → va_W → Prop} (hX : Ok X cX12_become 4 RX12) (hq : Rq X 2 0 0 (some .int) PostX) {u : (Int32 × MS)} (hp : PostX (some (.int u.1)) (mW X.E ad u.2)) (S : MS) (hf : f_X12_become_18 S = some u) : G X 4 0 0 18 [(0, .ref (ad 0))] [] (mW X.E ad S) := by
  unfold f_X12_become_18 at hf
  refine g_aloadn hX 0 rfl rfl dX12_become_18 ?_
  refine g_ldc hX (v := (-1000000001)) wd_5_74 dX12_become_19 ?_
  obtain ⟨r7, S5, h6, hf⟩ := cb_open hf
  refine k_X12_errs hX hq (c_X12_errs h6) (by decide) (by decide) (by decide) (Nat.le_of_ble_eq_true rfl) dX12_become_21 ?_
  obtain rfl := oi hf
  exact g_iret hX hq (by decide) (by decide) hp dX12_become_24
set_option maxRecDepth 100000 in
set_option maxHeartbeats 4000000 in
theorem t_X12_become_0 {X : Cx} {ad : Nat → Nat} {PostX : Option Value → va_W → Prop} (hX : Ok X cX12_become 4 RX12) (hq : Rq X 2 0 0 (some .int) PostX) {u : (Int32 × MS)} (hp : PostX (some (.int u.1)) (mW X.E ad u.2)) (a1 : Int32) (a2 : Int32) (S : MS) (hf : f_X12_become a1 a2 S = some u) : G X 4 0 0 0 [(0, .ref (ad 0)), (1, .int a1), (2, .int a2)] [] (mW X.E ad S) := by
  unfold f_X12_become at hf
  refine g_aloadn hX 0 rfl rfl dX12_become_0 ?_
  refine g_iloadn hX 1 rfl rfl dX12_become_1 ?_
  obtain ⟨r3, S1, h2, hf⟩ := cb_open hf
  refine k_X12_isRider hX hq (c_X12_isRider h2) (by decide) (by decide) (by decide) (Nat.le_of_ble_eq_true rfl) dX12_become_2 ?_
  refine g_if_eq hX 18 (by decide) dX12_become_5 (fun c4 => ?_) (fun c4 => ?_)
  · have hf := ite_t c4 hf
    refine g_lv [0] rfl ?_
    exact t_X12_become_18 hX hq hp _ hf
  · have hf := ite_f c4 hf
    refine g_iloadn hX 2 rfl rfl dX12_become_8 ?_
    refine g_iconst hX (v := 0) (by decide) dX12_become_9 ?_
    refine g_bipush hX (v := 69) (by decide) dX12_become_10 ?_
    obtain ⟨r8, h9, hf⟩ := cs_open hf
    refine k_RX12_X12_in hX hq h9 (by decide) (by decide) (by decide) (Nat.le_of_ble_eq_true rfl) dX12_become_12 ?_
    refine g_if_ne hX 25 (by decide) dX12_become_15 (fun c10 => ?_) (fun c10 => ?_)
    · have hf := ite_f c10 hf
      refine g_aloadn hX 0 rfl rfl dX12_become_25 ?_
      refine g_iloadn hX 1 rfl rfl dX12_become_26 ?_
      refine g_iconst hX (v := 0) (by decide) dX12_become_27 ?_
      obtain ⟨r13, S11, h12, hf⟩ := cb_open hf
      refine k_X12_its hX hq (c_X12_its h12) (by decide) (by decide) (by decide) (Nat.le_of_ble_eq_true rfl) dX12_become_28 ?_
      refine g_istoren hX [(3, .int r13), (0, .ref (ad 0)), (1, .int a1), (2, .int a2)] rfl (by decide) rfl dX12_become_31 ?_
      refine g_aloadn hX 1 rfl rfl dX12_become_32 ?_
      refine mg_row hX dX12_become_33 ?_
      refine g_bipush hX (v := 18) (by decide) dX12_become_36 ?_
      refine g_iconst hX (v := 3) (by decide) dX12_become_38 ?_
      refine g_iloadn hX 2 rfl rfl dX12_become_39 ?_
      refine g_imul hX dX12_become_40 ?_
      refine g_iadd hX dX12_become_41 ?_
      refine g_iloadn hX 3 rfl rfl dX12_become_42 ?_
      refine g_bipush hX (v := 10) (by decide) dX12_become_43 ?_
      refine g_idiv hX (by decide) dX12_become_45 ?_
      obtain ⟨v14, ev14, hf⟩ := bI_open hf
      refine g_nm ev14 ?_
      obtain ⟨k15, jk15, ik15, hf⟩ := gix_open hf
      refine ms_row hX ik15 k15 jk15 dX12_become_46 ?_
      refine g_aloadn hX 1 rfl rfl dX12_become_47 ?_
      refine mg_row hX dX12_become_48 ?_
      refine g_bipush hX (v := 18) (by decide) dX12_become_51 ?_
      refine g_iconst hX (v := 3) (by decide) dX12_become_53 ?_
      refine g_iloadn hX 2 rfl rfl dX12_become_54 ?_
      refine g_imul hX dX12_become_55 ?_
      refine g_iadd hX dX12_become_56 ?_
      refine g_iconst hX (v := 1) (by decide) dX12_become_57 ?_
      refine g_iadd hX dX12_become_58 ?_
      refine g_iloadn hX 3 rfl rfl dX12_become_59 ?_
      refine g_bipush hX (v := 10) (by decide) dX12_become_60 ?_
      refine g_jrem hX (by decide) dX12_become_62 ?_
      obtain ⟨v16, ev16, hf⟩ := bI_open hf
      refine g_nm ev16 ?_
      obtain ⟨k17, jk17, ik17, hf⟩ := gix_open hf
      refine ms_row hX ik17 k17 jk17 dX12_become_63 ?_
      refine g_iloadn hX 0 rfl rfl dX12_become_64 ?_
      obtain rfl := oi hf
      exact g_iret hX hq (by decide) (by decide) hp dX12_become_65
    · have hf := ite_t c10 hf
      refine g_lv [0] rfl ?_
      exact t_X12_become_18 hX hq hp _ hf
theorem c_X12_become {l : Launch} {E : En} {ad : Nat → Nat} {a1 : Int32} {a2 : Int32} {r : Int32} {S S2 : MS} (hf : f_X12_become a1 a2 S = some (r, S2)) : CP l E yX12_become cX12_become 4 (some .int) 2 0 0 [] [.ref (ad 0), .int a1, .int a2] (mW E ad S) (fun rv w => rv = some (.int r) ∧ w = mW E ad S2) :=
  CP.of (lv := [(0, .ref (ad 0)), (1, .int a1), (2, .int a2)]) (by decide +kernel) (Nat.le_of_ble_eq_true rfl) rfl (fun X hl hE hro hX hq hn => by subst hl; subst hE; exact t_X12_become_0 hX hq ⟨rfl, rfl⟩ a1 a2 S hf)
def f_X12_as_18 (S : MS) : Option (Int32 × MS) :=
  cb (f_X12_errs (-1000000001) S) fun r7 S5 =>
  some (r7, S5)
def f_X12_as_49 (x1 : Int32) (x3 : Int32) (S : MS) : Option (Int32 × MS) :=
  if (0 ≤ x3 : Prop) then
    cb (f_X12_its x1 1 S) fun r18 S16 =>
    some (r18, S16)
  else
    cb (f_X12_errs (-1000000005) S) fun r21 S19 =>
    some (r21, S19)
def f_X12_as_32 : Nat → Int32 → Int32 → Int32 → MS → Option (Int32 × MS)
  | 0 => fun _ _ _ _ => none
  | n + 1 => fun x1 x2 x3 S =>
    let lp32 := f_X12_as_32 n
    if (x3 < 0 : Prop) then
      f_X12_as_49 x1 x3 S
    else
      if (x3 = x2 : Prop) then
        f_X12_as_49 x1 x3 S
      else
        cs (f_X12_above x3) fun r23 =>
        lp32 x1 x2 r23 S
def f_X12_as (a1 : Int32) (a2 : Int32) (S : MS) : Option (Int32 × MS) :=
  cb (f_X12_isRider a1 S) fun r3 S1 =>
  if (r3 = 0 : Prop) then
    f_X12_as_18 S1
  else
    cs (f_X12_in a2 0 6) fun r8 =>
    if (r8 = 0 : Prop) then
      f_X12_as_18 S1
    else
      cb (f_X12_its a1 0 S1) fun r13 S11 =>
      f_X12_as_32 100 a1 a2 r13 S11
set_option maxRecDepth 100000 in
set_option maxHeartbeats 4000000 in
theorem t_X12_as_18 {X : Cx} {ad : Nat → Nat} {PostX : Option Value → va_W → Prop} (hX : Ok X cX12_as 4 RX12) (hq : Rq X 2 0 0 (some .int) PostX) {u : (Int32 × MS)} (hp : PostX (some (.int u.1)) (mW X.E ad u.2)) (S : MS) (hf : f_X12_as_18 S = some u) : G X 4 0 0 18 [(0, .ref (ad 0))] [] (mW X.E ad S) := by
  unfold f_X12_as_18 at hf
  refine g_aloadn hX 0 rfl rfl dX12_as_18 ?_
  refine g_ldc hX (v := (-1000000001)) wd_5_74 dX12_as_19 ?_
  obtain ⟨r7, S5, h6, hf⟩ := cb_open hf
  refine k_X12_errs hX hq (c_X12_errs h6) (by decide) (by decide) (by decide) (Nat.le_of_ble_eq_true rfl) dX12_as_21 ?_
  obtain rfl := oi hf
  exact g_iret hX hq (by decide) (by decide) hp dX12_as_24
set_option maxRecDepth 100000 in
set_option maxHeartbeats 4000000 in
theorem t_X12_as_49 {X : Cx} {ad : Nat → Nat} {PostX : Option Value → va_W → Prop} (hX : Ok X cX12_as 4 RX12) (hq : Rq X 2 0 0 (some .int) PostX) {u : (Int32 × MS)} (hp : PostX (some (.int u.1)) (mW X.E ad u.2)) (x1 : Int32) (x3 : Int32) (S : MS) (hf : f_X12_as_49 x1 x3 S = some u) : G X 4 0 0 49 [(0, .ref (ad 0)), (1, .int x1), (3, .int x3)] [] (mW X.E ad S) := by
  unfold f_X12_as_49 at hf
  refine g_iloadn hX 2 rfl rfl dX12_as_49 ?_
  refine g_if_ge hX 62 (by decide) dX12_as_50 (fun c15 => ?_) (fun c15 => ?_)
  · have hf := ite_t c15 hf
    refine g_aloadn hX 0 rfl rfl dX12_as_62 ?_
    refine g_iloadn hX 1 rfl rfl dX12_as_63 ?_
    refine g_iconst hX (v := 1) (by decide) dX12_as_64 ?_
    obtain ⟨r18, S16, h17, hf⟩ := cb_open hf
    refine k_X12_its hX hq (c_X12_its h17) (by decide) (by decide) (by decide) (Nat.le_of_ble_eq_true rfl) dX12_as_65 ?_
    obtain rfl := oi hf
    exact g_iret hX hq (by decide) (by decide) hp dX12_as_68
  · have hf := ite_f c15 hf
    refine g_aloadn hX 0 rfl rfl dX12_as_53 ?_
    refine g_ldc hX (v := (-1000000005)) wd_5_214 dX12_as_54 ?_
    obtain ⟨r21, S19, h20, hf⟩ := cb_open hf
    refine k_X12_errs hX hq (c_X12_errs h20) (by decide) (by decide) (by decide) (Nat.le_of_ble_eq_true rfl) dX12_as_56 ?_
    refine g_goto hX 68 (by decide) dX12_as_59 ?_
    obtain rfl := oi hf
    exact g_iret hX hq (by decide) (by decide) hp dX12_as_68
set_option maxRecDepth 100000 in
set_option maxHeartbeats 4000000 in
theorem t_X12_as_32 {X : Cx} {ad : Nat → Nat} {PostX : Option Value → va_W → Prop} (hX : Ok X cX12_as 4 RX12) (hq : Rq X 2 0 0 (some .int) PostX) {u : (Int32 × MS)} (hp : PostX (some (.int u.1)) (mW X.E ad u.2)) : ∀ (n : Nat) (x1 : Int32) (x2 : Int32) (x3 : Int32) (S : MS), f_X12_as_32 n x1 x2 x3 S = some u → G X 4 0 0 32 [(0, .ref (ad 0)), (1, .int x1), (2, .int x2), (3, .int x3)] [] (mW X.E ad S) := by
  intro n
  induction n with
  | zero => intro _ _ _ _ hf; unfold f_X12_as_32 at hf; cases hf
  | succ n hlp32 =>
  intro x1 x2 x3 S hf
  unfold f_X12_as_32 at hf
  refine g_iloadn hX 3 rfl rfl dX12_as_32 ?_
  refine g_if_lt hX 49 (by decide) dX12_as_33 (fun c14 => ?_) (fun c14 => ?_)
  · have hf := ite_t c14 hf
    refine g_lv [0, 1, 3] rfl ?_
    exact t_X12_as_49 hX hq hp _ _ _ hf
  · have hf := ite_f c14 hf
    refine g_iloadn hX 3 rfl rfl dX12_as_36 ?_
    refine g_iloadn hX 2 rfl rfl dX12_as_37 ?_
    refine g_icmp_eq hX 49 (by decide) dX12_as_38 (fun c22 => ?_) (fun c22 => ?_)
    · have hf := ite_t c22 hf
      refine g_lv [0, 1, 3] rfl ?_
      exact t_X12_as_49 hX hq hp _ _ _ hf
    · have hf := ite_f c22 hf
      refine g_iloadn hX 3 rfl rfl dX12_as_41 ?_
      obtain ⟨r23, h24, hf⟩ := cs_open hf
      refine k_RX12_X12_above hX hq h24 (by decide) (by decide) (by decide) (Nat.le_of_ble_eq_true rfl) dX12_as_42 ?_
      refine g_istoren hX [(3, .int r23), (0, .ref (ad 0)), (1, .int x1), (2, .int x2)] rfl (by decide) rfl dX12_as_45 ?_
      refine g_goto hX 32 (by decide) dX12_as_46 ?_
      refine g_lv [1, 2, 3, 0] rfl ?_
      exact hlp32 _ _ _ _ hf
set_option maxRecDepth 100000 in
set_option maxHeartbeats 4000000 in
theorem t_X12_as_0 {X : Cx} {ad : Nat → Nat} {PostX : Option Value → va_W → Prop} (hX : Ok X cX12_as 4 RX12) (hq : Rq X 2 0 0 (some .int) PostX) {u : (Int32 × MS)} (hp : PostX (some (.int u.1)) (mW X.E ad u.2)) (a1 : Int32) (a2 : Int32) (S : MS) (hf : f_X12_as a1 a2 S = some u) : G X 4 0 0 0 [(0, .ref (ad 0)), (1, .int a1), (2, .int a2)] [] (mW X.E ad S) := by
  unfold f_X12_as at hf
  refine g_aloadn hX 0 rfl rfl dX12_as_0 ?_
  refine g_iloadn hX 1 rfl rfl dX12_as_1 ?_
  obtain ⟨r3, S1, h2, hf⟩ := cb_open hf
  refine k_X12_isRider hX hq (c_X12_isRider h2) (by decide) (by decide) (by decide) (Nat.le_of_ble_eq_true rfl) dX12_as_2 ?_
  refine g_if_eq hX 18 (by decide) dX12_as_5 (fun c4 => ?_) (fun c4 => ?_)
  · have hf := ite_t c4 hf
    refine g_lv [0] rfl ?_
    exact t_X12_as_18 hX hq hp _ hf
  · have hf := ite_f c4 hf
    refine g_iloadn hX 2 rfl rfl dX12_as_8 ?_
    refine g_iconst hX (v := 0) (by decide) dX12_as_9 ?_
    refine g_bipush hX (v := 6) (by decide) dX12_as_10 ?_
    obtain ⟨r8, h9, hf⟩ := cs_open hf
    refine k_RX12_X12_in hX hq h9 (by decide) (by decide) (by decide) (Nat.le_of_ble_eq_true rfl) dX12_as_12 ?_
    refine g_if_ne hX 25 (by decide) dX12_as_15 (fun c10 => ?_) (fun c10 => ?_)
    · have hf := ite_f c10 hf
      refine g_aloadn hX 0 rfl rfl dX12_as_25 ?_
      refine g_iloadn hX 1 rfl rfl dX12_as_26 ?_
      refine g_iconst hX (v := 0) (by decide) dX12_as_27 ?_
      obtain ⟨r13, S11, h12, hf⟩ := cb_open hf
      refine k_X12_its hX hq (c_X12_its h12) (by decide) (by decide) (by decide) (Nat.le_of_ble_eq_true rfl) dX12_as_28 ?_
      refine g_istoren hX [(3, .int r13), (0, .ref (ad 0)), (1, .int a1), (2, .int a2)] rfl (by decide) rfl dX12_as_31 ?_
      refine g_lv [1, 2, 3, 0] rfl ?_
      exact t_X12_as_32 hX hq hp _ _ _ _ _ hf
    · have hf := ite_t c10 hf
      refine g_lv [0] rfl ?_
      exact t_X12_as_18 hX hq hp _ hf
theorem c_X12_as {l : Launch} {E : En} {ad : Nat → Nat} {a1 : Int32} {a2 : Int32} {r : Int32} {S S2 : MS} (hf : f_X12_as a1 a2 S = some (r, S2)) : CP l E yX12_as cX12_as 4 (some .int) 2 0 0 [] [.ref (ad 0), .int a1, .int a2] (mW E ad S) (fun rv w => rv = some (.int r) ∧ w = mW E ad S2) :=
  CP.of (lv := [(0, .ref (ad 0)), (1, .int a1), (2, .int a2)]) (by decide +kernel) (Nat.le_of_ble_eq_true rfl) rfl (fun X hl hE hro hX hq hn => by subst hl; subst hE; exact t_X12_as_0 hX hq ⟨rfl, rfl⟩ a1 a2 S hf)
def f_X12_feed_40 : Nat → Int64 → Int32 → Int32 → MS → Option (Int32 × MS)
  | 0 => fun _ _ _ _ => none
  | n + 1 => fun x1 x3 x4 S =>
    let lp40 := f_X12_feed_40 n
    if (x3 ≤ x4 : Prop) then
      some ((S.1 1 4), S)
    else
      bI (Int64.toInt32 ((jlshr x1 (8 * x4)) &&& 255)) fun v6 =>
      gix (36 + (S.1 1 4)) 206 fun k7 =>
      bI (((sA S 1 k7 v6).1 1 4) + 1) fun v8 =>
      bI (x4 + 1) fun v9 =>
      lp40 x1 x3 v9 (sA (sA S 1 k7 v6) 1 4 v8)
def f_X12_feed (a1 : Int64) (a3 : Int32) (S : MS) : Option (Int32 × MS) :=
  cs (f_X12_in a3 1 8) fun r1 =>
  if (r1 = 0 : Prop) then
    cb (f_X12_errs (-1000000001) S) fun r15 S13 =>
    some (r15, S13)
  else
    if (((S.1 1 4) + a3) ≤ 50 : Prop) then
      f_X12_feed_40 100 a1 a3 0 S
    else
      cb (f_X12_errs (-1000000004) S) fun r12 S10 =>
      some (r12, S10)
set_option maxRecDepth 100000 in
set_option maxHeartbeats 4000000 in
theorem t_X12_feed_40 {X : Cx} {ad : Nat → Nat} {PostX : Option Value → va_W → Prop} (hX : Ok X cX12_feed 5 RX12) (hq : Rq X 1 0 0 (some .int) PostX) {u : (Int32 × MS)} (hp : PostX (some (.int u.1)) (mW X.E ad u.2)) : ∀ (n : Nat) (x1 : Int64) (x3 : Int32) (x4 : Int32) (S : MS), f_X12_feed_40 n x1 x3 x4 S = some u → G X 5 0 0 40 [(0, .ref (ad 0)), (1, .long x1), (3, .int x3), (4, .int x4)] [] (mW X.E ad S) := by
  intro n
  induction n with
  | zero => intro _ _ _ _ hf; unfold f_X12_feed_40 at hf; cases hf
  | succ n hlp40 =>
  intro x1 x3 x4 S hf
  unfold f_X12_feed_40 at hf
  refine g_iload hX 3 rfl dX12_feed_40 ?_
  refine g_iloadn hX 2 rfl rfl dX12_feed_42 ?_
  refine g_icmp_ge hX 88 (by decide) dX12_feed_43 (fun c5 => ?_) (fun c5 => ?_)
  · have hf := ite_t c5 hf
    refine g_aloadn hX 0 rfl rfl dX12_feed_88 ?_
    refine mg_row hX dX12_feed_89 ?_
    refine g_iconst hX (v := 4) (by decide) dX12_feed_92 ?_
    refine ml_row hX (vpc (by decide)) 4 (by decide) (v := S.1 1 4) rfl dX12_feed_93 ?_
    obtain rfl := oi hf
    exact g_iret hX hq (by decide) (by decide) hp dX12_feed_94
  · have hf := ite_f c5 hf
    refine g_aloadn hX 0 rfl rfl dX12_feed_46 ?_
    refine mg_row hX dX12_feed_47 ?_
    refine g_bipush hX (v := 36) (by decide) dX12_feed_50 ?_
    refine g_aloadn hX 0 rfl rfl dX12_feed_52 ?_
    refine mg_row hX dX12_feed_53 ?_
    refine g_iconst hX (v := 4) (by decide) dX12_feed_56 ?_
    refine ml_row hX (vpc (by decide)) 4 (by decide) (v := S.1 1 4) rfl dX12_feed_57 ?_
    refine g_iadd hX dX12_feed_58 ?_
    refine g_lloadn hX 1 rfl rfl dX12_feed_59 ?_
    refine g_bipush hX (v := 8) (by decide) dX12_feed_60 ?_
    refine g_iload hX 3 rfl dX12_feed_62 ?_
    refine g_imul hX dX12_feed_64 ?_
    refine g_jlshr hX dX12_feed_65 ?_
    refine g_ldc2 hX (v := (255)) wd_5_223 dX12_feed_66 ?_
    refine g_land hX dX12_feed_69 ?_
    refine g_l2i hX dX12_feed_70 ?_
    obtain ⟨v6, ev6, hf⟩ := bI_open hf
    refine g_nm ev6 ?_
    obtain ⟨k7, jk7, ik7, hf⟩ := gix_open hf
    refine ms_row hX ik7 k7 jk7 dX12_feed_71 ?_
    refine g_aloadn hX 0 rfl rfl dX12_feed_72 ?_
    refine mg_row hX dX12_feed_73 ?_
    refine g_iconst hX (v := 4) (by decide) dX12_feed_76 ?_
    refine g_dup2 hX rfl rfl dX12_feed_77 ?_
    refine ml_row hX (vpc (by decide)) 4 (by decide) (v := (sA S 1 k7 v6).1 1 4) rfl dX12_feed_78 ?_
    refine g_iconst hX (v := 1) (by decide) dX12_feed_79 ?_
    refine g_iadd hX dX12_feed_80 ?_
    obtain ⟨v8, ev8, hf⟩ := bI_open hf
    refine g_nm ev8 ?_
    refine ms_row hX (vpc (by decide)) 4 (by decide) dX12_feed_81 ?_
    obtain ⟨v9, ev9, hf⟩ := bI_open hf
    refine g_iinc hX 3 (v := v9) [(4, .int v9), (0, .ref (ad 0)), (1, .long x1), (3, .int x3)] rfl (by rw [ev9]; rfl) (by decide) rfl dX12_feed_82 ?_
    refine g_goto hX 40 (by decide) dX12_feed_85 ?_
    refine g_lv [1, 2, 3, 0] rfl ?_
    exact hlp40 _ _ _ _ hf
set_option maxRecDepth 100000 in
set_option maxHeartbeats 4000000 in
theorem t_X12_feed_0 {X : Cx} {ad : Nat → Nat} {PostX : Option Value → va_W → Prop} (hX : Ok X cX12_feed 5 RX12) (hq : Rq X 1 0 0 (some .int) PostX) {u : (Int32 × MS)} (hp : PostX (some (.int u.1)) (mW X.E ad u.2)) (a1 : Int64) (a3 : Int32) (S : MS) (hf : f_X12_feed a1 a3 S = some u) : G X 5 0 0 0 [(0, .ref (ad 0)), (1, .long a1), (3, .int a3)] [] (mW X.E ad S) := by
  unfold f_X12_feed at hf
  refine g_iloadn hX 2 rfl rfl dX12_feed_0 ?_
  refine g_iconst hX (v := 1) (by decide) dX12_feed_1 ?_
  refine g_bipush hX (v := 8) (by decide) dX12_feed_2 ?_
  obtain ⟨r1, h2, hf⟩ := cs_open hf
  refine k_RX12_X12_in hX hq h2 (by decide) (by decide) (by decide) (Nat.le_of_ble_eq_true rfl) dX12_feed_4 ?_
  refine g_if_ne hX 17 (by decide) dX12_feed_7 (fun c3 => ?_) (fun c3 => ?_)
  · have hf := ite_f c3 hf
    refine g_aloadn hX 0 rfl rfl dX12_feed_17 ?_
    refine mg_row hX dX12_feed_18 ?_
    refine g_iconst hX (v := 4) (by decide) dX12_feed_21 ?_
    refine ml_row hX (vpc (by decide)) 4 (by decide) (v := S.1 1 4) rfl dX12_feed_22 ?_
    refine g_iloadn hX 2 rfl rfl dX12_feed_23 ?_
    refine g_iadd hX dX12_feed_24 ?_
    refine g_bipush hX (v := 50) (by decide) dX12_feed_25 ?_
    refine g_icmp_le hX 37 (by decide) dX12_feed_27 (fun c4 => ?_) (fun c4 => ?_)
    · have hf := ite_t c4 hf
      refine g_iconst hX (v := 0) (by decide) dX12_feed_37 ?_
      refine g_istore hX [(4, .int 0), (0, .ref (ad 0)), (1, .long a1), (3, .int a3)] (by decide) rfl dX12_feed_38 ?_
      refine g_lv [1, 2, 3, 0] rfl ?_
      exact t_X12_feed_40 hX hq hp _ _ _ _ _ hf
    · have hf := ite_f c4 hf
      refine g_aloadn hX 0 rfl rfl dX12_feed_30 ?_
      refine g_ldc hX (v := (-1000000004)) wd_5_100 dX12_feed_31 ?_
      obtain ⟨r12, S10, h11, hf⟩ := cb_open hf
      refine k_X12_errs hX hq (c_X12_errs h11) (by decide) (by decide) (by decide) (Nat.le_of_ble_eq_true rfl) dX12_feed_33 ?_
      obtain rfl := oi hf
      exact g_iret hX hq (by decide) (by decide) hp dX12_feed_36
  · have hf := ite_t c3 hf
    refine g_aloadn hX 0 rfl rfl dX12_feed_10 ?_
    refine g_ldc hX (v := (-1000000001)) wd_5_74 dX12_feed_11 ?_
    obtain ⟨r15, S13, h14, hf⟩ := cb_open hf
    refine k_X12_errs hX hq (c_X12_errs h14) (by decide) (by decide) (by decide) (Nat.le_of_ble_eq_true rfl) dX12_feed_13 ?_
    obtain rfl := oi hf
    exact g_iret hX hq (by decide) (by decide) hp dX12_feed_16
theorem c_X12_feed {l : Launch} {E : En} {ad : Nat → Nat} {a1 : Int64} {a3 : Int32} {r : Int32} {S S2 : MS} (hf : f_X12_feed a1 a3 S = some (r, S2)) : CP l E yX12_feed cX12_feed 5 (some .int) 1 0 0 [] [.ref (ad 0), .long a1, .int a3] (mW E ad S) (fun rv w => rv = some (.int r) ∧ w = mW E ad S2) :=
  CP.of (lv := [(0, .ref (ad 0)), (1, .long a1), (3, .int a3)]) (by decide +kernel) (Nat.le_of_ble_eq_true rfl) rfl (fun X hl hE hro hX hq hn => by subst hl; subst hE; exact t_X12_feed_0 hX hq ⟨rfl, rfl⟩ a1 a3 S hf)
def f_X12_text_129 (x3 : Int32) (x4 : Int32) (S : MS) : Option (Int32 × MS) :=
  if (x3 = 0 : Prop) then
    some (((-10) - x4), (sA S 1 4 0))
  else
    some (1, (sA S 1 4 0))
def f_X12_text_106 (y0 : Int32) (S : MS) : Option (Int32 × MS) :=
  bI (S.2 6) fun v11 =>
  if (y0 = 0 : Prop) then
    f_X12_text_129 y0 v11 (sM S 4 1)
  else
    f_X12_text_129 y0 v11 S
def f_X12_text_105 (S : MS) : Option (Int32 × MS) :=
  f_X12_text_106 0 S
def f_X12_text_30 : Nat → Int32 → Int32 → MS → Option (Int32 × MS)
  | 0 => fun _ _ _ => none
  | n + 1 => fun x1 x2 S =>
    let lp30 := f_X12_text_30 n
    if (50 ≤ x2 : Prop) then
      bI (S.1 1 4) fun v5 =>
      gix (6 + x1) 206 fun k6 =>
      cb (f_X12_walks x1 1 1 1 (sA S 1 k6 v5)) fun r9 S7 =>
      if ((S7.2 12) = 0 : Prop) then
        f_X12_text_105 S7
      else
        if (r9 = r9 : Prop) then
          f_X12_text_106 1 S7
        else
          f_X12_text_105 S7
    else
      gix (36 + x2) 206 fun k15 =>
      bI (S.1 1 k15) fun v16 =>
      gix ((106 + (50 * x1)) + x2) 206 fun k17 =>
      bI (x2 + 1) fun v18 =>
      lp30 x1 v18 (sA S 1 k17 v16)
def f_X12_text (a1 : Int32) (S : MS) : Option (Int32 × MS) :=
  cs (f_X12_in a1 0 1) fun r1 =>
  if (r1 = 0 : Prop) then
    cb (f_X12_errs (-1000000001) S) fun r21 S19 =>
    some (r21, S19)
  else
    f_X12_text_30 100 a1 0 (sM S 1 4)
set_option maxRecDepth 100000 in
set_option maxHeartbeats 4000000 in
theorem t_X12_text_129 {X : Cx} {ad : Nat → Nat} {PostX : Option Value → va_W → Prop} (hX : Ok X cX12_text 5 RX12) (hq : Rq X 67 0 0 (some .int) PostX) {u : (Int32 × MS)} (hp : PostX (some (.int u.1)) (mW X.E ad u.2)) (x3 : Int32) (x4 : Int32) (S : MS) (hf : f_X12_text_129 x3 x4 S = some u) : G X 5 0 0 129 [(0, .ref (ad 0)), (3, .int x3), (4, .int x4)] [] (mW X.E ad S) := by
  unfold f_X12_text_129 at hf
  refine g_aloadn hX 0 rfl rfl dX12_text_129 ?_
  refine mg_row hX dX12_text_130 ?_
  refine g_iconst hX (v := 4) (by decide) dX12_text_133 ?_
  refine g_iconst hX (v := 0) (by decide) dX12_text_134 ?_
  refine ms_row hX (vpc (by decide)) 4 (by decide) dX12_text_135 ?_
  refine g_iloadn hX 1 rfl rfl dX12_text_136 ?_
  refine g_if_eq hX 144 (by decide) dX12_text_137 (fun c13 => ?_) (fun c13 => ?_)
  · have hf := ite_t c13 hf
    refine g_bipush hX (v := (-10)) (by decide) dX12_text_144 ?_
    refine g_iload hX 2 rfl dX12_text_146 ?_
    refine g_isub hX dX12_text_148 ?_
    obtain rfl := oi hf
    exact g_iret hX hq (by decide) (by decide) hp dX12_text_149
  · have hf := ite_f c13 hf
    refine g_iconst hX (v := 1) (by decide) dX12_text_140 ?_
    refine g_goto hX 149 (by decide) dX12_text_141 ?_
    obtain rfl := oi hf
    exact g_iret hX hq (by decide) (by decide) hp dX12_text_149
set_option maxRecDepth 100000 in
set_option maxHeartbeats 4000000 in
theorem t_X12_text_106 {X : Cx} {ad : Nat → Nat} {PostX : Option Value → va_W → Prop} (hX : Ok X cX12_text 5 RX12) (hq : Rq X 67 0 0 (some .int) PostX) {u : (Int32 × MS)} (hp : PostX (some (.int u.1)) (mW X.E ad u.2)) (y0 : Int32) (S : MS) (hf : f_X12_text_106 y0 S = some u) : G X 5 0 0 106 [(0, .ref (ad 0))] [.int y0] (mW X.E ad S) := by
  unfold f_X12_text_106 at hf
  refine g_istoren hX [(3, .int y0), (0, .ref (ad 0))] rfl (by decide) rfl dX12_text_106 ?_
  refine g_aloadn hX 1 rfl rfl dX12_text_107 ?_
  refine mg_at hX (v := S.2 6) rfl dX12_text_108 ?_
  obtain ⟨v11, ev11, hf⟩ := bI_open hf
  refine g_nm ev11 ?_
  refine g_istore hX [(4, .int v11), (3, .int y0), (0, .ref (ad 0))] (by decide) rfl dX12_text_111 ?_
  refine g_iloadn hX 1 rfl rfl dX12_text_113 ?_
  refine g_if_ne hX 129 (by decide) dX12_text_114 (fun c12 => ?_) (fun c12 => ?_)
  · have hf := ite_f c12 hf
    refine g_lv [2, 1, 0] rfl ?_
    exact t_X12_text_129 hX hq hp _ _ _ hf
  · have hf := ite_t c12 hf
    refine g_aloadn hX 2 rfl rfl dX12_text_117 ?_
    refine g_aloadn hX 2 rfl rfl dX12_text_118 ?_
    refine mg_before hX dX12_text_119 ?_
    refine g_aloadn hX 2 rfl rfl dX12_text_122 ?_
    refine mg_row hX dX12_text_123 ?_
    refine k_moveAll_4_1 hX hq (by decide) (by decide) (by decide) (Nat.le_of_ble_eq_true rfl) dX12_text_126 ?_
    refine g_lv [2, 1, 0] rfl ?_
    exact t_X12_text_129 hX hq hp _ _ _ hf
set_option maxRecDepth 100000 in
set_option maxHeartbeats 4000000 in
theorem t_X12_text_105 {X : Cx} {ad : Nat → Nat} {PostX : Option Value → va_W → Prop} (hX : Ok X cX12_text 5 RX12) (hq : Rq X 67 0 0 (some .int) PostX) {u : (Int32 × MS)} (hp : PostX (some (.int u.1)) (mW X.E ad u.2)) (S : MS) (hf : f_X12_text_105 S = some u) : G X 5 0 0 105 [(0, .ref (ad 0))] [] (mW X.E ad S) := by
  unfold f_X12_text_105 at hf
  refine g_iconst hX (v := 0) (by decide) dX12_text_105 ?_
  exact t_X12_text_106 hX hq hp _ _ hf
set_option maxRecDepth 100000 in
set_option maxHeartbeats 4000000 in
theorem t_X12_text_30 {X : Cx} {ad : Nat → Nat} {PostX : Option Value → va_W → Prop} (hX : Ok X cX12_text 5 RX12) (hq : Rq X 67 0 0 (some .int) PostX) {u : (Int32 × MS)} (hp : PostX (some (.int u.1)) (mW X.E ad u.2)) : ∀ (n : Nat) (x1 : Int32) (x2 : Int32) (S : MS), f_X12_text_30 n x1 x2 S = some u → G X 5 0 0 30 [(0, .ref (ad 0)), (1, .int x1), (2, .int x2)] [] (mW X.E ad S) := by
  intro n
  induction n with
  | zero => intro _ _ _ hf; unfold f_X12_text_30 at hf; cases hf
  | succ n hlp30 =>
  intro x1 x2 S hf
  unfold f_X12_text_30 at hf
  refine g_iloadn hX 2 rfl rfl dX12_text_30 ?_
  refine g_bipush hX (v := 50) (by decide) dX12_text_31 ?_
  refine g_icmp_ge hX 65 (by decide) dX12_text_33 (fun c4 => ?_) (fun c4 => ?_)
  · have hf := ite_t c4 hf
    refine g_aloadn hX 0 rfl rfl dX12_text_65 ?_
    refine mg_row hX dX12_text_66 ?_
    refine g_bipush hX (v := 6) (by decide) dX12_text_69 ?_
    refine g_iloadn hX 1 rfl rfl dX12_text_71 ?_
    refine g_iadd hX dX12_text_72 ?_
    refine g_aloadn hX 0 rfl rfl dX12_text_73 ?_
    refine mg_row hX dX12_text_74 ?_
    refine g_iconst hX (v := 4) (by decide) dX12_text_77 ?_
    refine ml_row hX (vpc (by decide)) 4 (by decide) (v := S.1 1 4) rfl dX12_text_78 ?_
    obtain ⟨v5, ev5, hf⟩ := bI_open hf
    refine g_nm ev5 ?_
    obtain ⟨k6, jk6, ik6, hf⟩ := gix_open hf
    refine ms_row hX ik6 k6 jk6 dX12_text_79 ?_
    refine g_aloadn hX 0 rfl rfl dX12_text_80 ?_
    refine g_iloadn hX 1 rfl rfl dX12_text_81 ?_
    refine g_iconst hX (v := 1) (by decide) dX12_text_82 ?_
    refine g_iconst hX (v := 1) (by decide) dX12_text_83 ?_
    refine g_iconst hX (v := 1) (by decide) dX12_text_84 ?_
    obtain ⟨r9, S7, h8, hf⟩ := cb_open hf
    refine k_X12_walks hX hq (c_X12_walks h8) (by decide) (by decide) (by decide) (Nat.le_of_ble_eq_true rfl) dX12_text_85 ?_
    refine g_istoren hX [(2, .int r9), (0, .ref (ad 0)), (1, .int x1)] rfl (by decide) rfl dX12_text_88 ?_
    refine g_aloadn hX 1 rfl rfl dX12_text_89 ?_
    refine mg_good hX (v := S7.2 12) rfl dX12_text_90 ?_
    refine g_if_eq hX 105 (by decide) dX12_text_93 (fun c10 => ?_) (fun c10 => ?_)
    · have hf := ite_t c10 hf
      refine g_lv [1] rfl ?_
      exact t_X12_text_105 hX hq hp _ hf
    · have hf := ite_f c10 hf
      refine g_iloadn hX 0 rfl rfl dX12_text_96 ?_
      refine g_iloadn hX 0 rfl rfl dX12_text_97 ?_
      refine g_icmp_ne hX 105 (by decide) dX12_text_98 (fun c14 => ?_) (fun c14 => ?_)
      · have hf := ite_f c14 hf
        refine g_lv [1] rfl ?_
        exact t_X12_text_105 hX hq hp _ hf
      · have hf := ite_t c14 hf
        refine g_iconst hX (v := 1) (by decide) dX12_text_101 ?_
        refine g_goto hX 106 (by decide) dX12_text_102 ?_
        refine g_lv [1] rfl ?_
        exact t_X12_text_106 hX hq hp _ _ hf
  · have hf := ite_f c4 hf
    refine g_aloadn hX 0 rfl rfl dX12_text_36 ?_
    refine mg_row hX dX12_text_37 ?_
    refine g_bipush hX (v := 106) (by decide) dX12_text_40 ?_
    refine g_bipush hX (v := 50) (by decide) dX12_text_42 ?_
    refine g_iloadn hX 1 rfl rfl dX12_text_44 ?_
    refine g_imul hX dX12_text_45 ?_
    refine g_iadd hX dX12_text_46 ?_
    refine g_iloadn hX 2 rfl rfl dX12_text_47 ?_
    refine g_iadd hX dX12_text_48 ?_
    refine g_aloadn hX 0 rfl rfl dX12_text_49 ?_
    refine mg_row hX dX12_text_50 ?_
    refine g_bipush hX (v := 36) (by decide) dX12_text_53 ?_
    refine g_iloadn hX 2 rfl rfl dX12_text_55 ?_
    refine g_iadd hX dX12_text_56 ?_
    obtain ⟨k15, jk15, ik15, hf⟩ := gix_open hf
    refine ml_row hX ik15 k15 jk15 (v := S.1 1 k15) rfl dX12_text_57 ?_
    obtain ⟨v16, ev16, hf⟩ := bI_open hf
    refine g_nm ev16 ?_
    obtain ⟨k17, jk17, ik17, hf⟩ := gix_open hf
    refine ms_row hX ik17 k17 jk17 dX12_text_58 ?_
    obtain ⟨v18, ev18, hf⟩ := bI_open hf
    refine g_iinc hX 2 (v := v18) [(2, .int v18), (0, .ref (ad 0)), (1, .int x1)] rfl (by rw [ev18]; rfl) (by decide) rfl dX12_text_59 ?_
    refine g_goto hX 30 (by decide) dX12_text_62 ?_
    refine g_lv [1, 2, 0] rfl ?_
    exact hlp30 _ _ _ hf
set_option maxRecDepth 100000 in
set_option maxHeartbeats 4000000 in
theorem t_X12_text_0 {X : Cx} {ad : Nat → Nat} {PostX : Option Value → va_W → Prop} (hX : Ok X cX12_text 5 RX12) (hq : Rq X 67 0 0 (some .int) PostX) {u : (Int32 × MS)} (hp : PostX (some (.int u.1)) (mW X.E ad u.2)) (a1 : Int32) (S : MS) (hf : f_X12_text a1 S = some u) : G X 5 0 0 0 [(0, .ref (ad 0)), (1, .int a1)] [] (mW X.E ad S) := by
  unfold f_X12_text at hf
  refine g_iloadn hX 1 rfl rfl dX12_text_0 ?_
  refine g_iconst hX (v := 0) (by decide) dX12_text_1 ?_
  refine g_iconst hX (v := 1) (by decide) dX12_text_2 ?_
  obtain ⟨r1, h2, hf⟩ := cs_open hf
  refine k_RX12_X12_in hX hq h2 (by decide) (by decide) (by decide) (Nat.le_of_ble_eq_true rfl) dX12_text_3 ?_
  refine g_if_ne hX 16 (by decide) dX12_text_6 (fun c3 => ?_) (fun c3 => ?_)
  · have hf := ite_f c3 hf
    refine g_aloadn hX 0 rfl rfl dX12_text_16 ?_
    refine g_aloadn hX 0 rfl rfl dX12_text_17 ?_
    refine mg_row hX dX12_text_18 ?_
    refine g_aloadn hX 0 rfl rfl dX12_text_21 ?_
    refine mg_before hX dX12_text_22 ?_
    refine k_moveAll_1_4 hX hq (by decide) (by decide) (by decide) (Nat.le_of_ble_eq_true rfl) dX12_text_25 ?_
    refine g_iconst hX (v := 0) (by decide) dX12_text_28 ?_
    refine g_istoren hX [(2, .int 0), (0, .ref (ad 0)), (1, .int a1)] rfl (by decide) rfl dX12_text_29 ?_
    refine g_lv [1, 2, 0] rfl ?_
    exact t_X12_text_30 hX hq hp _ _ _ _ hf
  · have hf := ite_t c3 hf
    refine g_aloadn hX 0 rfl rfl dX12_text_9 ?_
    refine g_ldc hX (v := (-1000000001)) wd_5_74 dX12_text_10 ?_
    obtain ⟨r21, S19, h20, hf⟩ := cb_open hf
    refine k_X12_errs hX hq (c_X12_errs h20) (by decide) (by decide) (by decide) (Nat.le_of_ble_eq_true rfl) dX12_text_12 ?_
    obtain rfl := oi hf
    exact g_iret hX hq (by decide) (by decide) hp dX12_text_15
theorem c_X12_text {l : Launch} {E : En} {ad : Nat → Nat} {a1 : Int32} {r : Int32} {S S2 : MS} (hf : f_X12_text a1 S = some (r, S2)) : CP l E yX12_text cX12_text 5 (some .int) 67 0 0 [] [.ref (ad 0), .int a1] (mW E ad S) (fun rv w => rv = some (.int r) ∧ w = mW E ad S2) :=
  CP.of (lv := [(0, .ref (ad 0)), (1, .int a1)]) (by decide +kernel) (Nat.le_of_ble_eq_true rfl) rfl (fun X hl hE hro hX hq hn => by subst hl; subst hE; exact t_X12_text_0 hX hq ⟨rfl, rfl⟩ a1 S hf)

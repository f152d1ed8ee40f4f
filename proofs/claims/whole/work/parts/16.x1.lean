theorem km_RX11_min : KwM RX11 281 Lib.Math.min.name Lib.Math.min.code := ⟨wd_2_92, wd_1_58, wd_1_5, wd_1_59⟩
theorem km_RX11_max : KwM RX11 286 Lib.Math.max.name Lib.Math.max.code := ⟨wd_2_93, wd_2_48, wd_1_5, wd_2_49⟩
theorem km_RX0_min : KwM RX0 7 Lib.Math.min.name Lib.Math.min.code := ⟨wd_3_75, wd_1_58, wd_1_5, wd_1_59⟩
theorem km_RX2_min : KwM RX2 50 Lib.Math.min.name Lib.Math.min.code := ⟨wd_1_57, wd_1_58, wd_1_5, wd_1_59⟩
def f_J6_bitCount_0f7a4 (a0 : Int32) : Option Int32 :=
  bI (a0 - ((jushr a0 1) &&& 1431655765)) fun v1 =>
  bI ((v1 &&& 858993459) + ((jushr v1 2) &&& 858993459)) fun v2 =>
  bI ((v2 + (jushr v2 4)) &&& 252645135) fun v3 =>
  bI (v3 + (jushr v3 8)) fun v4 =>
  bI (v4 + (jushr v4 16)) fun v5 =>
  some (v5 &&& 63)
set_option maxRecDepth 100000 in
set_option maxHeartbeats 4000000 in
theorem t_J6_bitCount_0f7a4_0 {X : Cx} {PostX : Option Value → va_W → Prop} (hX : Ok X cJ6_bitCount_0f7a4 1 RJ6) (hq : Rq X 0 0 0 (some .int) PostX) {u : Int32} (hp : PostX (some (.int u)) []) (a0 : Int32) (hf : f_J6_bitCount_0f7a4 a0 = some u) : G X 1 0 0 0 [(0, .int a0)] [] [] := by
  unfold f_J6_bitCount_0f7a4 at hf
  refine g_iloadn hX 0 rfl rfl dJ6_bitCount_0f7a4_0 ?_
  refine g_iloadn hX 0 rfl rfl dJ6_bitCount_0f7a4_1 ?_
  refine g_iconst hX (v := 1) (by decide) dJ6_bitCount_0f7a4_2 ?_
  refine g_jushr hX dJ6_bitCount_0f7a4_3 ?_
  refine g_ldcw hX (v := 1431655765) wd_3_30 dJ6_bitCount_0f7a4_4 ?_
  refine g_iand hX dJ6_bitCount_0f7a4_7 ?_
  refine g_isub hX dJ6_bitCount_0f7a4_8 ?_
  obtain ⟨v1, ev1, hf⟩ := bI_open hf
  refine g_nm ev1 ?_
  refine g_istoren hX [(0, .int v1)] rfl (by decide) rfl dJ6_bitCount_0f7a4_9 ?_
  refine g_iloadn hX 0 rfl rfl dJ6_bitCount_0f7a4_10 ?_
  refine g_ldcw hX (v := 858993459) wd_3_31 dJ6_bitCount_0f7a4_11 ?_
  refine g_iand hX dJ6_bitCount_0f7a4_14 ?_
  refine g_iloadn hX 0 rfl rfl dJ6_bitCount_0f7a4_15 ?_
  refine g_iconst hX (v := 2) (by decide) dJ6_bitCount_0f7a4_16 ?_
  refine g_jushr hX dJ6_bitCount_0f7a4_17 ?_
  refine g_ldcw hX (v := 858993459) wd_3_31 dJ6_bitCount_0f7a4_18 ?_
  refine g_iand hX dJ6_bitCount_0f7a4_21 ?_
  refine g_iadd hX dJ6_bitCount_0f7a4_22 ?_
  obtain ⟨v2, ev2, hf⟩ := bI_open hf
  refine g_nm ev2 ?_
  refine g_istoren hX [(0, .int v2)] rfl (by decide) rfl dJ6_bitCount_0f7a4_23 ?_
  refine g_iloadn hX 0 rfl rfl dJ6_bitCount_0f7a4_24 ?_
  refine g_iloadn hX 0 rfl rfl dJ6_bitCount_0f7a4_25 ?_
  refine g_iconst hX (v := 4) (by decide) dJ6_bitCount_0f7a4_26 ?_
  refine g_jushr hX dJ6_bitCount_0f7a4_27 ?_
  refine g_iadd hX dJ6_bitCount_0f7a4_28 ?_
  refine g_ldcw hX (v := 252645135) wd_3_32 dJ6_bitCount_0f7a4_29 ?_
  refine g_iand hX dJ6_bitCount_0f7a4_32 ?_
  obtain ⟨v3, ev3, hf⟩ := bI_open hf
  refine g_nm ev3 ?_
  refine g_istoren hX [(0, .int v3)] rfl (by decide) rfl dJ6_bitCount_0f7a4_33 ?_
  refine g_iloadn hX 0 rfl rfl dJ6_bitCount_0f7a4_34 ?_
  refine g_iloadn hX 0 rfl rfl dJ6_bitCount_0f7a4_35 ?_
  refine g_bipush hX (v := 8) (by decide) dJ6_bitCount_0f7a4_36 ?_
  refine g_jushr hX dJ6_bitCount_0f7a4_38 ?_
  refine g_iadd hX dJ6_bitCount_0f7a4_39 ?_
  obtain ⟨v4, ev4, hf⟩ := bI_open hf
  refine g_nm ev4 ?_
  refine g_istoren hX [(0, .int v4)] rfl (by decide) rfl dJ6_bitCount_0f7a4_40 ?_
  refine g_iloadn hX 0 rfl rfl dJ6_bitCount_0f7a4_41 ?_
  refine g_iloadn hX 0 rfl rfl dJ6_bitCount_0f7a4_42 ?_
  refine g_bipush hX (v := 16) (by decide) dJ6_bitCount_0f7a4_43 ?_
  refine g_jushr hX dJ6_bitCount_0f7a4_45 ?_
  refine g_iadd hX dJ6_bitCount_0f7a4_46 ?_
  obtain ⟨v5, ev5, hf⟩ := bI_open hf
  refine g_nm ev5 ?_
  refine g_istoren hX [(0, .int v5)] rfl (by decide) rfl dJ6_bitCount_0f7a4_47 ?_
  refine g_iloadn hX 0 rfl rfl dJ6_bitCount_0f7a4_48 ?_
  refine g_bipush hX (v := 63) (by decide) dJ6_bitCount_0f7a4_49 ?_
  refine g_iand hX dJ6_bitCount_0f7a4_51 ?_
  obtain rfl := oi hf
  exact g_iret hX hq (by decide) (by decide) hp dJ6_bitCount_0f7a4_52
theorem c_J6_bitCount_0f7a4 {l : Launch} {E : En} {a0 r : Int32} (hf : f_J6_bitCount_0f7a4 a0 = some r) : CP l E yJ6_bitCount_0f7a4 cJ6_bitCount_0f7a4 1 (some .int) 0 0 0 [] [.int a0] [] (fun rv w => rv = some (.int r) ∧ w = []) :=
  CP.of (lv := [(0, .int a0)]) (by decide +kernel) (Nat.le_of_ble_eq_true rfl) rfl (fun X hl hE hro hX hq hn => t_J6_bitCount_0f7a4_0 hX hq ⟨rfl, rfl⟩ a0 hf)
theorem kw_RX11_J6_bitCount_0f7a4 : KwS RX11 100 yJ6_bitCount_0f7a4 cJ6_bitCount_0f7a4 1 (some .int) 1 := ⟨mem_wsS wd_3_27 wd_3_28 wd_1_20 wd_3_29, ⟨by decide +kernel, by decide +kernel, by decide +kernel⟩, by decide⟩
theorem k_RX11_J6_bitCount_0f7a4 {X : Cx} {cc : ByteArray} {nL ce sl pc : Nat} {lv : List (Nat × Value)} {st : List Value} {dX mcX msX : Nat} {retX : Option FieldType} {PostX : Option Value → va_W → Prop} {ws : va_W} (hX : Ok X cc nL RX11) (hq : Rq X dX mcX msX retX PostX) {a0 r : Int32} (hf : f_J6_bitCount_0f7a4 a0 = some r) (hd : 0 < dX) (hc : ce ≤ mcX) (hs : sl ≤ msX) (hcat : (st.map fun v => v.category).sum ≤ 8) (hdg : decode cc pc = .ok (.invokestatic 100, 3)) (kk : G X nL ce sl (pc + 3) lv (.int r :: st) ws) : G X nL ce sl pc lv (.int a0 :: st) ws :=
  g_eqW (app0 ws) (g_callS (pre := ws) (mid := []) (post := []) [.int a0] hX hq kw_RX11_J6_bitCount_0f7a4 (c_J6_bitCount_0f7a4 hf) (fun _ h => absurd h List.not_mem_nil) hd hc hs rfl rfl hcat hdg (fun rv ws2 hp => by obtain ⟨rfl, rfl⟩ := hp; exact g_eqW (app0 ws).symm kk))
theorem kw_RX4_J6_bitCount_0f7a4 : KwS RX4 134 yJ6_bitCount_0f7a4 cJ6_bitCount_0f7a4 1 (some .int) 1 := ⟨mem_wsS wd_3_212 wd_3_28 wd_1_20 wd_3_29, ⟨by decide +kernel, by decide +kernel, by decide +kernel⟩, by decide⟩
theorem k_RX4_J6_bitCount_0f7a4 {X : Cx} {cc : ByteArray} {nL ce sl pc : Nat} {lv : List (Nat × Value)} {st : List Value} {dX mcX msX : Nat} {retX : Option FieldType} {PostX : Option Value → va_W → Prop} {ws : va_W} (hX : Ok X cc nL RX4) (hq : Rq X dX mcX msX retX PostX) {a0 r : Int32} (hf : f_J6_bitCount_0f7a4 a0 = some r) (hd : 0 < dX) (hc : ce ≤ mcX) (hs : sl ≤ msX) (hcat : (st.map fun v => v.category).sum ≤ 8) (hdg : decode cc pc = .ok (.invokestatic 134, 3)) (kk : G X nL ce sl (pc + 3) lv (.int r :: st) ws) : G X nL ce sl pc lv (.int a0 :: st) ws :=
  g_eqW (app0 ws) (g_callS (pre := ws) (mid := []) (post := []) [.int a0] hX hq kw_RX4_J6_bitCount_0f7a4 (c_J6_bitCount_0f7a4 hf) (fun _ h => absurd h List.not_mem_nil) hd hc hs rfl rfl hcat hdg (fun rv ws2 hp => by obtain ⟨rfl, rfl⟩ := hp; exact g_eqW (app0 ws).symm kk))
def f_X11_isFact_14 : Option Int32 :=
  some 0
def f_X11_isFact (a0 : Int32) : Option Int32 :=
  if (a0 < 0 : Prop) then
    f_X11_isFact_14 
  else
    if (8 ≤ a0 : Prop) then
      f_X11_isFact_14 
    else
      some 1
set_option maxRecDepth 100000 in
set_option maxHeartbeats 4000000 in
theorem t_X11_isFact_14 {X : Cx} {PostX : Option Value → va_W → Prop} (hX : Ok X cX11_isFact 1 RX11) (hq : Rq X 0 0 0 (some .boolean) PostX) {u : Int32} (hp : PostX (some (.int u)) [])  (hf : f_X11_isFact_14  = some u) : G X 1 0 0 14 [] [] [] := by
  unfold f_X11_isFact_14 at hf
  refine g_iconst hX (v := 0) (by decide) dX11_isFact_14 ?_
  obtain rfl := oi hf
  exact g_zret hX hq (by decide) (by decide) (by rfl) hp dX11_isFact_15
set_option maxRecDepth 100000 in
set_option maxHeartbeats 4000000 in
theorem t_X11_isFact_0 {X : Cx} {PostX : Option Value → va_W → Prop} (hX : Ok X cX11_isFact 1 RX11) (hq : Rq X 0 0 0 (some .boolean) PostX) {u : Int32} (hp : PostX (some (.int u)) []) (a0 : Int32) (hf : f_X11_isFact a0 = some u) : G X 1 0 0 0 [(0, .int a0)] [] [] := by
  unfold f_X11_isFact at hf
  refine g_iloadn hX 0 rfl rfl dX11_isFact_0 ?_
  refine g_if_lt hX 14 (by decide) dX11_isFact_1 (fun c1 => ?_) (fun c1 => ?_)
  · have hf := ite_t c1 hf
    refine g_lv [] rfl ?_
    exact t_X11_isFact_14 hX hq hp  hf
  · have hf := ite_f c1 hf
    refine g_iloadn hX 0 rfl rfl dX11_isFact_4 ?_
    refine g_bipush hX (v := 8) (by decide) dX11_isFact_5 ?_
    refine g_icmp_ge hX 14 (by decide) dX11_isFact_7 (fun c2 => ?_) (fun c2 => ?_)
    · have hf := ite_t c2 hf
      refine g_lv [] rfl ?_
      exact t_X11_isFact_14 hX hq hp  hf
    · have hf := ite_f c2 hf
      refine g_iconst hX (v := 1) (by decide) dX11_isFact_10 ?_
      refine g_goto hX 15 (by decide) dX11_isFact_11 ?_
      obtain rfl := oi hf
      exact g_zret hX hq (by decide) (by decide) (by rfl) hp dX11_isFact_15
theorem c_X11_isFact {l : Launch} {E : En} {a0 r : Int32} (hf : f_X11_isFact a0 = some r) : CP l E yX11_isFact cX11_isFact 1 (some .boolean) 0 0 0 [] [.int a0] [] (fun rv w => rv = some (.int r) ∧ w = []) :=
  CP.of (lv := [(0, .int a0)]) (by decide +kernel) (Nat.le_of_ble_eq_true rfl) rfl (fun X hl hE hro hX hq hn => t_X11_isFact_0 hX hq ⟨rfl, rfl⟩ a0 hf)
theorem kw_RX11_X11_isFact : KwS RX11 41 yX11_isFact cX11_isFact 1 (some .boolean) 1 := ⟨mem_wsS wd_2_216 wd_2_217 wd_1_1 wd_2_218, ⟨by decide +kernel, by decide +kernel, by decide +kernel⟩, by decide⟩
theorem k_RX11_X11_isFact {X : Cx} {cc : ByteArray} {nL ce sl pc : Nat} {lv : List (Nat × Value)} {st : List Value} {dX mcX msX : Nat} {retX : Option FieldType} {PostX : Option Value → va_W → Prop} {ws : va_W} (hX : Ok X cc nL RX11) (hq : Rq X dX mcX msX retX PostX) {a0 r : Int32} (hf : f_X11_isFact a0 = some r) (hd : 0 < dX) (hc : ce ≤ mcX) (hs : sl ≤ msX) (hcat : (st.map fun v => v.category).sum ≤ 8) (hdg : decode cc pc = .ok (.invokestatic 41, 3)) (kk : G X nL ce sl (pc + 3) lv (.int r :: st) ws) : G X nL ce sl pc lv (.int a0 :: st) ws :=
  g_eqW (app0 ws) (g_callS (pre := ws) (mid := []) (post := []) [.int a0] hX hq kw_RX11_X11_isFact (c_X11_isFact hf) (fun _ h => absurd h List.not_mem_nil) hd hc hs rfl rfl hcat hdg (fun rv ws2 hp => by obtain ⟨rfl, rfl⟩ := hp; exact g_eqW (app0 ws).symm kk))
def f_X11_isSaying_13 : Option Int32 :=
  some 0
def f_X11_isSaying (a0 : Int32) : Option Int32 :=
  if (a0 < 0 : Prop) then
    f_X11_isSaying_13 
  else
    if (2 < a0 : Prop) then
      f_X11_isSaying_13 
    else
      some 1
set_option maxRecDepth 100000 in
set_option maxHeartbeats 4000000 in
theorem t_X11_isSaying_13 {X : Cx} {PostX : Option Value → va_W → Prop} (hX : Ok X cX11_isSaying 1 RX11) (hq : Rq X 0 0 0 (some .boolean) PostX) {u : Int32} (hp : PostX (some (.int u)) [])  (hf : f_X11_isSaying_13  = some u) : G X 1 0 0 13 [] [] [] := by
  unfold f_X11_isSaying_13 at hf
  refine g_iconst hX (v := 0) (by decide) dX11_isSaying_13 ?_
  obtain rfl := oi hf
  exact g_zret hX hq (by decide) (by decide) (by rfl) hp dX11_isSaying_14
set_option maxRecDepth 100000 in
set_option maxHeartbeats 4000000 in
theorem t_X11_isSaying_0 {X : Cx} {PostX : Option Value → va_W → Prop} (hX : Ok X cX11_isSaying 1 RX11) (hq : Rq X 0 0 0 (some .boolean) PostX) {u : Int32} (hp : PostX (some (.int u)) []) (a0 : Int32) (hf : f_X11_isSaying a0 = some u) : G X 1 0 0 0 [(0, .int a0)] [] [] := by
  unfold f_X11_isSaying at hf
  refine g_iloadn hX 0 rfl rfl dX11_isSaying_0 ?_
  refine g_if_lt hX 13 (by decide) dX11_isSaying_1 (fun c1 => ?_) (fun c1 => ?_)
  · have hf := ite_t c1 hf
    refine g_lv [] rfl ?_
    exact t_X11_isSaying_13 hX hq hp  hf
  · have hf := ite_f c1 hf
    refine g_iloadn hX 0 rfl rfl dX11_isSaying_4 ?_
    refine g_iconst hX (v := 2) (by decide) dX11_isSaying_5 ?_
    refine g_icmp_gt hX 13 (by decide) dX11_isSaying_6 (fun c2 => ?_) (fun c2 => ?_)
    · have hf := ite_t c2 hf
      refine g_lv [] rfl ?_
      exact t_X11_isSaying_13 hX hq hp  hf
    · have hf := ite_f c2 hf
      refine g_iconst hX (v := 1) (by decide) dX11_isSaying_9 ?_
      refine g_goto hX 14 (by decide) dX11_isSaying_10 ?_
      obtain rfl := oi hf
      exact g_zret hX hq (by decide) (by decide) (by rfl) hp dX11_isSaying_14
theorem c_X11_isSaying {l : Launch} {E : En} {a0 r : Int32} (hf : f_X11_isSaying a0 = some r) : CP l E yX11_isSaying cX11_isSaying 1 (some .boolean) 0 0 0 [] [.int a0] [] (fun rv w => rv = some (.int r) ∧ w = []) :=
  CP.of (lv := [(0, .int a0)]) (by decide +kernel) (Nat.le_of_ble_eq_true rfl) rfl (fun X hl hE hro hX hq hn => t_X11_isSaying_0 hX hq ⟨rfl, rfl⟩ a0 hf)
theorem kw_RX11_X11_isSaying : KwS RX11 45 yX11_isSaying cX11_isSaying 1 (some .boolean) 1 := ⟨mem_wsS wd_2_219 wd_2_220 wd_1_1 wd_2_221, ⟨by decide +kernel, by decide +kernel, by decide +kernel⟩, by decide⟩
theorem k_RX11_X11_isSaying {X : Cx} {cc : ByteArray} {nL ce sl pc : Nat} {lv : List (Nat × Value)} {st : List Value} {dX mcX msX : Nat} {retX : Option FieldType} {PostX : Option Value → va_W → Prop} {ws : va_W} (hX : Ok X cc nL RX11) (hq : Rq X dX mcX msX retX PostX) {a0 r : Int32} (hf : f_X11_isSaying a0 = some r) (hd : 0 < dX) (hc : ce ≤ mcX) (hs : sl ≤ msX) (hcat : (st.map fun v => v.category).sum ≤ 8) (hdg : decode cc pc = .ok (.invokestatic 45, 3)) (kk : G X nL ce sl (pc + 3) lv (.int r :: st) ws) : G X nL ce sl pc lv (.int a0 :: st) ws :=
  g_eqW (app0 ws) (g_callS (pre := ws) (mid := []) (post := []) [.int a0] hX hq kw_RX11_X11_isSaying (c_X11_isSaying hf) (fun _ h => absurd h List.not_mem_nil) hd hc hs rfl rfl hcat hdg (fun rv ws2 hp => by obtain ⟨rfl, rfl⟩ := hp; exact g_eqW (app0 ws).symm kk))
def f_X11_isStory_15 : Option Int32 :=
  some 0
def f_X11_isStory (a0 : Int32) : Option Int32 :=
  if (a0 < 0 : Prop) then
    f_X11_isStory_15 
  else
    if (6561 ≤ a0 : Prop) then
      f_X11_isStory_15 
    else
      some 1
set_option maxRecDepth 100000 in
set_option maxHeartbeats 4000000 in
theorem t_X11_isStory_15 {X : Cx} {PostX : Option Value → va_W → Prop} (hX : Ok X cX11_isStory 1 RX11) (hq : Rq X 0 0 0 (some .boolean) PostX) {u : Int32} (hp : PostX (some (.int u)) [])  (hf : f_X11_isStory_15  = some u) : G X 1 0 0 15 [] [] [] := by
  unfold f_X11_isStory_15 at hf
  refine g_iconst hX (v := 0) (by decide) dX11_isStory_15 ?_
  obtain rfl := oi hf
  exact g_zret hX hq (by decide) (by decide) (by rfl) hp dX11_isStory_16
set_option maxRecDepth 100000 in
set_option maxHeartbeats 4000000 in
theorem t_X11_isStory_0 {X : Cx} {PostX : Option Value → va_W → Prop} (hX : Ok X cX11_isStory 1 RX11) (hq : Rq X 0 0 0 (some .boolean) PostX) {u : Int32} (hp : PostX (some (.int u)) []) (a0 : Int32) (hf : f_X11_isStory a0 = some u) : G X 1 0 0 0 [(0, .int a0)] [] [] := by
  unfold f_X11_isStory at hf
  refine g_iloadn hX 0 rfl rfl dX11_isStory_0 ?_
  refine g_if_lt hX 15 (by decide) dX11_isStory_1 (fun c1 => ?_) (fun c1 => ?_)
  · have hf := ite_t c1 hf
    refine g_lv [] rfl ?_
    exact t_X11_isStory_15 hX hq hp  hf
  · have hf := ite_f c1 hf
    refine g_iloadn hX 0 rfl rfl dX11_isStory_4 ?_
    refine g_sipush hX (v := 6561) (by decide) dX11_isStory_5 ?_
    refine g_icmp_ge hX 15 (by decide) dX11_isStory_8 (fun c2 => ?_) (fun c2 => ?_)
    · have hf := ite_t c2 hf
      refine g_lv [] rfl ?_
      exact t_X11_isStory_15 hX hq hp  hf
    · have hf := ite_f c2 hf
      refine g_iconst hX (v := 1) (by decide) dX11_isStory_11 ?_
      refine g_goto hX 16 (by decide) dX11_isStory_12 ?_
      obtain rfl := oi hf
      exact g_zret hX hq (by decide) (by decide) (by rfl) hp dX11_isStory_16
theorem c_X11_isStory {l : Launch} {E : En} {a0 r : Int32} (hf : f_X11_isStory a0 = some r) : CP l E yX11_isStory cX11_isStory 1 (some .boolean) 0 0 0 [] [.int a0] [] (fun rv w => rv = some (.int r) ∧ w = []) :=
  CP.of (lv := [(0, .int a0)]) (by decide +kernel) (Nat.le_of_ble_eq_true rfl) rfl (fun X hl hE hro hX hq hn => t_X11_isStory_0 hX hq ⟨rfl, rfl⟩ a0 hf)
theorem kw_RX11_X11_isStory : KwS RX11 127 yX11_isStory cX11_isStory 1 (some .boolean) 1 := ⟨mem_wsS wd_3_111 wd_3_112 wd_1_1 wd_3_113, ⟨by decide +kernel, by decide +kernel, by decide +kernel⟩, by decide⟩
theorem k_RX11_X11_isStory {X : Cx} {cc : ByteArray} {nL ce sl pc : Nat} {lv : List (Nat × Value)} {st : List Value} {dX mcX msX : Nat} {retX : Option FieldType} {PostX : Option Value → va_W → Prop} {ws : va_W} (hX : Ok X cc nL RX11) (hq : Rq X dX mcX msX retX PostX) {a0 r : Int32} (hf : f_X11_isStory a0 = some r) (hd : 0 < dX) (hc : ce ≤ mcX) (hs : sl ≤ msX) (hcat : (st.map fun v => v.category).sum ≤ 8) (hdg : decode cc pc = .ok (.invokestatic 127, 3)) (kk : G X nL ce sl (pc + 3) lv (.int r :: st) ws) : G X nL ce sl pc lv (.int a0 :: st) ws :=
  g_eqW (app0 ws) (g_callS (pre := ws) (mid := []) (post := []) [.int a0] hX hq kw_RX11_X11_isStory (c_X11_isStory hf) (fun _ h => absurd h List.not_mem_nil) hd hc hs rfl rfl hcat hdg (fun rv ws2 hp => by obtain ⟨rfl, rfl⟩ := hp; exact g_eqW (app0 ws).symm kk))
def f_X11_isKindWithNumber_14 : Option Int32 :=
  some 0
def f_X11_isKindWithNumber (a0 : Int32) : Option Int32 :=
  if (a0 < 0 : Prop) then
    f_X11_isKindWithNumber_14 
  else
    if (69 < a0 : Prop) then
      f_X11_isKindWithNumber_14 
    else
      some 1
set_option maxRecDepth 100000 in
set_option maxHeartbeats 4000000 in
theorem t_X11_isKindWithNumber_14 {X : Cx} {PostX : Option Value → va_W → Prop} (hX : Ok X cX11_isKindWithNumber 1 RX11) (hq : Rq X 0 0 0 (some .boolean) PostX) {u : Int32} (hp : PostX (some (.int u)) [])  (hf : f_X11_isKindWithNumber_14  = some u) : G X 1 0 0 14 [] [] [] := by
  unfold f_X11_isKindWithNumber_14 at hf
  refine g_iconst hX (v := 0) (by decide) dX11_isKindWithNumber_14 ?_
  obtain rfl := oi hf
  exact g_zret hX hq (by decide) (by decide) (by rfl) hp dX11_isKindWithNumber_15
set_option maxRecDepth 100000 in
set_option maxHeartbeats 4000000 in
theorem t_X11_isKindWithNumber_0 {X : Cx} {PostX : Option Value → va_W → Prop} (hX : Ok X cX11_isKindWithNumber 1 RX11) (hq : Rq X 0 0 0 (some .boolean) PostX) {u : Int32} (hp : PostX (some (.int u)) []) (a0 : Int32) (hf : f_X11_isKindWithNumber a0 = some u) : G X 1 0 0 0 [(0, .int a0)] [] [] := by
  unfold f_X11_isKindWithNumber at hf
  refine g_iloadn hX 0 rfl rfl dX11_isKindWithNumber_0 ?_
  refine g_if_lt hX 14 (by decide) dX11_isKindWithNumber_1 (fun c1 => ?_) (fun c1 => ?_)
  · have hf := ite_t c1 hf
    refine g_lv [] rfl ?_
    exact t_X11_isKindWithNumber_14 hX hq hp  hf
  · have hf := ite_f c1 hf
    refine g_iloadn hX 0 rfl rfl dX11_isKindWithNumber_4 ?_
    refine g_bipush hX (v := 69) (by decide) dX11_isKindWithNumber_5 ?_
    refine g_icmp_gt hX 14 (by decide) dX11_isKindWithNumber_7 (fun c2 => ?_) (fun c2 => ?_)
    · have hf := ite_t c2 hf
      refine g_lv [] rfl ?_
      exact t_X11_isKindWithNumber_14 hX hq hp  hf
    · have hf := ite_f c2 hf
      refine g_iconst hX (v := 1) (by decide) dX11_isKindWithNumber_10 ?_
      refine g_goto hX 15 (by decide) dX11_isKindWithNumber_11 ?_
      obtain rfl := oi hf
      exact g_zret hX hq (by decide) (by decide) (by rfl) hp dX11_isKindWithNumber_15
theorem c_X11_isKindWithNumber {l : Launch} {E : En} {a0 r : Int32} (hf : f_X11_isKindWithNumber a0 = some r) : CP l E yX11_isKindWithNumber cX11_isKindWithNumber 1 (some .boolean) 0 0 0 [] [.int a0] [] (fun rv w => rv = some (.int r) ∧ w = []) :=
  CP.of (lv := [(0, .int a0)]) (by decide +kernel) (Nat.le_of_ble_eq_true rfl) rfl (fun X hl hE hro hX hq hn => t_X11_isKindWithNumber_0 hX hq ⟨rfl, rfl⟩ a0 hf)
theorem kw_RX11_X11_isKindWithNumber : KwS RX11 72 yX11_isKindWithNumber cX11_isKindWithNumber 1 (some .boolean) 1 := ⟨mem_wsS wd_3_15 wd_3_16 wd_1_1 wd_3_17, ⟨by decide +kernel, by decide +kernel, by decide +kernel⟩, by decide⟩
theorem k_RX11_X11_isKindWithNumber {X : Cx} {cc : ByteArray} {nL ce sl pc : Nat} {lv : List (Nat × Value)} {st : List Value} {dX mcX msX : Nat} {retX : Option FieldType} {PostX : Option Value → va_W → Prop} {ws : va_W} (hX : Ok X cc nL RX11) (hq : Rq X dX mcX msX retX PostX) {a0 r : Int32} (hf : f_X11_isKindWithNumber a0 = some r) (hd : 0 < dX) (hc : ce ≤ mcX) (hs : sl ≤ msX) (hcat : (st.map fun v => v.category).sum ≤ 8) (hdg : decode cc pc = .ok (.invokestatic 72, 3)) (kk : G X nL ce sl (pc + 3) lv (.int r :: st) ws) : G X nL ce sl pc lv (.int a0 :: st) ws :=
  g_eqW (app0 ws) (g_callS (pre := ws) (mid := []) (post := []) [.int a0] hX hq kw_RX11_X11_isKindWithNumber (c_X11_isKindWithNumber hf) (fun _ h => absurd h List.not_mem_nil) hd hc hs rfl rfl hcat hdg (fun rv ws2 hp => by obtain ⟨rfl, rfl⟩ := hp; exact g_eqW (app0 ws).symm kk))
def f_X11_isUse_9 : Option Int32 :=
  some 1
def f_X11_isUse (a0 : Int32) : Option Int32 :=
  if (a0 = 0 : Prop) then
    f_X11_isUse_9 
  else
    if (a0 = 1 : Prop) then
      f_X11_isUse_9 
    else
      some 0
set_option maxRecDepth 100000 in
set_option maxHeartbeats 4000000 in
theorem t_X11_isUse_9 {X : Cx} {PostX : Option Value → va_W → Prop} (hX : Ok X cX11_isUse 1 RX11) (hq : Rq X 0 0 0 (some .boolean) PostX) {u : Int32} (hp : PostX (some (.int u)) [])  (hf : f_X11_isUse_9  = some u) : G X 1 0 0 9 [] [] [] := by
  unfold f_X11_isUse_9 at hf
  refine g_iconst hX (v := 1) (by decide) dX11_isUse_9 ?_
  refine g_goto hX 14 (by decide) dX11_isUse_10 ?_
  obtain rfl := oi hf
  exact g_zret hX hq (by decide) (by decide) (by rfl) hp dX11_isUse_14
set_option maxRecDepth 100000 in
set_option maxHeartbeats 4000000 in
theorem t_X11_isUse_0 {X : Cx} {PostX : Option Value → va_W → Prop} (hX : Ok X cX11_isUse 1 RX11) (hq : Rq X 0 0 0 (some .boolean) PostX) {u : Int32} (hp : PostX (some (.int u)) []) (a0 : Int32) (hf : f_X11_isUse a0 = some u) : G X 1 0 0 0 [(0, .int a0)] [] [] := by
  unfold f_X11_isUse at hf
  refine g_iloadn hX 0 rfl rfl dX11_isUse_0 ?_
  refine g_if_eq hX 9 (by decide) dX11_isUse_1 (fun c1 => ?_) (fun c1 => ?_)
  · have hf := ite_t c1 hf
    refine g_lv [] rfl ?_
    exact t_X11_isUse_9 hX hq hp  hf
  · have hf := ite_f c1 hf
    refine g_iloadn hX 0 rfl rfl dX11_isUse_4 ?_
    refine g_iconst hX (v := 1) (by decide) dX11_isUse_5 ?_
    refine g_icmp_ne hX 13 (by decide) dX11_isUse_6 (fun c2 => ?_) (fun c2 => ?_)
    · have hf := ite_f c2 hf
      refine g_iconst hX (v := 0) (by decide) dX11_isUse_13 ?_
      obtain rfl := oi hf
      exact g_zret hX hq (by decide) (by decide) (by rfl) hp dX11_isUse_14
    · have hf := ite_t c2 hf
      refine g_lv [] rfl ?_
      exact t_X11_isUse_9 hX hq hp  hf
theorem c_X11_isUse {l : Launch} {E : En} {a0 r : Int32} (hf : f_X11_isUse a0 = some r) : CP l E yX11_isUse cX11_isUse 1 (some .boolean) 0 0 0 [] [.int a0] [] (fun rv w => rv = some (.int r) ∧ w = []) :=
  CP.of (lv := [(0, .int a0)]) (by decide +kernel) (Nat.le_of_ble_eq_true rfl) rfl (fun X hl hE hro hX hq hn => t_X11_isUse_0 hX hq ⟨rfl, rfl⟩ a0 hf)
theorem kw_RX11_X11_isUse : KwS RX11 144 yX11_isUse cX11_isUse 1 (some .boolean) 1 := ⟨mem_wsS wd_3_140 wd_3_141 wd_1_1 wd_3_142, ⟨by decide +kernel, by decide +kernel, by decide +kernel⟩, by decide⟩
theorem k_RX11_X11_isUse {X : Cx} {cc : ByteArray} {nL ce sl pc : Nat} {lv : List (Nat × Value)} {st : List Value} {dX mcX msX : Nat} {retX : Option FieldType} {PostX : Option Value → va_W → Prop} {ws : va_W} (hX : Ok X cc nL RX11) (hq : Rq X dX mcX msX retX PostX) {a0 r : Int32} (hf : f_X11_isUse a0 = some r) (hd : 0 < dX) (hc : ce ≤ mcX) (hs : sl ≤ msX) (hcat : (st.map fun v => v.category).sum ≤ 8) (hdg : decode cc pc = .ok (.invokestatic 144, 3)) (kk : G X nL ce sl (pc + 3) lv (.int r :: st) ws) : G X nL ce sl pc lv (.int a0 :: st) ws :=
  g_eqW (app0 ws) (g_callS (pre := ws) (mid := []) (post := []) [.int a0] hX hq kw_RX11_X11_isUse (c_X11_isUse hf) (fun _ h => absurd h List.not_mem_nil) hd hc hs rfl rfl hcat hdg (fun rv ws2 hp => by obtain ⟨rfl, rfl⟩ := hp; exact g_eqW (app0 ws).symm kk))
def f_X11_isGoal_14 : Option Int32 :=
  some 0
def f_X11_isGoal (a0 : Int32) : Option Int32 :=
  if (a0 < 0 : Prop) then
    f_X11_isGoal_14 
  else
    if (9 < a0 : Prop) then
      f_X11_isGoal_14 
    else
      some 1
set_option maxRecDepth 100000 in
set_option maxHeartbeats 4000000 in
theorem t_X11_isGoal_14 {X : Cx} {PostX : Option Value → va_W → Prop} (hX : Ok X cX11_isGoal 1 RX11) (hq : Rq X 0 0 0 (some .boolean) PostX) {u : Int32} (hp : PostX (some (.int u)) [])  (hf : f_X11_isGoal_14  = some u) : G X 1 0 0 14 [] [] [] := by
  unfold f_X11_isGoal_14 at hf
  refine g_iconst hX (v := 0) (by decide) dX11_isGoal_14 ?_
  obtain rfl := oi hf
  exact g_zret hX hq (by decide) (by decide) (by rfl) hp dX11_isGoal_15
set_option maxRecDepth 100000 in
set_option maxHeartbeats 4000000 in
theorem t_X11_isGoal_0 {X : Cx} {PostX : Option Value → va_W → Prop} (hX : Ok X cX11_isGoal 1 RX11) (hq : Rq X 0 0 0 (some .boolean) PostX) {u : Int32} (hp : PostX (some (.int u)) []) (a0 : Int32) (hf : f_X11_isGoal a0 = some u) : G X 1 0 0 0 [(0, .int a0)] [] [] := by
  unfold f_X11_isGoal at hf
  refine g_iloadn hX 0 rfl rfl dX11_isGoal_0 ?_
  refine g_if_lt hX 14 (by decide) dX11_isGoal_1 (fun c1 => ?_) (fun c1 => ?_)
  · have hf := ite_t c1 hf
    refine g_lv [] rfl ?_
    exact t_X11_isGoal_14 hX hq hp  hf
  · have hf := ite_f c1 hf
    refine g_iloadn hX 0 rfl rfl dX11_isGoal_4 ?_
    refine g_bipush hX (v := 9) (by decide) dX11_isGoal_5 ?_
    refine g_icmp_gt hX 14 (by decide) dX11_isGoal_7 (fun c2 => ?_) (fun c2 => ?_)
    · have hf := ite_t c2 hf
      refine g_lv [] rfl ?_
      exact t_X11_isGoal_14 hX hq hp  hf
    · have hf := ite_f c2 hf
      refine g_iconst hX (v := 1) (by decide) dX11_isGoal_10 ?_
      refine g_goto hX 15 (by decide) dX11_isGoal_11 ?_
      obtain rfl := oi hf
      exact g_zret hX hq (by decide) (by decide) (by rfl) hp dX11_isGoal_15
theorem c_X11_isGoal {l : Launch} {E : En} {a0 r : Int32} (hf : f_X11_isGoal a0 = some r) : CP l E yX11_isGoal cX11_isGoal 1 (some .boolean) 0 0 0 [] [.int a0] [] (fun rv w => rv = some (.int r) ∧ w = []) :=
  CP.of (lv := [(0, .int a0)]) (by decide +kernel) (Nat.le_of_ble_eq_true rfl) rfl (fun X hl hE hro hX hq hn => t_X11_isGoal_0 hX hq ⟨rfl, rfl⟩ a0 hf)
theorem kw_RX11_X11_isGoal : KwS RX11 182 yX11_isGoal cX11_isGoal 1 (some .boolean) 1 := ⟨mem_wsS wd_3_221 wd_3_222 wd_1_1 wd_3_223, ⟨by decide +kernel, by decide +kernel, by decide +kernel⟩, by decide⟩
theorem k_RX11_X11_isGoal {X : Cx} {cc : ByteArray} {nL ce sl pc : Nat} {lv : List (Nat × Value)} {st : List Value} {dX mcX msX : Nat} {retX : Option FieldType} {PostX : Option Value → va_W → Prop} {ws : va_W} (hX : Ok X cc nL RX11) (hq : Rq X dX mcX msX retX PostX) {a0 r : Int32} (hf : f_X11_isGoal a0 = some r) (hd : 0 < dX) (hc : ce ≤ mcX) (hs : sl ≤ msX) (hcat : (st.map fun v => v.category).sum ≤ 8) (hdg : decode cc pc = .ok (.invokestatic 182, 3)) (kk : G X nL ce sl (pc + 3) lv (.int r :: st) ws) : G X nL ce sl pc lv (.int a0 :: st) ws :=
  g_eqW (app0 ws) (g_callS (pre := ws) (mid := []) (post := []) [.int a0] hX hq kw_RX11_X11_isGoal (c_X11_isGoal hf) (fun _ h => absurd h List.not_mem_nil) hd hc hs rfl rfl hcat hdg (fun rv ws2 hp => by obtain ⟨rfl, rfl⟩ := hp; exact g_eqW (app0 ws).symm kk))
def f_X11_isSheet_13 : Option Int32 :=
  some 0
def f_X11_isSheet (a0 : Int32) : Option Int32 :=
  if (a0 < 0 : Prop) then
    f_X11_isSheet_13 
  else
    if (4 ≤ a0 : Prop) then
      f_X11_isSheet_13 
    else
      some 1
set_option maxRecDepth 100000 in
set_option maxHeartbeats 4000000 in
theorem t_X11_isSheet_13 {X : Cx} {PostX : Option Value → va_W → Prop} (hX : Ok X cX11_isSheet 1 RX11) (hq : Rq X 0 0 0 (some .boolean) PostX) {u : Int32} (hp : PostX (some (.int u)) [])  (hf : f_X11_isSheet_13  = some u) : G X 1 0 0 13 [] [] [] := by
  unfold f_X11_isSheet_13 at hf
  refine g_iconst hX (v := 0) (by decide) dX11_isSheet_13 ?_
  obtain rfl := oi hf
  exact g_zret hX hq (by decide) (by decide) (by rfl) hp dX11_isSheet_14
set_option maxRecDepth 100000 in
set_option maxHeartbeats 4000000 in
theorem t_X11_isSheet_0 {X : Cx} {PostX : Option Value → va_W → Prop} (hX : Ok X cX11_isSheet 1 RX11) (hq : Rq X 0 0 0 (some .boolean) PostX) {u : Int32} (hp : PostX (some (.int u)) []) (a0 : Int32) (hf : f_X11_isSheet a0 = some u) : G X 1 0 0 0 [(0, .int a0)] [] [] := by
  unfold f_X11_isSheet at hf
  refine g_iloadn hX 0 rfl rfl dX11_isSheet_0 ?_
  refine g_if_lt hX 13 (by decide) dX11_isSheet_1 (fun c1 => ?_) (fun c1 => ?_)
  · have hf := ite_t c1 hf
    refine g_lv [] rfl ?_
    exact t_X11_isSheet_13 hX hq hp  hf
  · have hf := ite_f c1 hf
    refine g_iloadn hX 0 rfl rfl dX11_isSheet_4 ?_
    refine g_iconst hX (v := 4) (by decide) dX11_isSheet_5 ?_
    refine g_icmp_ge hX 13 (by decide) dX11_isSheet_6 (fun c2 => ?_) (fun c2 => ?_)
    · have hf := ite_t c2 hf
      refine g_lv [] rfl ?_
      exact t_X11_isSheet_13 hX hq hp  hf
    · have hf := ite_f c2 hf
      refine g_iconst hX (v := 1) (by decide) dX11_isSheet_9 ?_
      refine g_goto hX 14 (by decide) dX11_isSheet_10 ?_
      obtain rfl := oi hf
      exact g_zret hX hq (by decide) (by decide) (by rfl) hp dX11_isSheet_14
theorem c_X11_isSheet {l : Launch} {E : En} {a0 r : Int32} (hf : f_X11_isSheet a0 = some r) : CP l E yX11_isSheet cX11_isSheet 1 (some .boolean) 0 0 0 [] [.int a0] [] (fun rv w => rv = some (.int r) ∧ w = []) :=
  CP.of (lv := [(0, .int a0)]) (by decide +kernel) (Nat.le_of_ble_eq_true rfl) rfl (fun X hl hE hro hX hq hn => t_X11_isSheet_0 hX hq ⟨rfl, rfl⟩ a0 hf)
theorem kw_RX11_X11_isSheet : KwS RX11 194 yX11_isSheet cX11_isSheet 1 (some .boolean) 1 := ⟨mem_wsS wd_4_15 wd_4_16 wd_1_1 wd_4_17, ⟨by decide +kernel, by decide +kernel, by decide +kernel⟩, by decide⟩
theorem k_RX11_X11_isSheet {X : Cx} {cc : ByteArray} {nL ce sl pc : Nat} {lv : List (Nat × Value)} {st : List Value} {dX mcX msX : Nat} {retX : Option FieldType} {PostX : Option Value → va_W → Prop} {ws : va_W} (hX : Ok X cc nL RX11) (hq : Rq X dX mcX msX retX PostX) {a0 r : Int32} (hf : f_X11_isSheet a0 = some r) (hd : 0 < dX) (hc : ce ≤ mcX) (hs : sl ≤ msX) (hcat : (st.map fun v => v.category).sum ≤ 8) (hdg : decode cc pc = .ok (.invokestatic 194, 3)) (kk : G X nL ce sl (pc + 3) lv (.int r :: st) ws) : G X nL ce sl pc lv (.int a0 :: st) ws :=
  g_eqW (app0 ws) (g_callS (pre := ws) (mid := []) (post := []) [.int a0] hX hq kw_RX11_X11_isSheet (c_X11_isSheet hf) (fun _ h => absurd h List.not_mem_nil) hd hc hs rfl rfl hcat hdg (fun rv ws2 hp => by obtain ⟨rfl, rfl⟩ := hp; exact g_eqW (app0 ws).symm kk))
def f_X11_bothWays (a0 : Int32) : Option Int32 :=
  some (a0 ||| (jshl a0 8))
set_option maxRecDepth 100000 in
set_option maxHeartbeats 4000000 in
theorem t_X11_bothWays_0 {X : Cx} {PostX : Option Value → va_W → Prop} (hX : Ok X cX11_bothWays 1 RX11) (hq : Rq X 0 0 0 (some .int) PostX) {u : Int32} (hp : PostX (some (.int u)) []) (a0 : Int32) (hf : f_X11_bothWays a0 = some u) : G X 1 0 0 0 [(0, .int a0)] [] [] := by
  unfold f_X11_bothWays at hf
  refine g_iloadn hX 0 rfl rfl dX11_bothWays_0 ?_
  refine g_iloadn hX 0 rfl rfl dX11_bothWays_1 ?_
  refine g_bipush hX (v := 8) (by decide) dX11_bothWays_2 ?_
  refine g_jshl hX dX11_bothWays_4 ?_
  refine g_ior hX dX11_bothWays_5 ?_
  obtain rfl := oi hf
  exact g_iret hX hq (by decide) (by decide) hp dX11_bothWays_6
theorem c_X11_bothWays {l : Launch} {E : En} {a0 r : Int32} (hf : f_X11_bothWays a0 = some r) : CP l E yX11_bothWays cX11_bothWays 1 (some .int) 0 0 0 [] [.int a0] [] (fun rv w => rv = some (.int r) ∧ w = []) :=
  CP.of (lv := [(0, .int a0)]) (by decide +kernel) (Nat.le_of_ble_eq_true rfl) rfl (fun X hl hE hro hX hq hn => t_X11_bothWays_0 hX hq ⟨rfl, rfl⟩ a0 hf)
theorem kw_RX11_X11_bothWays : KwS RX11 185 yX11_bothWays cX11_bothWays 1 (some .int) 1 := ⟨mem_wsS wd_2_233 wd_2_234 wd_1_1 wd_2_235, ⟨by decide +kernel, by decide +kernel, by decide +kernel⟩, by decide⟩
theorem k_RX11_X11_bothWays {X : Cx} {cc : ByteArray} {nL ce sl pc : Nat} {lv : List (Nat × Value)} {st : List Value} {dX mcX msX : Nat} {retX : Option FieldType} {PostX : Option Value → va_W → Prop} {ws : va_W} (hX : Ok X cc nL RX11) (hq : Rq X dX mcX msX retX PostX) {a0 r : Int32} (hf : f_X11_bothWays a0 = some r) (hd : 0 < dX) (hc : ce ≤ mcX) (hs : sl ≤ msX) (hcat : (st.map fun v => v.category).sum ≤ 8) (hdg : decode cc pc = .ok (.invokestatic 185, 3)) (kk : G X nL ce sl (pc + 3) lv (.int r :: st) ws) : G X nL ce sl pc lv (.int a0 :: st) ws :=
  g_eqW (app0 ws) (g_callS (pre := ws) (mid := []) (post := []) [.int a0] hX hq kw_RX11_X11_bothWays (c_X11_bothWays hf) (fun _ h => absurd h List.not_mem_nil) hd hc hs rfl rfl hcat hdg (fun rv ws2 hp => by obtain ⟨rfl, rfl⟩ := hp; exact g_eqW (app0 ws).symm kk))
theorem kw_RX4_X11_bothWays : KwN RX4 153 yX11_bothWays RX11 cX11_bothWays 1 (some .int) 1 := ⟨List.mem_of_getElem? (i := 10) rfl, wd_2_234, wd_1_1, wd_2_235, ⟨by decide +kernel, by decide +kernel, by decide +kernel⟩, by decide⟩
theorem k_RX4_X11_bothWays {X : Cx} {cc : ByteArray} {nL ce sl pc : Nat} {lv : List (Nat × Value)} {st : List Value} {dX mcX msX : Nat} {retX : Option FieldType} {PostX : Option Value → va_W → Prop} {ws : va_W} (hX : Ok X cc nL RX4) (hq : Rq X dX mcX msX retX PostX) {a0 r : Int32} (hf : f_X11_bothWays a0 = some r) (hd : 0 < dX) (hc : ce ≤ mcX) (hs : sl ≤ msX) (hcat : (st.map fun v => v.category).sum ≤ 8) (hdg : decode cc pc = .ok (.invokestatic 153, 3)) (kk : G X nL ce sl (pc + 3) lv (.int r :: st) ws) : G X nL ce sl pc lv (.int a0 :: st) ws :=
  g_eqW (app0 ws) (g_callN (pre := ws) (mid := []) (post := []) [.int a0] hX hq kw_RX4_X11_bothWays (c_X11_bothWays hf) (fun _ h => absurd h List.not_mem_nil) hd hc hs rfl rfl hcat hdg (fun rv ws2 hp => by obtain ⟨rfl, rfl⟩ := hp; exact g_eqW (app0 ws).symm kk))
def f_X11_factsOf (a0 : Int32) : Option Int32 :=
  some ((a0 ||| (jshr a0 8)) &&& 255)
set_option maxRecDepth 100000 in
set_option maxHeartbeats 4000000 in
theorem t_X11_factsOf_0 {X : Cx} {PostX : Option Value → va_W → Prop} (hX : Ok X cX11_factsOf 1 RX11) (hq : Rq X 0 0 0 (some .int) PostX) {u : Int32} (hp : PostX (some (.int u)) []) (a0 : Int32) (hf : f_X11_factsOf a0 = some u) : G X 1 0 0 0 [(0, .int a0)] [] [] := by
  unfold f_X11_factsOf at hf
  refine g_iloadn hX 0 rfl rfl dX11_factsOf_0 ?_
  refine g_iloadn hX 0 rfl rfl dX11_factsOf_1 ?_
  refine g_bipush hX (v := 8) (by decide) dX11_factsOf_2 ?_
  refine g_jshr hX dX11_factsOf_4 ?_
  refine g_ior hX dX11_factsOf_5 ?_
  refine g_sipush hX (v := 255) (by decide) dX11_factsOf_6 ?_
  refine g_iand hX dX11_factsOf_9 ?_
  obtain rfl := oi hf
  exact g_iret hX hq (by decide) (by decide) hp dX11_factsOf_10
theorem c_X11_factsOf {l : Launch} {E : En} {a0 r : Int32} (hf : f_X11_factsOf a0 = some r) : CP l E yX11_factsOf cX11_factsOf 1 (some .int) 0 0 0 [] [.int a0] [] (fun rv w => rv = some (.int r) ∧ w = []) :=
  CP.of (lv := [(0, .int a0)]) (by decide +kernel) (Nat.le_of_ble_eq_true rfl) rfl (fun X hl hE hro hX hq hn => t_X11_factsOf_0 hX hq ⟨rfl, rfl⟩ a0 hf)
theorem kw_RX11_X11_factsOf : KwS RX11 191 yX11_factsOf cX11_factsOf 1 (some .int) 1 := ⟨mem_wsS wd_3_45 wd_3_46 wd_1_1 wd_3_47, ⟨by decide +kernel, by decide +kernel, by decide +kernel⟩, by decide⟩
theorem k_RX11_X11_factsOf {X : Cx} {cc : ByteArray} {nL ce sl pc : Nat} {lv : List (Nat × Value)} {st : List Value} {dX mcX msX : Nat} {retX : Option FieldType} {PostX : Option Value → va_W → Prop} {ws : va_W} (hX : Ok X cc nL RX11) (hq : Rq X dX mcX msX retX PostX) {a0 r : Int32} (hf : f_X11_factsOf a0 = some r) (hd : 0 < dX) (hc : ce ≤ mcX) (hs : sl ≤ msX) (hcat : (st.map fun v => v.category).sum ≤ 8) (hdg : decode cc pc = .ok (.invokestatic 191, 3)) (kk : G X nL ce sl (pc + 3) lv (.int r :: st) ws) : G X nL ce sl pc lv (.int a0 :: st) ws :=
  g_eqW (app0 ws) (g_callS (pre := ws) (mid := []) (post := []) [.int a0] hX hq kw_RX11_X11_factsOf (c_X11_factsOf hf) (fun _ h => absurd h List.not_mem_nil) hd hc hs rfl rfl hcat hdg (fun rv ws2 hp => by obtain ⟨rfl, rfl⟩ := hp; exact g_eqW (app0 ws).symm kk))
theorem kw_RX4_X11_factsOf : KwN RX4 150 yX11_factsOf RX11 cX11_factsOf 1 (some .int) 1 := ⟨List.mem_of_getElem? (i := 9) rfl, wd_3_46, wd_1_1, wd_3_47, ⟨by decide +kernel, by decide +kernel, by decide +kernel⟩, by decide⟩
theorem k_RX4_X11_factsOf {X : Cx} {cc : ByteArray} {nL ce sl pc : Nat} {lv : List (Nat × Value)} {st : List Value} {dX mcX msX : Nat} {retX : Option FieldType} {PostX : Option Value → va_W → Prop} {ws : va_W} (hX : Ok X cc nL RX4) (hq : Rq X dX mcX msX retX PostX) {a0 r : Int32} (hf : f_X11_factsOf a0 = some r) (hd : 0 < dX) (hc : ce ≤ mcX) (hs : sl ≤ msX) (hcat : (st.map fun v => v.category).sum ≤ 8) (hdg : decode cc pc = .ok (.invokestatic 150, 3)) (kk : G X nL ce sl (pc + 3) lv (.int r :: st) ws) : G X nL ce sl pc lv (.int a0 :: st) ws :=
  g_eqW (app0 ws) (g_callN (pre := ws) (mid := []) (post := []) [.int a0] hX hq kw_RX4_X11_factsOf (c_X11_factsOf hf) (fun _ h => absurd h List.not_mem_nil) hd hc hs rfl rfl hcat hdg (fun rv ws2 hp => by obtain ⟨rfl, rfl⟩ := hp; exact g_eqW (app0 ws).symm kk))
def f_X11_turned (a0 : Int32) : Option Int32 :=
  some ((jshl (a0 &&& 255) 8) ||| ((jshr a0 8) &&& 255))
set_option maxRecDepth 100000 in
set_option maxHeartbeats 4000000 in
theorem t_X11_turned_0 {X : Cx} {PostX : Option Value → va_W → Prop} (hX : Ok X cX11_turned 1 RX11) (hq : Rq X 0 0 0 (some .int) PostX) {u : Int32} (hp : PostX (some (.int u)) []) (a0 : Int32) (hf : f_X11_turned a0 = some u) : G X 1 0 0 0 [(0, .int a0)] [] [] := by
  unfold f_X11_turned at hf
  refine g_iloadn hX 0 rfl rfl dX11_turned_0 ?_
  refine g_sipush hX (v := 255) (by decide) dX11_turned_1 ?_
  refine g_iand hX dX11_turned_4 ?_
  refine g_bipush hX (v := 8) (by decide) dX11_turned_5 ?_
  refine g_jshl hX dX11_turned_7 ?_
  refine g_iloadn hX 0 rfl rfl dX11_turned_8 ?_
  refine g_bipush hX (v := 8) (by decide) dX11_turned_9 ?_
  refine g_jshr hX dX11_turned_11 ?_
  refine g_sipush hX (v := 255) (by decide) dX11_turned_12 ?_
  refine g_iand hX dX11_turned_15 ?_
  refine g_ior hX dX11_turned_16 ?_
  obtain rfl := oi hf
  exact g_iret hX hq (by decide) (by decide) hp dX11_turned_17
theorem c_X11_turned {l : Launch} {E : En} {a0 r : Int32} (hf : f_X11_turned a0 = some r) : CP l E yX11_turned cX11_turned 1 (some .int) 0 0 0 [] [.int a0] [] (fun rv w => rv = some (.int r) ∧ w = []) :=
  CP.of (lv := [(0, .int a0)]) (by decide +kernel) (Nat.le_of_ble_eq_true rfl) rfl (fun X hl hE hro hX hq hn => t_X11_turned_0 hX hq ⟨rfl, rfl⟩ a0 hf)
theorem kw_RX11_X11_turned : KwS RX11 278 yX11_turned cX11_turned 1 (some .int) 1 := ⟨mem_wsS wd_3_39 wd_3_40 wd_1_1 wd_3_41, ⟨by decide +kernel, by decide +kernel, by decide +kernel⟩, by decide⟩
theorem k_RX11_X11_turned {X : Cx} {cc : ByteArray} {nL ce sl pc : Nat} {lv : List (Nat × Value)} {st : List Value} {dX mcX msX : Nat} {retX : Option FieldType} {PostX : Option Value → va_W → Prop} {ws : va_W} (hX : Ok X cc nL RX11) (hq : Rq X dX mcX msX retX PostX) {a0 r : Int32} (hf : f_X11_turned a0 = some r) (hd : 0 < dX) (hc : ce ≤ mcX) (hs : sl ≤ msX) (hcat : (st.map fun v => v.category).sum ≤ 8) (hdg : decode cc pc = .ok (.invokestatic 278, 3)) (kk : G X nL ce sl (pc + 3) lv (.int r :: st) ws) : G X nL ce sl pc lv (.int a0 :: st) ws :=
  g_eqW (app0 ws) (g_callS (pre := ws) (mid := []) (post := []) [.int a0] hX hq kw_RX11_X11_turned (c_X11_turned hf) (fun _ h => absurd h List.not_mem_nil) hd hc hs rfl rfl hcat hdg (fun rv ws2 hp => by obtain ⟨rfl, rfl⟩ := hp; exact g_eqW (app0 ws).symm kk))
theorem kw_RX4_X11_turned : KwN RX4 156 yX11_turned RX11 cX11_turned 1 (some .int) 1 := ⟨List.mem_of_getElem? (i := 11) rfl, wd_3_40, wd_1_1, wd_3_41, ⟨by decide +kernel, by decide +kernel, by decide +kernel⟩, by decide⟩
theorem k_RX4_X11_turned {X : Cx} {cc : ByteArray} {nL ce sl pc : Nat} {lv : List (Nat × Value)} {st : List Value} {dX mcX msX : Nat} {retX : Option FieldType} {PostX : Option Value → va_W → Prop} {ws : va_W} (hX : Ok X cc nL RX4) (hq : Rq X dX mcX msX retX PostX) {a0 r : Int32} (hf : f_X11_turned a0 = some r) (hd : 0 < dX) (hc : ce ≤ mcX) (hs : sl ≤ msX) (hcat : (st.map fun v => v.category).sum ≤ 8) (hdg : decode cc pc = .ok (.invokestatic 156, 3)) (kk : G X nL ce sl (pc + 3) lv (.int r :: st) ws) : G X nL ce sl pc lv (.int a0 :: st) ws :=
  g_eqW (app0 ws) (g_callN (pre := ws) (mid := []) (post := []) [.int a0] hX hq kw_RX4_X11_turned (c_X11_turned hf) (fun _ h => absurd h List.not_mem_nil) hd hc hs rfl rfl hcat hdg (fun rv ws2 hp => by obtain ⟨rfl, rfl⟩ := hp; exact g_eqW (app0 ws).symm kk))
def f_X11_truth (a0 : Int32) : Option Int32 :=
  some (a0 ||| (jshl (255 &&& (a0 ^^^ (-1))) 8))
set_option maxRecDepth 100000 in
set_option maxHeartbeats 4000000 in
theorem t_X11_truth_0 {X : Cx} {PostX : Option Value → va_W → Prop} (hX : Ok X cX11_truth 1 RX11) (hq : Rq X 0 0 0 (some .int) PostX) {u : Int32} (hp : PostX (some (.int u)) []) (a0 : Int32) (hf : f_X11_truth a0 = some u) : G X 1 0 0 0 [(0, .int a0)] [] [] := by
  unfold f_X11_truth at hf
  refine g_iloadn hX 0 rfl rfl dX11_truth_0 ?_
  refine g_sipush hX (v := 255) (by decide) dX11_truth_1 ?_
  refine g_iloadn hX 0 rfl rfl dX11_truth_4 ?_
  refine g_iconst hX (v := (-1)) (by decide) dX11_truth_5 ?_
  refine g_ixor hX dX11_truth_6 ?_
  refine g_iand hX dX11_truth_7 ?_
  refine g_bipush hX (v := 8) (by decide) dX11_truth_8 ?_
  refine g_jshl hX dX11_truth_10 ?_
  refine g_ior hX dX11_truth_11 ?_
  obtain rfl := oi hf
  exact g_iret hX hq (by decide) (by decide) hp dX11_truth_12
theorem c_X11_truth {l : Launch} {E : En} {a0 r : Int32} (hf : f_X11_truth a0 = some r) : CP l E yX11_truth cX11_truth 1 (some .int) 0 0 0 [] [.int a0] [] (fun rv w => rv = some (.int r) ∧ w = []) :=
  CP.of (lv := [(0, .int a0)]) (by decide +kernel) (Nat.le_of_ble_eq_true rfl) rfl (fun X hl hE hro hX hq hn => t_X11_truth_0 hX hq ⟨rfl, rfl⟩ a0 hf)
theorem kw_RX11_X11_truth : KwS RX11 120 yX11_truth cX11_truth 1 (some .int) 1 := ⟨mem_wsS wd_3_101 wd_3_102 wd_1_1 wd_3_103, ⟨by decide +kernel, by decide +kernel, by decide +kernel⟩, by decide⟩
theorem k_RX11_X11_truth {X : Cx} {cc : ByteArray} {nL ce sl pc : Nat} {lv : List (Nat × Value)} {st : List Value} {dX mcX msX : Nat} {retX : Option FieldType} {PostX : Option Value → va_W → Prop} {ws : va_W} (hX : Ok X cc nL RX11) (hq : Rq X dX mcX msX retX PostX) {a0 r : Int32} (hf : f_X11_truth a0 = some r) (hd : 0 < dX) (hc : ce ≤ mcX) (hs : sl ≤ msX) (hcat : (st.map fun v => v.category).sum ≤ 8) (hdg : decode cc pc = .ok (.invokestatic 120, 3)) (kk : G X nL ce sl (pc + 3) lv (.int r :: st) ws) : G X nL ce sl pc lv (.int a0 :: st) ws :=
  g_eqW (app0 ws) (g_callS (pre := ws) (mid := []) (post := []) [.int a0] hX hq kw_RX11_X11_truth (c_X11_truth hf) (fun _ h => absurd h List.not_mem_nil) hd hc hs rfl rfl hcat hdg (fun rv ws2 hp => by obtain ⟨rfl, rfl⟩ := hp; exact g_eqW (app0 ws).symm kk))
def f_X11_isWithin (a0 : Int32) (a1 : Int32) : Option Int32 :=
  if ((a0 &&& (a1 ^^^ (-1))) = 0 : Prop) then
    some 1
  else
    some 0
set_option maxRecDepth 100000 in
set_option maxHeartbeats 4000000 in
theorem t_X11_isWithin_0 {X : Cx} {PostX : Option Value → va_W → Prop} (hX : Ok X cX11_isWithin 2 RX11) (hq : Rq X 0 0 0 (some .boolean) PostX) {u : Int32} (hp : PostX (some (.int u)) []) (a0 : Int32) (a1 : Int32) (hf : f_X11_isWithin a0 a1 = some u) : G X 2 0 0 0 [(0, .int a0), (1, .int a1)] [] [] := by
  unfold f_X11_isWithin at hf
  refine g_iloadn hX 0 rfl rfl dX11_isWithin_0 ?_
  refine g_iloadn hX 1 rfl rfl dX11_isWithin_1 ?_
  refine g_iconst hX (v := (-1)) (by decide) dX11_isWithin_2 ?_
  refine g_ixor hX dX11_isWithin_3 ?_
  refine g_iand hX dX11_isWithin_4 ?_
  refine g_if_ne hX 12 (by decide) dX11_isWithin_5 (fun c1 => ?_) (fun c1 => ?_)
  · have hf := ite_f c1 hf
    refine g_iconst hX (v := 0) (by decide) dX11_isWithin_12 ?_
    obtain rfl := oi hf
    exact g_zret hX hq (by decide) (by decide) (by rfl) hp dX11_isWithin_13
  · have hf := ite_t c1 hf
    refine g_iconst hX (v := 1) (by decide) dX11_isWithin_8 ?_
    refine g_goto hX 13 (by decide) dX11_isWithin_9 ?_
    obtain rfl := oi hf
    exact g_zret hX hq (by decide) (by decide) (by rfl) hp dX11_isWithin_13
theorem c_X11_isWithin {l : Launch} {E : En} {a0 a1 r : Int32} (hf : f_X11_isWithin a0 a1 = some r) : CP l E yX11_isWithin cX11_isWithin 2 (some .boolean) 0 0 0 [] [.int a0, .int a1] [] (fun rv w => rv = some (.int r) ∧ w = []) :=
  CP.of (lv := [(0, .int a0), (1, .int a1)]) (by decide +kernel) (Nat.le_of_ble_eq_true rfl) rfl (fun X hl hE hro hX hq hn => t_X11_isWithin_0 hX hq ⟨rfl, rfl⟩ a0 a1 hf)
theorem kw_RX11_X11_isWithin : KwS RX11 123 yX11_isWithin cX11_isWithin 2 (some .boolean) 2 := ⟨mem_wsS wd_3_104 wd_3_105 wd_1_1 wd_3_106, ⟨by decide +kernel, by decide +kernel, by decide +kernel⟩, by decide⟩
theorem k_RX11_X11_isWithin {X : Cx} {cc : ByteArray} {nL ce sl pc : Nat} {lv : List (Nat × Value)} {st : List Value} {dX mcX msX : Nat} {retX : Option FieldType} {PostX : Option Value → va_W → Prop} {ws : va_W} (hX : Ok X cc nL RX11) (hq : Rq X dX mcX msX retX PostX) {a0 a1 r : Int32} (hf : f_X11_isWithin a0 a1 = some r) (hd : 0 < dX) (hc : ce ≤ mcX) (hs : sl ≤ msX) (hcat : (st.map fun v => v.category).sum ≤ 8) (hdg : decode cc pc = .ok (.invokestatic 123, 3)) (kk : G X nL ce sl (pc + 3) lv (.int r :: st) ws) : G X nL ce sl pc lv (.int a1 :: .int a0 :: st) ws :=
  g_eqW (app0 ws) (g_callS (pre := ws) (mid := []) (post := []) [.int a0, .int a1] hX hq kw_RX11_X11_isWithin (c_X11_isWithin hf) (fun _ h => absurd h List.not_mem_nil) hd hc hs rfl rfl hcat hdg (fun rv ws2 hp => by obtain ⟨rfl, rfl⟩ := hp; exact g_eqW (app0 ws).symm kk))
def f_X11_asHeard (a0 : Int32) (a1 : Int32) : Option Int32 :=
  cs (f_J6_bitCount_0f7a4 (a0 &&& a1)) fun r1 =>
  some r1
set_option maxRecDepth 100000 in
set_option maxHeartbeats 4000000 in
theorem t_X11_asHeard_0 {X : Cx} {PostX : Option Value → va_W → Prop} (hX : Ok X cX11_asHeard 2 RX11) (hq : Rq X 1 0 0 (some .int) PostX) {u : Int32} (hp : PostX (some (.int u)) []) (a0 : Int32) (a1 : Int32) (hf : f_X11_asHeard a0 a1 = some u) : G X 2 0 0 0 [(0, .int a0), (1, .int a1)] [] [] := by
  unfold f_X11_asHeard at hf
  refine g_iloadn hX 0 rfl rfl dX11_asHeard_0 ?_
  refine g_iloadn hX 1 rfl rfl dX11_asHeard_1 ?_
  refine g_iand hX dX11_asHeard_2 ?_
  obtain ⟨r1, h2, hf⟩ := cs_open hf
  refine k_RX11_J6_bitCount_0f7a4 hX hq h2 (by decide) (by decide) (by decide) (Nat.le_of_ble_eq_true rfl) dX11_asHeard_3 ?_
  obtain rfl := oi hf
  exact g_iret hX hq (by decide) (by decide) hp dX11_asHeard_6
theorem c_X11_asHeard {l : Launch} {E : En} {a0 a1 r : Int32} (hf : f_X11_asHeard a0 a1 = some r) : CP l E yX11_asHeard cX11_asHeard 2 (some .int) 1 0 0 [] [.int a0, .int a1] [] (fun rv w => rv = some (.int r) ∧ w = []) :=
  CP.of (lv := [(0, .int a0), (1, .int a1)]) (by decide +kernel) (Nat.le_of_ble_eq_true rfl) rfl (fun X hl hE hro hX hq hn => t_X11_asHeard_0 hX hq ⟨rfl, rfl⟩ a0 a1 hf)
theorem kw_RX11_X11_asHeard : KwS RX11 105 yX11_asHeard cX11_asHeard 2 (some .int) 2 := ⟨mem_wsS wd_3_33 wd_3_34 wd_1_1 wd_3_35, ⟨by decide +kernel, by decide +kernel, by decide +kernel⟩, by decide⟩
theorem k_RX11_X11_asHeard {X : Cx} {cc : ByteArray} {nL ce sl pc : Nat} {lv : List (Nat × Value)} {st : List Value} {dX mcX msX : Nat} {retX : Option FieldType} {PostX : Option Value → va_W → Prop} {ws : va_W} (hX : Ok X cc nL RX11) (hq : Rq X dX mcX msX retX PostX) {a0 a1 r : Int32} (hf : f_X11_asHeard a0 a1 = some r) (hd : 1 < dX) (hc : ce ≤ mcX) (hs : sl ≤ msX) (hcat : (st.map fun v => v.category).sum ≤ 8) (hdg : decode cc pc = .ok (.invokestatic 105, 3)) (kk : G X nL ce sl (pc + 3) lv (.int r :: st) ws) : G X nL ce sl pc lv (.int a1 :: .int a0 :: st) ws :=
  g_eqW (app0 ws) (g_callS (pre := ws) (mid := []) (post := []) [.int a0, .int a1] hX hq kw_RX11_X11_asHeard (c_X11_asHeard hf) (fun _ h => absurd h List.not_mem_nil) hd hc hs rfl rfl hcat hdg (fun rv ws2 hp => by obtain ⟨rfl, rfl⟩ := hp; exact g_eqW (app0 ws).symm kk))
theorem kw_RX4_X11_asHeard : KwN RX4 111 yX11_asHeard RX11 cX11_asHeard 2 (some .int) 2 := ⟨List.mem_of_getElem? (i := 5) rfl, wd_3_34, wd_1_1, wd_3_35, ⟨by decide +kernel, by decide +kernel, by decide +kernel⟩, by decide⟩
theorem k_RX4_X11_asHeard {X : Cx} {cc : ByteArray} {nL ce sl pc : Nat} {lv : List (Nat × Value)} {st : List Value} {dX mcX msX : Nat} {retX : Option FieldType} {PostX : Option Value → va_W → Prop} {ws : va_W} (hX : Ok X cc nL RX4) (hq : Rq X dX mcX msX retX PostX) {a0 a1 r : Int32} (hf : f_X11_asHeard a0 a1 = some r) (hd : 1 < dX) (hc : ce ≤ mcX) (hs : sl ≤ msX) (hcat : (st.map fun v => v.category).sum ≤ 8) (hdg : decode cc pc = .ok (.invokestatic 111, 3)) (kk : G X nL ce sl (pc + 3) lv (.int r :: st) ws) : G X nL ce sl pc lv (.int a1 :: .int a0 :: st) ws :=
  g_eqW (app0 ws) (g_callN (pre := ws) (mid := []) (post := []) [.int a0, .int a1] hX hq kw_RX4_X11_asHeard (c_X11_asHeard hf) (fun _ h => absurd h List.not_mem_nil) hd hc hs rfl rfl hcat hdg (fun rv ws2 hp => by obtain ⟨rfl, rfl⟩ := hp; exact g_eqW (app0 ws).symm kk))
def f_X11_otherWay (a0 : Int32) (a1 : Int32) : Option Int32 :=
  cs (f_X11_turned a1) fun r1 =>
  cs (f_J6_bitCount_0f7a4 (a0 &&& r1)) fun r3 =>
  some r3
set_option maxRecDepth 100000 in
set_option maxHeartbeats 4000000 in
theorem t_X11_otherWay_0 {X : Cx} {PostX : Option Value → va_W → Prop} (hX : Ok X cX11_otherWay 2 RX11) (hq : Rq X 1 0 0 (some .int) PostX) {u : Int32} (hp : PostX (some (.int u)) []) (a0 : Int32) (a1 : Int32) (hf : f_X11_otherWay a0 a1 = some u) : G X 2 0 0 0 [(0, .int a0), (1, .int a1)] [] [] := by
  unfold f_X11_otherWay at hf
  refine g_iloadn hX 0 rfl rfl dX11_otherWay_0 ?_
  refine g_iloadn hX 1 rfl rfl dX11_otherWay_1 ?_
  obtain ⟨r1, h2, hf⟩ := cs_open hf
  refine k_RX11_X11_turned hX hq h2 (by decide) (by decide) (by decide) (Nat.le_of_ble_eq_true rfl) dX11_otherWay_2 ?_
  refine g_iand hX dX11_otherWay_5 ?_
  obtain ⟨r3, h4, hf⟩ := cs_open hf
  refine k_RX11_J6_bitCount_0f7a4 hX hq h4 (by decide) (by decide) (by decide) (Nat.le_of_ble_eq_true rfl) dX11_otherWay_6 ?_
  obtain rfl := oi hf
  exact g_iret hX hq (by decide) (by decide) hp dX11_otherWay_9
theorem c_X11_otherWay {l : Launch} {E : En} {a0 a1 r : Int32} (hf : f_X11_otherWay a0 a1 = some r) : CP l E yX11_otherWay cX11_otherWay 2 (some .int) 1 0 0 [] [.int a0, .int a1] [] (fun rv w => rv = some (.int r) ∧ w = []) :=
  CP.of (lv := [(0, .int a0), (1, .int a1)]) (by decide +kernel) (Nat.le_of_ble_eq_true rfl) rfl (fun X hl hE hro hX hq hn => t_X11_otherWay_0 hX hq ⟨rfl, rfl⟩ a0 a1 hf)
theorem kw_RX11_X11_otherWay : KwS RX11 108 yX11_otherWay cX11_otherWay 2 (some .int) 2 := ⟨mem_wsS wd_3_36 wd_3_37 wd_1_1 wd_3_38, ⟨by decide +kernel, by decide +kernel, by decide +kernel⟩, by decide⟩
theorem k_RX11_X11_otherWay {X : Cx} {cc : ByteArray} {nL ce sl pc : Nat} {lv : List (Nat × Value)} {st : List Value} {dX mcX msX : Nat} {retX : Option FieldType} {PostX : Option Value → va_W → Prop} {ws : va_W} (hX : Ok X cc nL RX11) (hq : Rq X dX mcX msX retX PostX) {a0 a1 r : Int32} (hf : f_X11_otherWay a0 a1 = some r) (hd : 1 < dX) (hc : ce ≤ mcX) (hs : sl ≤ msX) (hcat : (st.map fun v => v.category).sum ≤ 8) (hdg : decode cc pc = .ok (.invokestatic 108, 3)) (kk : G X nL ce sl (pc + 3) lv (.int r :: st) ws) : G X nL ce sl pc lv (.int a1 :: .int a0 :: st) ws :=
  g_eqW (app0 ws) (g_callS (pre := ws) (mid := []) (post := []) [.int a0, .int a1] hX hq kw_RX11_X11_otherWay (c_X11_otherWay hf) (fun _ h => absurd h List.not_mem_nil) hd hc hs rfl rfl hcat hdg (fun rv ws2 hp => by obtain ⟨rfl, rfl⟩ := hp; exact g_eqW (app0 ws).symm kk))
theorem kw_RX4_X11_otherWay : KwN RX4 115 yX11_otherWay RX11 cX11_otherWay 2 (some .int) 2 := ⟨List.mem_of_getElem? (i := 6) rfl, wd_3_37, wd_1_1, wd_3_38, ⟨by decide +kernel, by decide +kernel, by decide +kernel⟩, by decide⟩
theorem k_RX4_X11_otherWay {X : Cx} {cc : ByteArray} {nL ce sl pc : Nat} {lv : List (Nat × Value)} {st : List Value} {dX mcX msX : Nat} {retX : Option FieldType} {PostX : Option Value → va_W → Prop} {ws : va_W} (hX : Ok X cc nL RX4) (hq : Rq X dX mcX msX retX PostX) {a0 a1 r : Int32} (hf : f_X11_otherWay a0 a1 = some r) (hd : 1 < dX) (hc : ce ≤ mcX) (hs : sl ≤ msX) (hcat : (st.map fun v => v.category).sum ≤ 8) (hdg : decode cc pc = .ok (.invokestatic 115, 3)) (kk : G X nL ce sl (pc + 3) lv (.int r :: st) ws) : G X nL ce sl pc lv (.int a1 :: .int a0 :: st) ws :=
  g_eqW (app0 ws) (g_callN (pre := ws) (mid := []) (post := []) [.int a0, .int a1] hX hq kw_RX4_X11_otherWay (c_X11_otherWay hf) (fun _ h => absurd h List.not_mem_nil) hd hc hs rfl rfl hcat hdg (fun rv ws2 hp => by obtain ⟨rfl, rfl⟩ := hp; exact g_eqW (app0 ws).symm kk))
def f_X11_unheard (a0 : Int32) (a1 : Int32) : Option Int32 :=
  cs (f_X11_factsOf a1) fun r1 =>
  cs (f_X11_bothWays r1) fun r3 =>
  cs (f_J6_bitCount_0f7a4 (a0 &&& (r3 ^^^ (-1)))) fun r5 =>
  some r5
set_option maxRecDepth 100000 in
set_option maxHeartbeats 4000000 in
theorem t_X11_unheard_0 {X : Cx} {PostX : Option Value → va_W → Prop} (hX : Ok X cX11_unheard 2 RX11) (hq : Rq X 1 0 0 (some .int) PostX) {u : Int32} (hp : PostX (some (.int u)) []) (a0 : Int32) (a1 : Int32) (hf : f_X11_unheard a0 a1 = some u) : G X 2 0 0 0 [(0, .int a0), (1, .int a1)] [] [] := by
  unfold f_X11_unheard at hf
  refine g_iloadn hX 0 rfl rfl dX11_unheard_0 ?_
  refine g_iloadn hX 1 rfl rfl dX11_unheard_1 ?_
  obtain ⟨r1, h2, hf⟩ := cs_open hf
  refine k_RX11_X11_factsOf hX hq h2 (by decide) (by decide) (by decide) (Nat.le_of_ble_eq_true rfl) dX11_unheard_2 ?_
  obtain ⟨r3, h4, hf⟩ := cs_open hf
  refine k_RX11_X11_bothWays hX hq h4 (by decide) (by decide) (by decide) (Nat.le_of_ble_eq_true rfl) dX11_unheard_5 ?_
  refine g_iconst hX (v := (-1)) (by decide) dX11_unheard_8 ?_
  refine g_ixor hX dX11_unheard_9 ?_
  refine g_iand hX dX11_unheard_10 ?_
  obtain ⟨r5, h6, hf⟩ := cs_open hf
  refine k_RX11_J6_bitCount_0f7a4 hX hq h6 (by decide) (by decide) (by decide) (Nat.le_of_ble_eq_true rfl) dX11_unheard_11 ?_
  obtain rfl := oi hf
  exact g_iret hX hq (by decide) (by decide) hp dX11_unheard_14
theorem c_X11_unheard {l : Launch} {E : En} {a0 a1 r : Int32} (hf : f_X11_unheard a0 a1 = some r) : CP l E yX11_unheard cX11_unheard 2 (some .int) 1 0 0 [] [.int a0, .int a1] [] (fun rv w => rv = some (.int r) ∧ w = []) :=
  CP.of (lv := [(0, .int a0), (1, .int a1)]) (by decide +kernel) (Nat.le_of_ble_eq_true rfl) rfl (fun X hl hE hro hX hq hn => t_X11_unheard_0 hX hq ⟨rfl, rfl⟩ a0 a1 hf)
theorem kw_RX11_X11_unheard : KwS RX11 111 yX11_unheard cX11_unheard 2 (some .int) 2 := ⟨mem_wsS wd_3_42 wd_3_43 wd_1_1 wd_3_44, ⟨by decide +kernel, by decide +kernel, by decide +kernel⟩, by decide⟩
theorem k_RX11_X11_unheard {X : Cx} {cc : ByteArray} {nL ce sl pc : Nat} {lv : List (Nat × Value)} {st : List Value} {dX mcX msX : Nat} {retX : Option FieldType} {PostX : Option Value → va_W → Prop} {ws : va_W} (hX : Ok X cc nL RX11) (hq : Rq X dX mcX msX retX PostX) {a0 a1 r : Int32} (hf : f_X11_unheard a0 a1 = some r) (hd : 1 < dX) (hc : ce ≤ mcX) (hs : sl ≤ msX) (hcat : (st.map fun v => v.category).sum ≤ 8) (hdg : decode cc pc = .ok (.invokestatic 111, 3)) (kk : G X nL ce sl (pc + 3) lv (.int r :: st) ws) : G X nL ce sl pc lv (.int a1 :: .int a0 :: st) ws :=
  g_eqW (app0 ws) (g_callS (pre := ws) (mid := []) (post := []) [.int a0, .int a1] hX hq kw_RX11_X11_unheard (c_X11_unheard hf) (fun _ h => absurd h List.not_mem_nil) hd hc hs rfl rfl hcat hdg (fun rv ws2 hp => by obtain ⟨rfl, rfl⟩ := hp; exact g_eqW (app0 ws).symm kk))
theorem kw_RX4_X11_unheard : KwN RX4 118 yX11_unheard RX11 cX11_unheard 2 (some .int) 2 := ⟨List.mem_of_getElem? (i := 7) rfl, wd_3_43, wd_1_1, wd_3_44, ⟨by decide +kernel, by decide +kernel, by decide +kernel⟩, by decide⟩
theorem k_RX4_X11_unheard {X : Cx} {cc : ByteArray} {nL ce sl pc : Nat} {lv : List (Nat × Value)} {st : List Value} {dX mcX msX : Nat} {retX : Option FieldType} {PostX : Option Value → va_W → Prop} {ws : va_W} (hX : Ok X cc nL RX4) (hq : Rq X dX mcX msX retX PostX) {a0 a1 r : Int32} (hf : f_X11_unheard a0 a1 = some r) (hd : 1 < dX) (hc : ce ≤ mcX) (hs : sl ≤ msX) (hcat : (st.map fun v => v.category).sum ≤ 8) (hdg : decode cc pc = .ok (.invokestatic 118, 3)) (kk : G X nL ce sl (pc + 3) lv (.int r :: st) ws) : G X nL ce sl pc lv (.int a1 :: .int a0 :: st) ws :=
  g_eqW (app0 ws) (g_callN (pre := ws) (mid := []) (post := []) [.int a0, .int a1] hX hq kw_RX4_X11_unheard (c_X11_unheard hf) (fun _ h => absurd h List.not_mem_nil) hd hc hs rfl rfl hcat hdg (fun rv ws2 hp => by obtain ⟨rfl, rfl⟩ := hp; exact g_eqW (app0 ws).symm kk))
def f_X11_placeOf (a0 : Int32) (a1 : Int32) (a2 : Int32) : Option Int32 :=
  some ((((a0 * 9) + a1) * 9) + a2)
set_option maxRecDepth 100000 in
set_option maxHeartbeats 4000000 in
theorem t_X11_placeOf_0 {X : Cx} {PostX : Option Value → va_W → Prop} (hX : Ok X cX11_placeOf 3 RX11) (hq : Rq X 0 0 0 (some .int) PostX) {u : Int32} (hp : PostX (some (.int u)) []) (a0 : Int32) (a1 : Int32) (a2 : Int32) (hf : f_X11_placeOf a0 a1 a2 = some u) : G X 3 0 0 0 [(0, .int a0), (1, .int a1), (2, .int a2)] [] [] := by
  unfold f_X11_placeOf at hf
  refine g_iloadn hX 0 rfl rfl dX11_placeOf_0 ?_
  refine g_bipush hX (v := 9) (by decide) dX11_placeOf_1 ?_
  refine g_imul hX dX11_placeOf_3 ?_
  refine g_iloadn hX 1 rfl rfl dX11_placeOf_4 ?_
  refine g_iadd hX dX11_placeOf_5 ?_
  refine g_bipush hX (v := 9) (by decide) dX11_placeOf_6 ?_
  refine g_imul hX dX11_placeOf_8 ?_
  refine g_iloadn hX 2 rfl rfl dX11_placeOf_9 ?_
  refine g_iadd hX dX11_placeOf_10 ?_
  obtain rfl := oi hf
  exact g_iret hX hq (by decide) (by decide) hp dX11_placeOf_11
theorem c_X11_placeOf {l : Launch} {E : En} {a0 a1 a2 r : Int32} (hf : f_X11_placeOf a0 a1 a2 = some r) : CP l E yX11_placeOf cX11_placeOf 3 (some .int) 0 0 0 [] [.int a0, .int a1, .int a2] [] (fun rv w => rv = some (.int r) ∧ w = []) :=
  CP.of (lv := [(0, .int a0), (1, .int a1), (2, .int a2)]) (by decide +kernel) (Nat.le_of_ble_eq_true rfl) rfl (fun X hl hE hro hX hq hn => t_X11_placeOf_0 hX hq ⟨rfl, rfl⟩ a0 a1 a2 hf)
theorem kw_RX4_X11_placeOf : KwN RX4 104 yX11_placeOf RX11 cX11_placeOf 3 (some .int) 3 := ⟨List.mem_of_getElem? (i := 1) rfl, wd_1_223, wd_1_1, wd_1_224, ⟨by decide +kernel, by decide +kernel, by decide +kernel⟩, by decide⟩
theorem k_RX4_X11_placeOf {X : Cx} {cc : ByteArray} {nL ce sl pc : Nat} {lv : List (Nat × Value)} {st : List Value} {dX mcX msX : Nat} {retX : Option FieldType} {PostX : Option Value → va_W → Prop} {ws : va_W} (hX : Ok X cc nL RX4) (hq : Rq X dX mcX msX retX PostX) {a0 a1 a2 r : Int32} (hf : f_X11_placeOf a0 a1 a2 = some r) (hd : 0 < dX) (hc : ce ≤ mcX) (hs : sl ≤ msX) (hcat : (st.map fun v => v.category).sum ≤ 8) (hdg : decode cc pc = .ok (.invokestatic 104, 3)) (kk : G X nL ce sl (pc + 3) lv (.int r :: st) ws) : G X nL ce sl pc lv (.int a2 :: .int a1 :: .int a0 :: st) ws :=
  g_eqW (app0 ws) (g_callN (pre := ws) (mid := []) (post := []) [.int a0, .int a1, .int a2] hX hq kw_RX4_X11_placeOf (c_X11_placeOf hf) (fun _ h => absurd h List.not_mem_nil) hd hc hs rfl rfl hcat hdg (fun rv ws2 hp => by obtain ⟨rfl, rfl⟩ := hp; exact g_eqW (app0 ws).symm kk))
def f_X11_held (a0 : Int32) (a1 : Int32) (a2 : Int32) : Option Int32 :=
  some (jmax a1 (jmin a2 a0))
set_option maxRecDepth 100000 in
set_option maxHeartbeats 4000000 in
theorem t_X11_held_0 {X : Cx} {PostX : Option Value → va_W → Prop} (hX : Ok X cX11_held 3 RX11) (hq : Rq X 1 0 0 (some .int) PostX) {u : Int32} (hp : PostX (some (.int u)) []) (a0 : Int32) (a1 : Int32) (a2 : Int32) (hf : f_X11_held a0 a1 a2 = some u) : G X 3 0 0 0 [(0, .int a0), (1, .int a1), (2, .int a2)] [] [] := by
  unfold f_X11_held at hf
  refine g_iloadn hX 1 rfl rfl dX11_held_0 ?_
  refine g_iloadn hX 2 rfl rfl dX11_held_1 ?_
  refine g_iloadn hX 0 rfl rfl dX11_held_2 ?_
  refine g_jmin hX hq km_RX11_min (by decide) (by decide) (by decide) (Nat.le_of_ble_eq_true rfl) dX11_held_3 ?_
  refine g_jmax hX hq km_RX11_max (by decide) (by decide) (by decide) (Nat.le_of_ble_eq_true rfl) dX11_held_6 ?_
  obtain rfl := oi hf
  exact g_iret hX hq (by decide) (by decide) hp dX11_held_9
theorem c_X11_held {l : Launch} {E : En} {a0 a1 a2 r : Int32} (hf : f_X11_held a0 a1 a2 = some r) : CP l E yX11_held cX11_held 3 (some .int) 1 0 0 [] [.int a0, .int a1, .int a2] [] (fun rv w => rv = some (.int r) ∧ w = []) :=
  CP.of (lv := [(0, .int a0), (1, .int a1), (2, .int a2)]) (by decide +kernel) (Nat.le_of_ble_eq_true rfl) rfl (fun X hl hE hro hX hq hn => t_X11_held_0 hX hq ⟨rfl, rfl⟩ a0 a1 a2 hf)
theorem kw_RX4_X11_held : KwN RX4 131 yX11_held RX11 cX11_held 3 (some .int) 3 := ⟨List.mem_of_getElem? (i := 8) rfl, wd_2_90, wd_1_1, wd_2_91, ⟨by decide +kernel, by decide +kernel, by decide +kernel⟩, by decide⟩
theorem k_RX4_X11_held {X : Cx} {cc : ByteArray} {nL ce sl pc : Nat} {lv : List (Nat × Value)} {st : List Value} {dX mcX msX : Nat} {retX : Option FieldType} {PostX : Option Value → va_W → Prop} {ws : va_W} (hX : Ok X cc nL RX4) (hq : Rq X dX mcX msX retX PostX) {a0 a1 a2 r : Int32} (hf : f_X11_held a0 a1 a2 = some r) (hd : 1 < dX) (hc : ce ≤ mcX) (hs : sl ≤ msX) (hcat : (st.map fun v => v.category).sum ≤ 8) (hdg : decode cc pc = .ok (.invokestatic 131, 3)) (kk : G X nL ce sl (pc + 3) lv (.int r :: st) ws) : G X nL ce sl pc lv (.int a2 :: .int a1 :: .int a0 :: st) ws :=
  g_eqW (app0 ws) (g_callN (pre := ws) (mid := []) (post := []) [.int a0, .int a1, .int a2] hX hq kw_RX4_X11_held (c_X11_held hf) (fun _ h => absurd h List.not_mem_nil) hd hc hs rfl rfl hcat hdg (fun rv ws2 hp => by obtain ⟨rfl, rfl⟩ := hp; exact g_eqW (app0 ws).symm kk))
theorem kw_RX2_X11_held : KwN RX2 70 yX11_held RX11 cX11_held 3 (some .int) 3 := ⟨List.mem_of_getElem? (i := 2) rfl, wd_2_90, wd_1_1, wd_2_91, ⟨by decide +kernel, by decide +kernel, by decide +kernel⟩, by decide⟩
theorem k_RX2_X11_held {X : Cx} {cc : ByteArray} {nL ce sl pc : Nat} {lv : List (Nat × Value)} {st : List Value} {dX mcX msX : Nat} {retX : Option FieldType} {PostX : Option Value → va_W → Prop} {ws : va_W} (hX : Ok X cc nL RX2) (hq : Rq X dX mcX msX retX PostX) {a0 a1 a2 r : Int32} (hf : f_X11_held a0 a1 a2 = some r) (hd : 1 < dX) (hc : ce ≤ mcX) (hs : sl ≤ msX) (hcat : (st.map fun v => v.category).sum ≤ 8) (hdg : decode cc pc = .ok (.invokestatic 70, 3)) (kk : G X nL ce sl (pc + 3) lv (.int r :: st) ws) : G X nL ce sl pc lv (.int a2 :: .int a1 :: .int a0 :: st) ws :=
  g_eqW (app0 ws) (g_callN (pre := ws) (mid := []) (post := []) [.int a0, .int a1, .int a2] hX hq kw_RX2_X11_held (c_X11_held hf) (fun _ h => absurd h List.not_mem_nil) hd hc hs rfl rfl hcat hdg (fun rv ws2 hp => by obtain ⟨rfl, rfl⟩ := hp; exact g_eqW (app0 ws).symm kk))
theorem kw_RX7_X11_held : KwN RX7 28 yX11_held RX11 cX11_held 3 (some .int) 3 := ⟨List.mem_of_getElem? (i := 12) rfl, wd_2_90, wd_1_1, wd_2_91, ⟨by decide +kernel, by decide +kernel, by decide +kernel⟩, by decide⟩
theorem k_RX7_X11_held {X : Cx} {cc : ByteArray} {nL ce sl pc : Nat} {lv : List (Nat × Value)} {st : List Value} {dX mcX msX : Nat} {retX : Option FieldType} {PostX : Option Value → va_W → Prop} {ws : va_W} (hX : Ok X cc nL RX7) (hq : Rq X dX mcX msX retX PostX) {a0 a1 a2 r : Int32} (hf : f_X11_held a0 a1 a2 = some r) (hd : 1 < dX) (hc : ce ≤ mcX) (hs : sl ≤ msX) (hcat : (st.map fun v => v.category).sum ≤ 8) (hdg : decode cc pc = .ok (.invokestatic 28, 3)) (kk : G X nL ce sl (pc + 3) lv (.int r :: st) ws) : G X nL ce sl pc lv (.int a2 :: .int a1 :: .int a0 :: st) ws :=
  g_eqW (app0 ws) (g_callN (pre := ws) (mid := []) (post := []) [.int a0, .int a1, .int a2] hX hq kw_RX7_X11_held (c_X11_held hf) (fun _ h => absurd h List.not_mem_nil) hd hc hs rfl rfl hcat hdg (fun rv ws2 hp => by obtain ⟨rfl, rfl⟩ := hp; exact g_eqW (app0 ws).symm kk))
def f_X11_sayingOf (a0 : Int32) (a1 : Int32) : Option Int32 :=
  some (((jshr a0 a1) &&& 1) + (2 * ((jshr a0 (8 + a1)) &&& 1)))
set_option maxRecDepth 100000 in
set_option maxHeartbeats 4000000 in
theorem t_X11_sayingOf_0 {X : Cx} {PostX : Option Value → va_W → Prop} (hX : Ok X cX11_sayingOf 2 RX11) (hq : Rq X 0 0 0 (some .int) PostX) {u : Int32} (hp : PostX (some (.int u)) []) (a0 : Int32) (a1 : Int32) (hf : f_X11_sayingOf a0 a1 = some u) : G X 2 0 0 0 [(0, .int a0), (1, .int a1)] [] [] := by
  unfold f_X11_sayingOf at hf
  refine g_iloadn hX 0 rfl rfl dX11_sayingOf_0 ?_
  refine g_iloadn hX 1 rfl rfl dX11_sayingOf_1 ?_
  refine g_jshr hX dX11_sayingOf_2 ?_
  refine g_iconst hX (v := 1) (by decide) dX11_sayingOf_3 ?_
  refine g_iand hX dX11_sayingOf_4 ?_
  refine g_iconst hX (v := 2) (by decide) dX11_sayingOf_5 ?_
  refine g_iloadn hX 0 rfl rfl dX11_sayingOf_6 ?_
  refine g_bipush hX (v := 8) (by decide) dX11_sayingOf_7 ?_
  refine g_iloadn hX 1 rfl rfl dX11_sayingOf_9 ?_
  refine g_iadd hX dX11_sayingOf_10 ?_
  refine g_jshr hX dX11_sayingOf_11 ?_
  refine g_iconst hX (v := 1) (by decide) dX11_sayingOf_12 ?_
  refine g_iand hX dX11_sayingOf_13 ?_
  refine g_imul hX dX11_sayingOf_14 ?_
  refine g_iadd hX dX11_sayingOf_15 ?_
  obtain rfl := oi hf
  exact g_iret hX hq (by decide) (by decide) hp dX11_sayingOf_16
theorem c_X11_sayingOf {l : Launch} {E : En} {a0 a1 r : Int32} (hf : f_X11_sayingOf a0 a1 = some r) : CP l E yX11_sayingOf cX11_sayingOf 2 (some .int) 0 0 0 [] [.int a0, .int a1] [] (fun rv w => rv = some (.int r) ∧ w = []) :=
  CP.of (lv := [(0, .int a0), (1, .int a1)]) (by decide +kernel) (Nat.le_of_ble_eq_true rfl) rfl (fun X hl hE hro hX hq hn => t_X11_sayingOf_0 hX hq ⟨rfl, rfl⟩ a0 a1 hf)
theorem kw_RX11_X11_sayingOf : KwS RX11 55 yX11_sayingOf cX11_sayingOf 2 (some .int) 2 := ⟨mem_wsS wd_2_227 wd_2_228 wd_1_1 wd_2_229, ⟨by decide +kernel, by decide +kernel, by decide +kernel⟩, by decide⟩
theorem k_RX11_X11_sayingOf {X : Cx} {cc : ByteArray} {nL ce sl pc : Nat} {lv : List (Nat × Value)} {st : List Value} {dX mcX msX : Nat} {retX : Option FieldType} {PostX : Option Value → va_W → Prop} {ws : va_W} (hX : Ok X cc nL RX11) (hq : Rq X dX mcX msX retX PostX) {a0 a1 r : Int32} (hf : f_X11_sayingOf a0 a1 = some r) (hd : 0 < dX) (hc : ce ≤ mcX) (hs : sl ≤ msX) (hcat : (st.map fun v => v.category).sum ≤ 8) (hdg : decode cc pc = .ok (.invokestatic 55, 3)) (kk : G X nL ce sl (pc + 3) lv (.int r :: st) ws) : G X nL ce sl pc lv (.int a1 :: .int a0 :: st) ws :=
  g_eqW (app0 ws) (g_callS (pre := ws) (mid := []) (post := []) [.int a0, .int a1] hX hq kw_RX11_X11_sayingOf (c_X11_sayingOf hf) (fun _ h => absurd h List.not_mem_nil) hd hc hs rfl rfl hcat hdg (fun rv ws2 hp => by obtain ⟨rfl, rfl⟩ := hp; exact g_eqW (app0 ws).symm kk))
def f_X11_withSaying (a0 : Int32) (a1 : Int32) (a2 : Int32) : Option Int32 :=
  cs (f_X11_bothWays (jshl 1 a1)) fun r1 =>
  bI (a0 &&& (r1 ^^^ (-1))) fun v3 =>
  if (a2 = 0 : Prop) then
    some v3
  else
    if (a2 = 1 : Prop) then
      some (v3 ||| (jshl 1 a1))
    else
      some (v3 ||| (jshl 1 (8 + a1)))
set_option maxRecDepth 100000 in
set_option maxHeartbeats 4000000 in
theorem t_X11_withSaying_0 {X : Cx} {PostX : Option Value → va_W → Prop} (hX : Ok X cX11_withSaying 4 RX11) (hq : Rq X 1 0 0 (some .int) PostX) {u : Int32} (hp : PostX (some (.int u)) []) (a0 : Int32) (a1 : Int32) (a2 : Int32) (hf : f_X11_withSaying a0 a1 a2 = some u) : G X 4 0 0 0 [(0, .int a0), (1, .int a1), (2, .int a2)] [] [] := by
  unfold f_X11_withSaying at hf
  refine g_iloadn hX 0 rfl rfl dX11_withSaying_0 ?_
  refine g_iconst hX (v := 1) (by decide) dX11_withSaying_1 ?_
  refine g_iloadn hX 1 rfl rfl dX11_withSaying_2 ?_
  refine g_jshl hX dX11_withSaying_3 ?_
  obtain ⟨r1, h2, hf⟩ := cs_open hf
  refine k_RX11_X11_bothWays hX hq h2 (by decide) (by decide) (by decide) (Nat.le_of_ble_eq_true rfl) dX11_withSaying_4 ?_
  refine g_iconst hX (v := (-1)) (by decide) dX11_withSaying_7 ?_
  refine g_ixor hX dX11_withSaying_8 ?_
  refine g_iand hX dX11_withSaying_9 ?_
  obtain ⟨v3, ev3, hf⟩ := bI_open hf
  refine g_nm ev3 ?_
  refine g_istoren hX [(3, .int v3), (0, .int a0), (1, .int a1), (2, .int a2)] rfl (by decide) rfl dX11_withSaying_10 ?_
  refine g_iloadn hX 3 rfl rfl dX11_withSaying_11 ?_
  refine g_if_ne hX 17 (by decide) dX11_withSaying_12 (fun c4 => ?_) (fun c4 => ?_)
  · have hf := ite_f c4 hf
    refine g_iloadn hX 3 rfl rfl dX11_withSaying_17 ?_
    refine g_iconst hX (v := 1) (by decide) dX11_withSaying_18 ?_
    refine g_icmp_ne hX 30 (by decide) dX11_withSaying_19 (fun c5 => ?_) (fun c5 => ?_)
    · have hf := ite_f c5 hf
      refine g_iloadn hX 0 rfl rfl dX11_withSaying_30 ?_
      refine g_iconst hX (v := 1) (by decide) dX11_withSaying_31 ?_
      refine g_bipush hX (v := 8) (by decide) dX11_withSaying_32 ?_
      refine g_iloadn hX 2 rfl rfl dX11_withSaying_34 ?_
      refine g_iadd hX dX11_withSaying_35 ?_
      refine g_jshl hX dX11_withSaying_36 ?_
      refine g_ior hX dX11_withSaying_37 ?_
      obtain rfl := oi hf
      exact g_iret hX hq (by decide) (by decide) hp dX11_withSaying_38
    · have hf := ite_t c5 hf
      refine g_iloadn hX 0 rfl rfl dX11_withSaying_22 ?_
      refine g_iconst hX (v := 1) (by decide) dX11_withSaying_23 ?_
      refine g_iloadn hX 2 rfl rfl dX11_withSaying_24 ?_
      refine g_jshl hX dX11_withSaying_25 ?_
      refine g_ior hX dX11_withSaying_26 ?_
      refine g_goto hX 38 (by decide) dX11_withSaying_27 ?_
      obtain rfl := oi hf
      exact g_iret hX hq (by decide) (by decide) hp dX11_withSaying_38
  · have hf := ite_t c4 hf
    refine g_iloadn hX 0 rfl rfl dX11_withSaying_15 ?_
    obtain rfl := oi hf
    exact g_iret hX hq (by decide) (by decide) hp dX11_withSaying_16
theorem c_X11_withSaying {l : Launch} {E : En} {a0 a1 a2 r : Int32} (hf : f_X11_withSaying a0 a1 a2 = some r) : CP l E yX11_withSaying cX11_withSaying 4 (some .int) 1 0 0 [] [.int a0, .int a1, .int a2] [] (fun rv w => rv = some (.int r) ∧ w = []) :=
  CP.of (lv := [(0, .int a0), (1, .int a1), (2, .int a2)]) (by decide +kernel) (Nat.le_of_ble_eq_true rfl) rfl (fun X hl hE hro hX hq hn => t_X11_withSaying_0 hX hq ⟨rfl, rfl⟩ a0 a1 a2 hf)
theorem kw_RX11_X11_withSaying : KwS RX11 59 yX11_withSaying cX11_withSaying 4 (some .int) 3 := ⟨mem_wsS wd_2_230 wd_2_231 wd_1_1 wd_2_232, ⟨by decide +kernel, by decide +kernel, by decide +kernel⟩, by decide⟩
theorem k_RX11_X11_withSaying {X : Cx} {cc : ByteArray} {nL ce sl pc : Nat} {lv : List (Nat × Value)} {st : List Value} {dX mcX msX : Nat} {retX : Option FieldType} {PostX : Option Value → va_W → Prop} {ws : va_W} (hX : Ok X cc nL RX11) (hq : Rq X dX mcX msX retX PostX) {a0 a1 a2 r : Int32} (hf : f_X11_withSaying a0 a1 a2 = some r) (hd : 1 < dX) (hc : ce ≤ mcX) (hs : sl ≤ msX) (hcat : (st.map fun v => v.category).sum ≤ 8) (hdg : decode cc pc = .ok (.invokestatic 59, 3)) (kk : G X nL ce sl (pc + 3) lv (.int r :: st) ws) : G X nL ce sl pc lv (.int a2 :: .int a1 :: .int a0 :: st) ws :=
  g_eqW (app0 ws) (g_callS (pre := ws) (mid := []) (post := []) [.int a0, .int a1, .int a2] hX hq kw_RX11_X11_withSaying (c_X11_withSaying hf) (fun _ h => absurd h List.not_mem_nil) hd hc hs rfl rfl hcat hdg (fun rv ws2 hp => by obtain ⟨rfl, rfl⟩ := hp; exact g_eqW (app0 ws).symm kk))
def f_X11_numberOf_5 : Nat → Int32 → Int32 → Int32 → Option Int32
  | 0 => fun _ _ _ => none
  | n + 1 => fun x0 x1 x2 =>
    let lp5 := f_X11_numberOf_5 n
    if (x2 < 0 : Prop) then
      some x1
    else
      cs (f_X11_sayingOf x0 x2) fun r2 =>
      bI ((x1 * 3) + r2) fun v4 =>
      bI (x2 + (-1)) fun v5 =>
      lp5 x0 v4 v5
def f_X11_numberOf (a0 : Int32) : Option Int32 :=
  f_X11_numberOf_5 100 a0 0 7
set_option maxRecDepth 100000 in
set_option maxHeartbeats 4000000 in
theorem t_X11_numberOf_5 {X : Cx} {PostX : Option Value → va_W → Prop} (hX : Ok X cX11_numberOf 3 RX11) (hq : Rq X 1 0 0 (some .int) PostX) {u : Int32} (hp : PostX (some (.int u)) []) : ∀ (n : Nat) (x0 : Int32) (x1 : Int32) (x2 : Int32), f_X11_numberOf_5 n x0 x1 x2 = some u → G X 3 0 0 5 [(0, .int x0), (1, .int x1), (2, .int x2)] [] [] := by
  intro n
  induction n with
  | zero => intro _ _ _ hf; unfold f_X11_numberOf_5 at hf; cases hf
  | succ n hlp5 =>
  intro x0 x1 x2 hf
  unfold f_X11_numberOf_5 at hf
  refine g_iloadn hX 2 rfl rfl dX11_numberOf_5 ?_
  refine g_if_lt hX 25 (by decide) dX11_numberOf_6 (fun c1 => ?_) (fun c1 => ?_)
  · have hf := ite_t c1 hf
    refine g_iloadn hX 1 rfl rfl dX11_numberOf_25 ?_
    obtain rfl := oi hf
    exact g_iret hX hq (by decide) (by decide) hp dX11_numberOf_26
  · have hf := ite_f c1 hf
    refine g_iloadn hX 1 rfl rfl dX11_numberOf_9 ?_
    refine g_iconst hX (v := 3) (by decide) dX11_numberOf_10 ?_
    refine g_imul hX dX11_numberOf_11 ?_
    refine g_iloadn hX 0 rfl rfl dX11_numberOf_12 ?_
    refine g_iloadn hX 2 rfl rfl dX11_numberOf_13 ?_
    obtain ⟨r2, h3, hf⟩ := cs_open hf
    refine k_RX11_X11_sayingOf hX hq h3 (by decide) (by decide) (by decide) (Nat.le_of_ble_eq_true rfl) dX11_numberOf_14 ?_
    refine g_iadd hX dX11_numberOf_17 ?_
    obtain ⟨v4, ev4, hf⟩ := bI_open hf
    refine g_nm ev4 ?_
    refine g_istoren hX [(1, .int v4), (0, .int x0), (2, .int x2)] rfl (by decide) rfl dX11_numberOf_18 ?_
    obtain ⟨v5, ev5, hf⟩ := bI_open hf
    refine g_iinc hX 2 (v := v5) [(2, .int v5), (1, .int v4), (0, .int x0)] rfl (by rw [ev5]; rfl) (by decide) rfl dX11_numberOf_19 ?_
    refine g_goto hX 5 (by decide) dX11_numberOf_22 ?_
    refine g_lv [2, 1, 0] rfl ?_
    exact hlp5 _ _ _ hf
set_option maxRecDepth 100000 in
set_option maxHeartbeats 4000000 in
theorem t_X11_numberOf_0 {X : Cx} {PostX : Option Value → va_W → Prop} (hX : Ok X cX11_numberOf 3 RX11) (hq : Rq X 1 0 0 (some .int) PostX) {u : Int32} (hp : PostX (some (.int u)) []) (a0 : Int32) (hf : f_X11_numberOf a0 = some u) : G X 3 0 0 0 [(0, .int a0)] [] [] := by
  unfold f_X11_numberOf at hf
  refine g_iconst hX (v := 0) (by decide) dX11_numberOf_0 ?_
  refine g_istoren hX [(1, .int 0), (0, .int a0)] rfl (by decide) rfl dX11_numberOf_1 ?_
  refine g_bipush hX (v := 7) (by decide) dX11_numberOf_2 ?_
  refine g_istoren hX [(2, .int 7), (1, .int 0), (0, .int a0)] rfl (by decide) rfl dX11_numberOf_4 ?_
  refine g_lv [2, 1, 0] rfl ?_
  exact t_X11_numberOf_5 hX hq hp _ _ _ _ hf
theorem c_X11_numberOf {l : Launch} {E : En} {a0 r : Int32} (hf : f_X11_numberOf a0 = some r) : CP l E yX11_numberOf cX11_numberOf 3 (some .int) 1 0 0 [] [.int a0] [] (fun rv w => rv = some (.int r) ∧ w = []) :=
  CP.of (lv := [(0, .int a0)]) (by decide +kernel) (Nat.le_of_ble_eq_true rfl) rfl (fun X hl hE hro hX hq hn => t_X11_numberOf_0 hX hq ⟨rfl, rfl⟩ a0 hf)
theorem kw_RX11_X11_numberOf : KwS RX11 63 yX11_numberOf cX11_numberOf 3 (some .int) 1 := ⟨mem_wsS wd_3_0 wd_3_1 wd_1_1 wd_3_2, ⟨by decide +kernel, by decide +kernel, by decide +kernel⟩, by decide⟩
theorem k_RX11_X11_numberOf {X : Cx} {cc : ByteArray} {nL ce sl pc : Nat} {lv : List (Nat × Value)} {st : List Value} {dX mcX msX : Nat} {retX : Option FieldType} {PostX : Option Value → va_W → Prop} {ws : va_W} (hX : Ok X cc nL RX11) (hq : Rq X dX mcX msX retX PostX) {a0 r : Int32} (hf : f_X11_numberOf a0 = some r) (hd : 1 < dX) (hc : ce ≤ mcX) (hs : sl ≤ msX) (hcat : (st.map fun v => v.category).sum ≤ 8) (hdg : decode cc pc = .ok (.invokestatic 63, 3)) (kk : G X nL ce sl (pc + 3) lv (.int r :: st) ws) : G X nL ce sl pc lv (.int a0 :: st) ws :=
  g_eqW (app0 ws) (g_callS (pre := ws) (mid := []) (post := []) [.int a0] hX hq kw_RX11_X11_numberOf (c_X11_numberOf hf) (fun _ h => absurd h List.not_mem_nil) hd hc hs rfl rfl hcat hdg (fun rv ws2 hp => by obtain ⟨rfl, rfl⟩ := hp; exact g_eqW (app0 ws).symm kk))
def f_X11_sayingsOf_6 : Nat → Int32 → Int32 → Int32 → Option Int32
  | 0 => fun _ _ _ => none
  | n + 1 => fun x1 x2 x3 =>
    let lp6 := f_X11_sayingsOf_6 n
    if (8 ≤ x3 : Prop) then
      some x1
    else
      cs (f_X11_withSaying x1 x3 (jrem x2 3)) fun r2 =>
      bI (x2 / 3) fun v4 =>
      bI (x3 + 1) fun v5 =>
      lp6 r2 v4 v5
def f_X11_sayingsOf (a0 : Int32) : Option Int32 :=
  f_X11_sayingsOf_6 100 0 a0 0
set_option maxRecDepth 100000 in
set_option maxHeartbeats 4000000 in
theorem t_X11_sayingsOf_6 {X : Cx} {PostX : Option Value → va_W → Prop} (hX : Ok X cX11_sayingsOf 4 RX11) (hq : Rq X 2 0 0 (some .int) PostX) {u : Int32} (hp : PostX (some (.int u)) []) : ∀ (n : Nat) (x1 : Int32) (x2 : Int32) (x3 : Int32), f_X11_sayingsOf_6 n x1 x2 x3 = some u → G X 4 0 0 6 [(1, .int x1), (2, .int x2), (3, .int x3)] [] [] := by
  intro n
  induction n with
  | zero => intro _ _ _ hf; unfold f_X11_sayingsOf_6 at hf; cases hf
  | succ n hlp6 =>
  intro x1 x2 x3 hf
  unfold f_X11_sayingsOf_6 at hf
  refine g_iloadn hX 2 rfl rfl dX11_sayingsOf_6 ?_
  refine g_bipush hX (v := 8) (by decide) dX11_sayingsOf_7 ?_
  refine g_icmp_ge hX 31 (by decide) dX11_sayingsOf_9 (fun c1 => ?_) (fun c1 => ?_)
  · have hf := ite_t c1 hf
    refine g_iloadn hX 0 rfl rfl dX11_sayingsOf_31 ?_
    obtain rfl := oi hf
    exact g_iret hX hq (by decide) (by decide) hp dX11_sayingsOf_32
  · have hf := ite_f c1 hf
    refine g_iloadn hX 0 rfl rfl dX11_sayingsOf_12 ?_
    refine g_iloadn hX 2 rfl rfl dX11_sayingsOf_13 ?_
    refine g_iloadn hX 1 rfl rfl dX11_sayingsOf_14 ?_
    refine g_iconst hX (v := 3) (by decide) dX11_sayingsOf_15 ?_
    refine g_jrem hX (by decide) dX11_sayingsOf_16 ?_
    obtain ⟨r2, h3, hf⟩ := cs_open hf
    refine k_RX11_X11_withSaying hX hq h3 (by decide) (by decide) (by decide) (Nat.le_of_ble_eq_true rfl) dX11_sayingsOf_17 ?_
    refine g_istoren hX [(1, .int r2), (2, .int x2), (3, .int x3)] rfl (by decide) rfl dX11_sayingsOf_20 ?_
    refine g_iloadn hX 1 rfl rfl dX11_sayingsOf_21 ?_
    refine g_iconst hX (v := 3) (by decide) dX11_sayingsOf_22 ?_
    refine g_idiv hX (by decide) dX11_sayingsOf_23 ?_
    obtain ⟨v4, ev4, hf⟩ := bI_open hf
    refine g_nm ev4 ?_
    refine g_istoren hX [(2, .int v4), (1, .int r2), (3, .int x3)] rfl (by decide) rfl dX11_sayingsOf_24 ?_
    obtain ⟨v5, ev5, hf⟩ := bI_open hf
    refine g_iinc hX 2 (v := v5) [(3, .int v5), (2, .int v4), (1, .int r2)] rfl (by rw [ev5]; rfl) (by decide) rfl dX11_sayingsOf_25 ?_
    refine g_goto hX 6 (by decide) dX11_sayingsOf_28 ?_
    refine g_lv [2, 1, 0] rfl ?_
    exact hlp6 _ _ _ hf
set_option maxRecDepth 100000 in
set_option maxHeartbeats 4000000 in
theorem t_X11_sayingsOf_0 {X : Cx} {PostX : Option Value → va_W → Prop} (hX : Ok X cX11_sayingsOf 4 RX11) (hq : Rq X 2 0 0 (some .int) PostX) {u : Int32} (hp : PostX (some (.int u)) []) (a0 : Int32) (hf : f_X11_sayingsOf a0 = some u) : G X 4 0 0 0 [(0, .int a0)] [] [] := by
  unfold f_X11_sayingsOf at hf
  refine g_iconst hX (v := 0) (by decide) dX11_sayingsOf_0 ?_
  refine g_istoren hX [(1, .int 0), (0, .int a0)] rfl (by decide) rfl dX11_sayingsOf_1 ?_
  refine g_iloadn hX 1 rfl rfl dX11_sayingsOf_2 ?_
  refine g_istoren hX [(2, .int a0), (1, .int 0), (0, .int a0)] rfl (by decide) rfl dX11_sayingsOf_3 ?_
  refine g_iconst hX (v := 0) (by decide) dX11_sayingsOf_4 ?_
  refine g_istoren hX [(3, .int 0), (2, .int a0), (1, .int 0), (0, .int a0)] rfl (by decide) rfl dX11_sayingsOf_5 ?_
  refine g_lv [2, 1, 0] rfl ?_
  exact t_X11_sayingsOf_6 hX hq hp _ _ _ _ hf
theorem c_X11_sayingsOf {l : Launch} {E : En} {a0 r : Int32} (hf : f_X11_sayingsOf a0 = some r) : CP l E yX11_sayingsOf cX11_sayingsOf 4 (some .int) 2 0 0 [] [.int a0] [] (fun rv w => rv = some (.int r) ∧ w = []) :=
  CP.of (lv := [(0, .int a0)]) (by decide +kernel) (Nat.le_of_ble_eq_true rfl) rfl (fun X hl hE hro hX hq hn => t_X11_sayingsOf_0 hX hq ⟨rfl, rfl⟩ a0 hf)
theorem kw_RX11_X11_sayingsOf : KwS RX11 130 yX11_sayingsOf cX11_sayingsOf 4 (some .int) 1 := ⟨mem_wsS wd_3_114 wd_3_115 wd_1_1 wd_3_116, ⟨by decide +kernel, by decide +kernel, by decide +kernel⟩, by decide⟩
theorem k_RX11_X11_sayingsOf {X : Cx} {cc : ByteArray} {nL ce sl pc : Nat} {lv : List (Nat × Value)} {st : List Value} {dX mcX msX : Nat} {retX : Option FieldType} {PostX : Option Value → va_W → Prop} {ws : va_W} (hX : Ok X cc nL RX11) (hq : Rq X dX mcX msX retX PostX) {a0 r : Int32} (hf : f_X11_sayingsOf a0 = some r) (hd : 2 < dX) (hc : ce ≤ mcX) (hs : sl ≤ msX) (hcat : (st.map fun v => v.category).sum ≤ 8) (hdg : decode cc pc = .ok (.invokestatic 130, 3)) (kk : G X nL ce sl (pc + 3) lv (.int r :: st) ws) : G X nL ce sl pc lv (.int a0 :: st) ws :=
  g_eqW (app0 ws) (g_callS (pre := ws) (mid := []) (post := []) [.int a0] hX hq kw_RX11_X11_sayingsOf (c_X11_sayingsOf hf) (fun _ h => absurd h List.not_mem_nil) hd hc hs rfl rfl hcat hdg (fun rv ws2 hp => by obtain ⟨rfl, rfl⟩ := hp; exact g_eqW (app0 ws).symm kk))
def f_X11_next_4 : Nat → Int32 → Int32 → Option Int32
  | 0 => fun _ _ => none
  | n + 1 => fun x1 x2 =>
    let lp4 := f_X11_next_4 n
    if (8 ≤ x2 : Prop) then
      some x1
    else
      bI (jshl 1 x2) fun v2 =>
      bI (jshl 1 (8 + x2)) fun v3 =>
      if ((x1 &&& v3) = 0 : Prop) then
        if ((x1 &&& v2) = 0 : Prop) then
          some (x1 ||| v2)
        else
          some ((x1 ^^^ v2) ^^^ v3)
      else
        bI (x1 ^^^ v3) fun v5 =>
        bI (x2 + 1) fun v6 =>
        lp4 v5 v6
def f_X11_next (a0 : Int32) : Option Int32 :=
  f_X11_next_4 100 a0 0
set_option maxRecDepth 100000 in
set_option maxHeartbeats 4000000 in
theorem t_X11_next_4 {X : Cx} {PostX : Option Value → va_W → Prop} (hX : Ok X cX11_next 5 RX11) (hq : Rq X 0 0 0 (some .int) PostX) {u : Int32} (hp : PostX (some (.int u)) []) : ∀ (n : Nat) (x1 : Int32) (x2 : Int32), f_X11_next_4 n x1 x2 = some u → G X 5 0 0 4 [(1, .int x1), (2, .int x2)] [] [] := by
  intro n
  induction n with
  | zero => intro _ _ hf; unfold f_X11_next_4 at hf; cases hf
  | succ n hlp4 =>
  intro x1 x2 hf
  unfold f_X11_next_4 at hf
  refine g_iloadn hX 1 rfl rfl dX11_next_4 ?_
  refine g_bipush hX (v := 8) (by decide) dX11_next_5 ?_
  refine g_icmp_ge hX 59 (by decide) dX11_next_7 (fun c1 => ?_) (fun c1 => ?_)
  · have hf := ite_t c1 hf
    refine g_iloadn hX 0 rfl rfl dX11_next_59 ?_
    obtain rfl := oi hf
    exact g_iret hX hq (by decide) (by decide) hp dX11_next_60
  · have hf := ite_f c1 hf
    refine g_iconst hX (v := 1) (by decide) dX11_next_10 ?_
    refine g_iloadn hX 1 rfl rfl dX11_next_11 ?_
    refine g_jshl hX dX11_next_12 ?_
    obtain ⟨v2, ev2, hf⟩ := bI_open hf
    refine g_nm ev2 ?_
    refine g_istoren hX [(3, .int v2), (1, .int x1), (2, .int x2)] rfl (by decide) rfl dX11_next_13 ?_
    refine g_iconst hX (v := 1) (by decide) dX11_next_14 ?_
    refine g_bipush hX (v := 8) (by decide) dX11_next_15 ?_
    refine g_iloadn hX 2 rfl rfl dX11_next_17 ?_
    refine g_iadd hX dX11_next_18 ?_
    refine g_jshl hX dX11_next_19 ?_
    obtain ⟨v3, ev3, hf⟩ := bI_open hf
    refine g_nm ev3 ?_
    refine g_istore hX [(4, .int v3), (3, .int v2), (1, .int x1), (2, .int x2)] (by decide) rfl dX11_next_20 ?_
    refine g_iloadn hX 2 rfl rfl dX11_next_22 ?_
    refine g_iload hX 0 rfl dX11_next_23 ?_
    refine g_iand hX dX11_next_25 ?_
    refine g_if_ne hX 48 (by decide) dX11_next_26 (fun c4 => ?_) (fun c4 => ?_)
    · have hf := ite_f c4 hf
      refine g_iloadn hX 2 rfl rfl dX11_next_48 ?_
      refine g_iload hX 0 rfl dX11_next_49 ?_
      refine g_ixor hX dX11_next_51 ?_
      obtain ⟨v5, ev5, hf⟩ := bI_open hf
      refine g_nm ev5 ?_
      refine g_istoren hX [(1, .int v5), (4, .int v3), (3, .int v2), (2, .int x2)] rfl (by decide) rfl dX11_next_52 ?_
      obtain ⟨v6, ev6, hf⟩ := bI_open hf
      refine g_iinc hX 3 (v := v6) [(2, .int v6), (1, .int v5), (4, .int v3), (3, .int v2)] rfl (by rw [ev6]; rfl) (by decide) rfl dX11_next_53 ?_
      refine g_goto hX 4 (by decide) dX11_next_56 ?_
      refine g_lv [1, 0] rfl ?_
      exact hlp4 _ _ hf
    · have hf := ite_t c4 hf
      refine g_iloadn hX 2 rfl rfl dX11_next_29 ?_
      refine g_iloadn hX 1 rfl rfl dX11_next_30 ?_
      refine g_iand hX dX11_next_31 ?_
      refine g_if_ne hX 41 (by decide) dX11_next_32 (fun c7 => ?_) (fun c7 => ?_)
      · have hf := ite_f c7 hf
        refine g_iloadn hX 2 rfl rfl dX11_next_41 ?_
        refine g_iloadn hX 1 rfl rfl dX11_next_42 ?_
        refine g_ixor hX dX11_next_43 ?_
        refine g_iload hX 0 rfl dX11_next_44 ?_
        refine g_ixor hX dX11_next_46 ?_
        obtain rfl := oi hf
        exact g_iret hX hq (by decide) (by decide) hp dX11_next_47
      · have hf := ite_t c7 hf
        refine g_iloadn hX 2 rfl rfl dX11_next_35 ?_
        refine g_iloadn hX 1 rfl rfl dX11_next_36 ?_
        refine g_ior hX dX11_next_37 ?_
        refine g_goto hX 47 (by decide) dX11_next_38 ?_
        obtain rfl := oi hf
        exact g_iret hX hq (by decide) (by decide) hp dX11_next_47
set_option maxRecDepth 100000 in
set_option maxHeartbeats 4000000 in
theorem t_X11_next_0 {X : Cx} {PostX : Option Value → va_W → Prop} (hX : Ok X cX11_next 5 RX11) (hq : Rq X 0 0 0 (some .int) PostX) {u : Int32} (hp : PostX (some (.int u)) []) (a0 : Int32) (hf : f_X11_next a0 = some u) : G X 5 0 0 0 [(0, .int a0)] [] [] := by
  unfold f_X11_next at hf
  refine g_iloadn hX 0 rfl rfl dX11_next_0 ?_
  refine g_istoren hX [(1, .int a0), (0, .int a0)] rfl (by decide) rfl dX11_next_1 ?_
  refine g_iconst hX (v := 0) (by decide) dX11_next_2 ?_
  refine g_istoren hX [(2, .int 0), (1, .int a0), (0, .int a0)] rfl (by decide) rfl dX11_next_3 ?_
  refine g_lv [1, 0] rfl ?_
  exact t_X11_next_4 hX hq hp _ _ _ hf
theorem c_X11_next {l : Launch} {E : En} {a0 r : Int32} (hf : f_X11_next a0 = some r) : CP l E yX11_next cX11_next 5 (some .int) 0 0 0 [] [.int a0] [] (fun rv w => rv = some (.int r) ∧ w = []) :=
  CP.of (lv := [(0, .int a0)]) (by decide +kernel) (Nat.le_of_ble_eq_true rfl) rfl (fun X hl hE hro hX hq hn => t_X11_next_0 hX hq ⟨rfl, rfl⟩ a0 hf)
theorem kw_RX11_X11_next : KwS RX11 205 yX11_next cX11_next 5 (some .int) 1 := ⟨mem_wsS wd_3_228 wd_3_229 wd_1_1 wd_3_230, ⟨by decide +kernel, by decide +kernel, by decide +kernel⟩, by decide⟩
theorem k_RX11_X11_next {X : Cx} {cc : ByteArray} {nL ce sl pc : Nat} {lv : List (Nat × Value)} {st : List Value} {dX mcX msX : Nat} {retX : Option FieldType} {PostX : Option Value → va_W → Prop} {ws : va_W} (hX : Ok X cc nL RX11) (hq : Rq X dX mcX msX retX PostX) {a0 r : Int32} (hf : f_X11_next a0 = some r) (hd : 0 < dX) (hc : ce ≤ mcX) (hs : sl ≤ msX) (hcat : (st.map fun v => v.category).sum ≤ 8) (hdg : decode cc pc = .ok (.invokestatic 205, 3)) (kk : G X nL ce sl (pc + 3) lv (.int r :: st) ws) : G X nL ce sl pc lv (.int a0 :: st) ws :=
  g_eqW (app0 ws) (g_callS (pre := ws) (mid := []) (post := []) [.int a0] hX hq kw_RX11_X11_next (c_X11_next hf) (fun _ h => absurd h List.not_mem_nil) hd hc hs rfl rfl hcat hdg (fun rv ws2 hp => by obtain ⟨rfl, rfl⟩ := hp; exact g_eqW (app0 ws).symm kk))
def f_X2_isDigit_16 : Option Int32 :=
  some 0
def f_X2_isDigit (a0 : Int32) : Option Int32 :=
  if (a0 < 48 : Prop) then
    f_X2_isDigit_16 
  else
    if (57 < a0 : Prop) then
      f_X2_isDigit_16 
    else
      some 1
set_option maxRecDepth 100000 in
set_option maxHeartbeats 4000000 in
theorem t_X2_isDigit_16 {X : Cx} {PostX : Option Value → va_W → Prop} (hX : Ok X cX2_isDigit 1 RX2) (hq : Rq X 0 0 0 (some .boolean) PostX) {u : Int32} (hp : PostX (some (.int u)) [])  (hf : f_X2_isDigit_16  = some u) : G X 1 0 0 16 [] [] [] := by
  unfold f_X2_isDigit_16 at hf
  refine g_iconst hX (v := 0) (by decide) dX2_isDigit_16 ?_
  obtain rfl := oi hf
  exact g_zret hX hq (by decide) (by decide) (by rfl) hp dX2_isDigit_17
set_option maxRecDepth 100000 in
set_option maxHeartbeats 4000000 in
theorem t_X2_isDigit_0 {X : Cx} {PostX : Option Value → va_W → Prop} (hX : Ok X cX2_isDigit 1 RX2) (hq : Rq X 0 0 0 (some .boolean) PostX) {u : Int32} (hp : PostX (some (.int u)) []) (a0 : Int32) (hf : f_X2_isDigit a0 = some u) : G X 1 0 0 0 [(0, .int a0)] [] [] := by
  unfold f_X2_isDigit at hf
  refine g_iloadn hX 0 rfl rfl dX2_isDigit_0 ?_
  refine g_bipush hX (v := 48) (by decide) dX2_isDigit_1 ?_
  refine g_icmp_lt hX 16 (by decide) dX2_isDigit_3 (fun c1 => ?_) (fun c1 => ?_)
  · have hf := ite_t c1 hf
    refine g_lv [] rfl ?_
    exact t_X2_isDigit_16 hX hq hp  hf
  · have hf := ite_f c1 hf
    refine g_iloadn hX 0 rfl rfl dX2_isDigit_6 ?_
    refine g_bipush hX (v := 57) (by decide) dX2_isDigit_7 ?_
    refine g_icmp_gt hX 16 (by decide) dX2_isDigit_9 (fun c2 => ?_) (fun c2 => ?_)
    · have hf := ite_t c2 hf
      refine g_lv [] rfl ?_
      exact t_X2_isDigit_16 hX hq hp  hf
    · have hf := ite_f c2 hf
      refine g_iconst hX (v := 1) (by decide) dX2_isDigit_12 ?_
      refine g_goto hX 17 (by decide) dX2_isDigit_13 ?_
      obtain rfl := oi hf
      exact g_zret hX hq (by decide) (by decide) (by rfl) hp dX2_isDigit_17
theorem c_X2_isDigit {l : Launch} {E : En} {a0 r : Int32} (hf : f_X2_isDigit a0 = some r) : CP l E yX2_isDigit cX2_isDigit 1 (some .boolean) 0 0 0 [] [.int a0] [] (fun rv w => rv = some (.int r) ∧ w = []) :=
  CP.of (lv := [(0, .int a0)]) (by decide +kernel) (Nat.le_of_ble_eq_true rfl) rfl (fun X hl hE hro hX hq hn => t_X2_isDigit_0 hX hq ⟨rfl, rfl⟩ a0 hf)
theorem kw_RX2_X2_isDigit : KwS RX2 96 yX2_isDigit cX2_isDigit 1 (some .boolean) 1 := ⟨mem_wsS wd_2_21 wd_2_22 wd_1_3 wd_2_23, ⟨by decide +kernel, by decide +kernel, by decide +kernel⟩, by decide⟩
theorem k_RX2_X2_isDigit {X : Cx} {cc : ByteArray} {nL ce sl pc : Nat} {lv : List (Nat × Value)} {st : List Value} {dX mcX msX : Nat} {retX : Option FieldType} {PostX : Option Value → va_W → Prop} {ws : va_W} (hX : Ok X cc nL RX2) (hq : Rq X dX mcX msX retX PostX) {a0 r : Int32} (hf : f_X2_isDigit a0 = some r) (hd : 0 < dX) (hc : ce ≤ mcX) (hs : sl ≤ msX) (hcat : (st.map fun v => v.category).sum ≤ 8) (hdg : decode cc pc = .ok (.invokestatic 96, 3)) (kk : G X nL ce sl (pc + 3) lv (.int r :: st) ws) : G X nL ce sl pc lv (.int a0 :: st) ws :=
  g_eqW (app0 ws) (g_callS (pre := ws) (mid := []) (post := []) [.int a0] hX hq kw_RX2_X2_isDigit (c_X2_isDigit hf) (fun _ h => absurd h List.not_mem_nil) hd hc hs rfl rfl hcat hdg (fun rv ws2 hp => by obtain ⟨rfl, rfl⟩ := hp; exact g_eqW (app0 ws).symm kk))

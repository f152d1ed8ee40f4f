theorem oi {α : Type} {a u : α} (h : some a = some u) : u = a := (Option.some.inj h).symm
theorem app0 (ws : va_W) : ws ++ ([] ++ []) = ws := by rw [List.append_nil, List.append_nil]
theorem app1 (ws : va_W) : [] ++ (ws ++ []) = ws := by rw [List.append_nil, List.nil_append]
def f_X12_in_14 : Option Int32 :=
  some 0
def f_X12_in (a0 : Int32) (a1 : Int32) (a2 : Int32) : Option Int32 :=
  if (a0 < a1 : Prop) then
    f_X12_in_14 
  else
    if (a2 < a0 : Prop) then
      f_X12_in_14 
    else
      some 1
set_option maxRecDepth 100000 in
set_option maxHeartbeats 4000000 in
theorem t_X12_in_14 {X : Cx} {PostX : Option Value → va_W → Prop} (hX : Ok X cX12_in 3 RX12) (hq : Rq X 0 0 0 (some .boolean) PostX) {u : Int32} (hp : PostX (some (.int u)) [])  (hf : f_X12_in_14  = some u) : G X 3 0 0 14 [] [] [] := by
  unfold f_X12_in_14 at hf
  refine g_iconst hX (v := 0) (by decide) dX12_in_14 ?_
  obtain rfl := oi hf
  exact g_zret hX hq (by decide) (by decide) (by rfl) hp dX12_in_15
set_option maxRecDepth 100000 in
set_option maxHeartbeats 4000000 in
theorem t_X12_in_0 {X : Cx} {PostX : Option Value → va_W → Prop} (hX : Ok X cX12_in 3 RX12) (hq : Rq X 0 0 0 (some .boolean) PostX) {u : Int32} (hp : PostX (some (.int u)) []) (a0 : Int32) (a1 : Int32) (a2 : Int32) (hf : f_X12_in a0 a1 a2 = some u) : G X 3 0 0 0 [(0, .int a0), (1, .int a1), (2, .int a2)] [] [] := by
  unfold f_X12_in at hf
  refine g_iloadn hX 0 rfl rfl dX12_in_0 ?_
  refine g_iloadn hX 1 rfl rfl dX12_in_1 ?_
  refine g_icmp_lt hX 14 (by decide) dX12_in_2 (fun c1 => ?_) (fun c1 => ?_)
  · have hf := ite_t c1 hf
    refine g_lv [] rfl ?_
    exact t_X12_in_14 hX hq hp  hf
  · have hf := ite_f c1 hf
    refine g_iloadn hX 0 rfl rfl dX12_in_5 ?_
    refine g_iloadn hX 2 rfl rfl dX12_in_6 ?_
    refine g_icmp_gt hX 14 (by decide) dX12_in_7 (fun c2 => ?_) (fun c2 => ?_)
    · have hf := ite_t c2 hf
      refine g_lv [] rfl ?_
      exact t_X12_in_14 hX hq hp  hf
    · have hf := ite_f c2 hf
      refine g_iconst hX (v := 1) (by decide) dX12_in_10 ?_
      refine g_goto hX 15 (by decide) dX12_in_11 ?_
      obtain rfl := oi hf
      exact g_zret hX hq (by decide) (by decide) (by rfl) hp dX12_in_15
theorem c_X12_in {l : Launch} {E : En} {a0 a1 a2 r : Int32} (hf : f_X12_in a0 a1 a2 = some r) : CP l E yX12_in cX12_in 3 (some .boolean) 0 0 0 [] [.int a0, .int a1, .int a2] [] (fun rv w => rv = some (.int r) ∧ w = []) :=
  CP.of (lv := [(0, .int a0), (1, .int a1), (2, .int a2)]) (by decide +kernel) (Nat.le_of_ble_eq_true rfl) rfl (fun X hl hE hro hX hq hn => t_X12_in_0 hX hq ⟨rfl, rfl⟩ a0 a1 a2 hf)
theorem kw_RX12_X12_in : KwS RX12 47 yX12_in cX12_in 3 (some .boolean) 3 := ⟨mem_wsS wd_5_71 wd_5_72 wd_1_19 wd_5_73, ⟨by decide +kernel, by decide +kernel, by decide +kernel⟩, by decide⟩
theorem k_RX12_X12_in {X : Cx} {cc : ByteArray} {nL ce sl pc : Nat} {lv : List (Nat × Value)} {st : List Value} {dX mcX msX : Nat} {retX : Option FieldType} {PostX : Option Value → va_W → Prop} {ws : va_W} (hX : Ok X cc nL RX12) (hq : Rq X dX mcX msX retX PostX) {a0 a1 a2 r : Int32} (hf : f_X12_in a0 a1 a2 = some r) (hd : 0 < dX) (hc : ce ≤ mcX) (hs : sl ≤ msX) (hcat : (st.map fun v => v.category).sum ≤ 8) (hdg : decode cc pc = .ok (.invokestatic 47, 3)) (kk : G X nL ce sl (pc + 3) lv (.int r :: st) ws) : G X nL ce sl pc lv (.int a2 :: .int a1 :: .int a0 :: st) ws :=
  g_eqW (app0 ws) (g_callS (pre := ws) (mid := []) (post := []) [.int a0, .int a1, .int a2] hX hq kw_RX12_X12_in (c_X12_in hf) (fun _ h => absurd h List.not_mem_nil) hd hc hs rfl rfl hcat hdg (fun rv ws2 hp => by obtain ⟨rfl, rfl⟩ := hp; exact g_eqW (app0 ws).symm kk))
def f_X12_held (a0 : Int32) (a1 : Int32) (a2 : Int32) : Option Int32 :=
  if (a1 ≤ a0 : Prop) then
    if (a0 ≤ a2 : Prop) then
      some a0
    else
      some a2
  else
    some a1
set_option maxRecDepth 100000 in
set_option maxHeartbeats 4000000 in
theorem t_X12_held_0 {X : Cx} {PostX : Option Value → va_W → Prop} (hX : Ok X cX12_held 3 RX12) (hq : Rq X 0 0 0 (some .int) PostX) {u : Int32} (hp : PostX (some (.int u)) []) (a0 : Int32) (a1 : Int32) (a2 : Int32) (hf : f_X12_held a0 a1 a2 = some u) : G X 3 0 0 0 [(0, .int a0), (1, .int a1), (2, .int a2)] [] [] := by
  unfold f_X12_held at hf
  refine g_iloadn hX 0 rfl rfl dX12_held_0 ?_
  refine g_iloadn hX 1 rfl rfl dX12_held_1 ?_
  refine g_icmp_ge hX 9 (by decide) dX12_held_2 (fun c1 => ?_) (fun c1 => ?_)
  · have hf := ite_t c1 hf
    refine g_iloadn hX 0 rfl rfl dX12_held_9 ?_
    refine g_iloadn hX 2 rfl rfl dX12_held_10 ?_
    refine g_icmp_le hX 18 (by decide) dX12_held_11 (fun c2 => ?_) (fun c2 => ?_)
    · have hf := ite_t c2 hf
      refine g_iloadn hX 0 rfl rfl dX12_held_18 ?_
      obtain rfl := oi hf
      exact g_iret hX hq (by decide) (by decide) hp dX12_held_19
    · have hf := ite_f c2 hf
      refine g_iloadn hX 2 rfl rfl dX12_held_14 ?_
      refine g_goto hX 19 (by decide) dX12_held_15 ?_
      obtain rfl := oi hf
      exact g_iret hX hq (by decide) (by decide) hp dX12_held_19
  · have hf := ite_f c1 hf
    refine g_iloadn hX 1 rfl rfl dX12_held_5 ?_
    refine g_goto hX 19 (by decide) dX12_held_6 ?_
    obtain rfl := oi hf
    exact g_iret hX hq (by decide) (by decide) hp dX12_held_19
theorem c_X12_held {l : Launch} {E : En} {a0 a1 a2 r : Int32} (hf : f_X12_held a0 a1 a2 = some r) : CP l E yX12_held cX12_held 3 (some .int) 0 0 0 [] [.int a0, .int a1, .int a2] [] (fun rv w => rv = some (.int r) ∧ w = []) :=
  CP.of (lv := [(0, .int a0), (1, .int a1), (2, .int a2)]) (by decide +kernel) (Nat.le_of_ble_eq_true rfl) rfl (fun X hl hE hro hX hq hn => t_X12_held_0 hX hq ⟨rfl, rfl⟩ a0 a1 a2 hf)
theorem kw_RX12_X12_held : KwS RX12 93 yX12_held cX12_held 3 (some .int) 3 := ⟨mem_wsS wd_5_176 wd_5_177 wd_1_19 wd_5_178, ⟨by decide +kernel, by decide +kernel, by decide +kernel⟩, by decide⟩
theorem k_RX12_X12_held {X : Cx} {cc : ByteArray} {nL ce sl pc : Nat} {lv : List (Nat × Value)} {st : List Value} {dX mcX msX : Nat} {retX : Option FieldType} {PostX : Option Value → va_W → Prop} {ws : va_W} (hX : Ok X cc nL RX12) (hq : Rq X dX mcX msX retX PostX) {a0 a1 a2 r : Int32} (hf : f_X12_held a0 a1 a2 = some r) (hd : 0 < dX) (hc : ce ≤ mcX) (hs : sl ≤ msX) (hcat : (st.map fun v => v.category).sum ≤ 8) (hdg : decode cc pc = .ok (.invokestatic 93, 3)) (kk : G X nL ce sl (pc + 3) lv (.int r :: st) ws) : G X nL ce sl pc lv (.int a2 :: .int a1 :: .int a0 :: st) ws :=
  g_eqW (app0 ws) (g_callS (pre := ws) (mid := []) (post := []) [.int a0, .int a1, .int a2] hX hq kw_RX12_X12_held (c_X12_held hf) (fun _ h => absurd h List.not_mem_nil) hd hc hs rfl rfl hcat hdg (fun rv ws2 hp => by obtain ⟨rfl, rfl⟩ := hp; exact g_eqW (app0 ws).symm kk))
def f_X12_isFact (a0 : Int32) : Option Int32 :=
  cs (f_X12_in a0 0 7) fun r1 =>
  gz r1 <| some r1
set_option maxRecDepth 100000 in
set_option maxHeartbeats 4000000 in
theorem t_X12_isFact_0 {X : Cx} {PostX : Option Value → va_W → Prop} (hX : Ok X cX12_isFact 1 RX12) (hq : Rq X 1 0 0 (some .boolean) PostX) {u : Int32} (hp : PostX (some (.int u)) []) (a0 : Int32) (hf : f_X12_isFact a0 = some u) : G X 1 0 0 0 [(0, .int a0)] [] [] := by
  unfold f_X12_isFact at hf
  refine g_iloadn hX 0 rfl rfl dX12_isFact_0 ?_
  refine g_iconst hX (v := 0) (by decide) dX12_isFact_1 ?_
  refine g_bipush hX (v := 7) (by decide) dX12_isFact_2 ?_
  obtain ⟨r1, h2, hf⟩ := cs_open hf
  refine k_RX12_X12_in hX hq h2 (by decide) (by decide) (by decide) (Nat.le_of_ble_eq_true rfl) dX12_isFact_4 ?_
  obtain ⟨h3, hf⟩ := gz_open hf
  obtain rfl := oi hf
  exact g_zret hX hq (by decide) (by decide) (nar_z h3) hp dX12_isFact_7
theorem c_X12_isFact {l : Launch} {E : En} {a0 r : Int32} (hf : f_X12_isFact a0 = some r) : CP l E yX12_isFact cX12_isFact 1 (some .boolean) 1 0 0 [] [.int a0] [] (fun rv w => rv = some (.int r) ∧ w = []) :=
  CP.of (lv := [(0, .int a0)]) (by decide +kernel) (Nat.le_of_ble_eq_true rfl) rfl (fun X hl hE hro hX hq hn => t_X12_isFact_0 hX hq ⟨rfl, rfl⟩ a0 hf)
theorem kw_RX12_X12_isFact : KwS RX12 51 yX12_isFact cX12_isFact 1 (some .boolean) 1 := ⟨mem_wsS wd_5_68 wd_5_69 wd_1_19 wd_5_70, ⟨by decide +kernel, by decide +kernel, by decide +kernel⟩, by decide⟩
theorem k_RX12_X12_isFact {X : Cx} {cc : ByteArray} {nL ce sl pc : Nat} {lv : List (Nat × Value)} {st : List Value} {dX mcX msX : Nat} {retX : Option FieldType} {PostX : Option Value → va_W → Prop} {ws : va_W} (hX : Ok X cc nL RX12) (hq : Rq X dX mcX msX retX PostX) {a0 r : Int32} (hf : f_X12_isFact a0 = some r) (hd : 1 < dX) (hc : ce ≤ mcX) (hs : sl ≤ msX) (hcat : (st.map fun v => v.category).sum ≤ 8) (hdg : decode cc pc = .ok (.invokestatic 51, 3)) (kk : G X nL ce sl (pc + 3) lv (.int r :: st) ws) : G X nL ce sl pc lv (.int a0 :: st) ws :=
  g_eqW (app0 ws) (g_callS (pre := ws) (mid := []) (post := []) [.int a0] hX hq kw_RX12_X12_isFact (c_X12_isFact hf) (fun _ h => absurd h List.not_mem_nil) hd hc hs rfl rfl hcat hdg (fun rv ws2 hp => by obtain ⟨rfl, rfl⟩ := hp; exact g_eqW (app0 ws).symm kk))
def f_X12_isFloor (a0 : Int32) : Option Int32 :=
  cs (f_X12_in a0 0 9) fun r1 =>
  gz r1 <| some r1
set_option maxRecDepth 100000 in
set_option maxHeartbeats 4000000 in
theorem t_X12_isFloor_0 {X : Cx} {PostX : Option Value → va_W → Prop} (hX : Ok X cX12_isFloor 1 RX12) (hq : Rq X 1 0 0 (some .boolean) PostX) {u : Int32} (hp : PostX (some (.int u)) []) (a0 : Int32) (hf : f_X12_isFloor a0 = some u) : G X 1 0 0 0 [(0, .int a0)] [] [] := by
  unfold f_X12_isFloor at hf
  refine g_iloadn hX 0 rfl rfl dX12_isFloor_0 ?_
  refine g_iconst hX (v := 0) (by decide) dX12_isFloor_1 ?_
  refine g_bipush hX (v := 9) (by decide) dX12_isFloor_2 ?_
  obtain ⟨r1, h2, hf⟩ := cs_open hf
  refine k_RX12_X12_in hX hq h2 (by decide) (by decide) (by decide) (Nat.le_of_ble_eq_true rfl) dX12_isFloor_4 ?_
  obtain ⟨h3, hf⟩ := gz_open hf
  obtain rfl := oi hf
  exact g_zret hX hq (by decide) (by decide) (nar_z h3) hp dX12_isFloor_7
theorem c_X12_isFloor {l : Launch} {E : En} {a0 r : Int32} (hf : f_X12_isFloor a0 = some r) : CP l E yX12_isFloor cX12_isFloor 1 (some .boolean) 1 0 0 [] [.int a0] [] (fun rv w => rv = some (.int r) ∧ w = []) :=
  CP.of (lv := [(0, .int a0)]) (by decide +kernel) (Nat.le_of_ble_eq_true rfl) rfl (fun X hl hE hro hX hq hn => t_X12_isFloor_0 hX hq ⟨rfl, rfl⟩ a0 hf)
theorem kw_RX12_X12_isFloor : KwS RX12 204 yX12_isFloor cX12_isFloor 1 (some .boolean) 1 := ⟨mem_wsS wd_6_37 wd_6_38 wd_1_19 wd_6_39, ⟨by decide +kernel, by decide +kernel, by decide +kernel⟩, by decide⟩
theorem k_RX12_X12_isFloor {X : Cx} {cc : ByteArray} {nL ce sl pc : Nat} {lv : List (Nat × Value)} {st : List Value} {dX mcX msX : Nat} {retX : Option FieldType} {PostX : Option Value → va_W → Prop} {ws : va_W} (hX : Ok X cc nL RX12) (hq : Rq X dX mcX msX retX PostX) {a0 r : Int32} (hf : f_X12_isFloor a0 = some r) (hd : 1 < dX) (hc : ce ≤ mcX) (hs : sl ≤ msX) (hcat : (st.map fun v => v.category).sum ≤ 8) (hdg : decode cc pc = .ok (.invokestatic 204, 3)) (kk : G X nL ce sl (pc + 3) lv (.int r :: st) ws) : G X nL ce sl pc lv (.int a0 :: st) ws :=
  g_eqW (app0 ws) (g_callS (pre := ws) (mid := []) (post := []) [.int a0] hX hq kw_RX12_X12_isFloor (c_X12_isFloor hf) (fun _ h => absurd h List.not_mem_nil) hd hc hs rfl rfl hcat hdg (fun rv ws2 hp => by obtain ⟨rfl, rfl⟩ := hp; exact g_eqW (app0 ws).symm kk))
def f_X12_isSheet (a0 : Int32) : Option Int32 :=
  cs (f_X12_in a0 0 3) fun r1 =>
  gz r1 <| some r1
set_option maxRecDepth 100000 in
set_option maxHeartbeats 4000000 in
theorem t_X12_isSheet_0 {X : Cx} {PostX : Option Value → va_W → Prop} (hX : Ok X cX12_isSheet 1 RX12) (hq : Rq X 1 0 0 (some .boolean) PostX) {u : Int32} (hp : PostX (some (.int u)) []) (a0 : Int32) (hf : f_X12_isSheet a0 = some u) : G X 1 0 0 0 [(0, .int a0)] [] [] := by
  unfold f_X12_isSheet at hf
  refine g_iloadn hX 0 rfl rfl dX12_isSheet_0 ?_
  refine g_iconst hX (v := 0) (by decide) dX12_isSheet_1 ?_
  refine g_iconst hX (v := 3) (by decide) dX12_isSheet_2 ?_
  obtain ⟨r1, h2, hf⟩ := cs_open hf
  refine k_RX12_X12_in hX hq h2 (by decide) (by decide) (by decide) (Nat.le_of_ble_eq_true rfl) dX12_isSheet_3 ?_
  obtain ⟨h3, hf⟩ := gz_open hf
  obtain rfl := oi hf
  exact g_zret hX hq (by decide) (by decide) (nar_z h3) hp dX12_isSheet_6
theorem c_X12_isSheet {l : Launch} {E : En} {a0 r : Int32} (hf : f_X12_isSheet a0 = some r) : CP l E yX12_isSheet cX12_isSheet 1 (some .boolean) 1 0 0 [] [.int a0] [] (fun rv w => rv = some (.int r) ∧ w = []) :=
  CP.of (lv := [(0, .int a0)]) (by decide +kernel) (Nat.le_of_ble_eq_true rfl) rfl (fun X hl hE hro hX hq hn => t_X12_isSheet_0 hX hq ⟨rfl, rfl⟩ a0 hf)
theorem kw_RX12_X12_isSheet : KwS RX12 212 yX12_isSheet cX12_isSheet 1 (some .boolean) 1 := ⟨mem_wsS wd_6_73 wd_6_74 wd_1_19 wd_6_75, ⟨by decide +kernel, by decide +kernel, by decide +kernel⟩, by decide⟩
theorem k_RX12_X12_isSheet {X : Cx} {cc : ByteArray} {nL ce sl pc : Nat} {lv : List (Nat × Value)} {st : List Value} {dX mcX msX : Nat} {retX : Option FieldType} {PostX : Option Value → va_W → Prop} {ws : va_W} (hX : Ok X cc nL RX12) (hq : Rq X dX mcX msX retX PostX) {a0 r : Int32} (hf : f_X12_isSheet a0 = some r) (hd : 1 < dX) (hc : ce ≤ mcX) (hs : sl ≤ msX) (hcat : (st.map fun v => v.category).sum ≤ 8) (hdg : decode cc pc = .ok (.invokestatic 212, 3)) (kk : G X nL ce sl (pc + 3) lv (.int r :: st) ws) : G X nL ce sl pc lv (.int a0 :: st) ws :=
  g_eqW (app0 ws) (g_callS (pre := ws) (mid := []) (post := []) [.int a0] hX hq kw_RX12_X12_isSheet (c_X12_isSheet hf) (fun _ h => absurd h List.not_mem_nil) hd hc hs rfl rfl hcat hdg (fun rv ws2 hp => by obtain ⟨rfl, rfl⟩ := hp; exact g_eqW (app0 ws).symm kk))
def f_X12_isDigit (a0 : Int32) : Option Int32 :=
  cs (f_X12_in a0 48 57) fun r1 =>
  gz r1 <| some r1
set_option maxRecDepth 100000 in
set_option maxHeartbeats 4000000 in
theorem t_X12_isDigit_0 {X : Cx} {PostX : Option Value → va_W → Prop} (hX : Ok X cX12_isDigit 1 RX12) (hq : Rq X 1 0 0 (some .boolean) PostX) {u : Int32} (hp : PostX (some (.int u)) []) (a0 : Int32) (hf : f_X12_isDigit a0 = some u) : G X 1 0 0 0 [(0, .int a0)] [] [] := by
  unfold f_X12_isDigit at hf
  refine g_iloadn hX 0 rfl rfl dX12_isDigit_0 ?_
  refine g_bipush hX (v := 48) (by decide) dX12_isDigit_1 ?_
  refine g_bipush hX (v := 57) (by decide) dX12_isDigit_3 ?_
  obtain ⟨r1, h2, hf⟩ := cs_open hf
  refine k_RX12_X12_in hX hq h2 (by decide) (by decide) (by decide) (Nat.le_of_ble_eq_true rfl) dX12_isDigit_5 ?_
  obtain ⟨h3, hf⟩ := gz_open hf
  obtain rfl := oi hf
  exact g_zret hX hq (by decide) (by decide) (nar_z h3) hp dX12_isDigit_8
theorem c_X12_isDigit {l : Launch} {E : En} {a0 r : Int32} (hf : f_X12_isDigit a0 = some r) : CP l E yX12_isDigit cX12_isDigit 1 (some .boolean) 1 0 0 [] [.int a0] [] (fun rv w => rv = some (.int r) ∧ w = []) :=
  CP.of (lv := [(0, .int a0)]) (by decide +kernel) (Nat.le_of_ble_eq_true rfl) rfl (fun X hl hE hro hX hq hn => t_X12_isDigit_0 hX hq ⟨rfl, rfl⟩ a0 hf)
theorem kw_RX12_X12_isDigit : KwS RX12 133 yX12_isDigit cX12_isDigit 1 (some .boolean) 1 := ⟨mem_wsS wd_5_161 wd_5_162 wd_1_19 wd_5_163, ⟨by decide +kernel, by decide +kernel, by decide +kernel⟩, by decide⟩
theorem k_RX12_X12_isDigit {X : Cx} {cc : ByteArray} {nL ce sl pc : Nat} {lv : List (Nat × Value)} {st : List Value} {dX mcX msX : Nat} {retX : Option FieldType} {PostX : Option Value → va_W → Prop} {ws : va_W} (hX : Ok X cc nL RX12) (hq : Rq X dX mcX msX retX PostX) {a0 r : Int32} (hf : f_X12_isDigit a0 = some r) (hd : 1 < dX) (hc : ce ≤ mcX) (hs : sl ≤ msX) (hcat : (st.map fun v => v.category).sum ≤ 8) (hdg : decode cc pc = .ok (.invokestatic 133, 3)) (kk : G X nL ce sl (pc + 3) lv (.int r :: st) ws) : G X nL ce sl pc lv (.int a0 :: st) ws :=
  g_eqW (app0 ws) (g_callS (pre := ws) (mid := []) (post := []) [.int a0] hX hq kw_RX12_X12_isDigit (c_X12_isDigit hf) (fun _ h => absurd h List.not_mem_nil) hd hc hs rfl rfl hcat hdg (fun rv ws2 hp => by obtain ⟨rfl, rfl⟩ := hp; exact g_eqW (app0 ws).symm kk))
def f_X12_above (a0 : Int32) : Option Int32 :=
  if (a0 = 0 : Prop) then
    some (-1)
  else
    if (a0 = 4 : Prop) then
      some 1
    else
      if (a0 = 5 : Prop) then
        some 2
      else
        if (a0 = 6 : Prop) then
          some 3
        else
          some 0
set_option maxRecDepth 100000 in
set_option maxHeartbeats 4000000 in
theorem t_X12_above_0 {X : Cx} {PostX : Option Value → va_W → Prop} (hX : Ok X cX12_above 1 RX12) (hq : Rq X 0 0 0 (some .int) PostX) {u : Int32} (hp : PostX (some (.int u)) []) (a0 : Int32) (hf : f_X12_above a0 = some u) : G X 1 0 0 0 [(0, .int a0)] [] [] := by
  unfold f_X12_above at hf
  refine g_iloadn hX 0 rfl rfl dX12_above_0 ?_
  refine g_if_ne hX 8 (by decide) dX12_above_1 (fun c1 => ?_) (fun c1 => ?_)
  · have hf := ite_f c1 hf
    refine g_iloadn hX 0 rfl rfl dX12_above_8 ?_
    refine g_iconst hX (v := 4) (by decide) dX12_above_9 ?_
    refine g_icmp_ne hX 17 (by decide) dX12_above_10 (fun c2 => ?_) (fun c2 => ?_)
    · have hf := ite_f c2 hf
      refine g_iloadn hX 0 rfl rfl dX12_above_17 ?_
      refine g_iconst hX (v := 5) (by decide) dX12_above_18 ?_
      refine g_icmp_ne hX 26 (by decide) dX12_above_19 (fun c3 => ?_) (fun c3 => ?_)
      · have hf := ite_f c3 hf
        refine g_iloadn hX 0 rfl rfl dX12_above_26 ?_
        refine g_bipush hX (v := 6) (by decide) dX12_above_27 ?_
        refine g_icmp_ne hX 36 (by decide) dX12_above_29 (fun c4 => ?_) (fun c4 => ?_)
        · have hf := ite_f c4 hf
          refine g_iconst hX (v := 0) (by decide) dX12_above_36 ?_
          obtain rfl := oi hf
          exact g_iret hX hq (by decide) (by decide) hp dX12_above_37
        · have hf := ite_t c4 hf
          refine g_iconst hX (v := 3) (by decide) dX12_above_32 ?_
          refine g_goto hX 37 (by decide) dX12_above_33 ?_
          obtain rfl := oi hf
          exact g_iret hX hq (by decide) (by decide) hp dX12_above_37
      · have hf := ite_t c3 hf
        refine g_iconst hX (v := 2) (by decide) dX12_above_22 ?_
        refine g_goto hX 37 (by decide) dX12_above_23 ?_
        obtain rfl := oi hf
        exact g_iret hX hq (by decide) (by decide) hp dX12_above_37
    · have hf := ite_t c2 hf
      refine g_iconst hX (v := 1) (by decide) dX12_above_13 ?_
      refine g_goto hX 37 (by decide) dX12_above_14 ?_
      obtain rfl := oi hf
      exact g_iret hX hq (by decide) (by decide) hp dX12_above_37
  · have hf := ite_t c1 hf
    refine g_iconst hX (v := (-1)) (by decide) dX12_above_4 ?_
    refine g_goto hX 37 (by decide) dX12_above_5 ?_
    obtain rfl := oi hf
    exact g_iret hX hq (by decide) (by decide) hp dX12_above_37
theorem c_X12_above {l : Launch} {E : En} {a0 r : Int32} (hf : f_X12_above a0 = some r) : CP l E yX12_above cX12_above 1 (some .int) 0 0 0 [] [.int a0] [] (fun rv w => rv = some (.int r) ∧ w = []) :=
  CP.of (lv := [(0, .int a0)]) (by decide +kernel) (Nat.le_of_ble_eq_true rfl) rfl (fun X hl hE hro hX hq hn => t_X12_above_0 hX hq ⟨rfl, rfl⟩ a0 hf)
theorem kw_RX12_X12_above : KwS RX12 113 yX12_above cX12_above 1 (some .int) 1 := ⟨mem_wsS wd_5_211 wd_5_212 wd_1_19 wd_5_213, ⟨by decide +kernel, by decide +kernel, by decide +kernel⟩, by decide⟩
theorem k_RX12_X12_above {X : Cx} {cc : ByteArray} {nL ce sl pc : Nat} {lv : List (Nat × Value)} {st : List Value} {dX mcX msX : Nat} {retX : Option FieldType} {PostX : Option Value → va_W → Prop} {ws : va_W} (hX : Ok X cc nL RX12) (hq : Rq X dX mcX msX retX PostX) {a0 r : Int32} (hf : f_X12_above a0 = some r) (hd : 0 < dX) (hc : ce ≤ mcX) (hs : sl ≤ msX) (hcat : (st.map fun v => v.category).sum ≤ 8) (hdg : decode cc pc = .ok (.invokestatic 113, 3)) (kk : G X nL ce sl (pc + 3) lv (.int r :: st) ws) : G X nL ce sl pc lv (.int a0 :: st) ws :=
  g_eqW (app0 ws) (g_callS (pre := ws) (mid := []) (post := []) [.int a0] hX hq kw_RX12_X12_above (c_X12_above hf) (fun _ h => absurd h List.not_mem_nil) hd hc hs rfl rfl hcat hdg (fun rv ws2 hp => by obtain ⟨rfl, rfl⟩ := hp; exact g_eqW (app0 ws).symm kk))
def f_X12_narrow (a0 : Int32) (a1 : Int32) : Option Int32 :=
  if (a0 = 8 : Prop) then
    some (ji2b a1)
  else
    if (a0 = 16 : Prop) then
      some (ji2s a1)
    else
      some a1
set_option maxRecDepth 100000 in
set_option maxHeartbeats 4000000 in
theorem t_X12_narrow_0 {X : Cx} {PostX : Option Value → va_W → Prop} (hX : Ok X cX12_narrow 2 RX12) (hq : Rq X 0 0 0 (some .int) PostX) {u : Int32} (hp : PostX (some (.int u)) []) (a0 : Int32) (a1 : Int32) (hf : f_X12_narrow a0 a1 = some u) : G X 2 0 0 0 [(0, .int a0), (1, .int a1)] [] [] := by
  unfold f_X12_narrow at hf
  refine g_iloadn hX 0 rfl rfl dX12_narrow_0 ?_
  refine g_bipush hX (v := 8) (by decide) dX12_narrow_1 ?_
  refine g_icmp_ne hX 11 (by decide) dX12_narrow_3 (fun c1 => ?_) (fun c1 => ?_)
  · have hf := ite_f c1 hf
    refine g_iloadn hX 0 rfl rfl dX12_narrow_11 ?_
    refine g_bipush hX (v := 16) (by decide) dX12_narrow_12 ?_
    refine g_icmp_ne hX 22 (by decide) dX12_narrow_14 (fun c2 => ?_) (fun c2 => ?_)
    · have hf := ite_f c2 hf
      refine g_iloadn hX 1 rfl rfl dX12_narrow_22 ?_
      obtain rfl := oi hf
      exact g_iret hX hq (by decide) (by decide) hp dX12_narrow_23
    · have hf := ite_t c2 hf
      refine g_iloadn hX 1 rfl rfl dX12_narrow_17 ?_
      refine g_ji2s hX dX12_narrow_18 ?_
      refine g_goto hX 23 (by decide) dX12_narrow_19 ?_
      obtain rfl := oi hf
      exact g_iret hX hq (by decide) (by decide) hp dX12_narrow_23
  · have hf := ite_t c1 hf
    refine g_iloadn hX 1 rfl rfl dX12_narrow_6 ?_
    refine g_ji2b hX dX12_narrow_7 ?_
    refine g_goto hX 23 (by decide) dX12_narrow_8 ?_
    obtain rfl := oi hf
    exact g_iret hX hq (by decide) (by decide) hp dX12_narrow_23
theorem c_X12_narrow {l : Launch} {E : En} {a0 a1 r : Int32} (hf : f_X12_narrow a0 a1 = some r) : CP l E yX12_narrow cX12_narrow 2 (some .int) 0 0 0 [] [.int a0, .int a1] [] (fun rv w => rv = some (.int r) ∧ w = []) :=
  CP.of (lv := [(0, .int a0), (1, .int a1)]) (by decide +kernel) (Nat.le_of_ble_eq_true rfl) rfl (fun X hl hE hro hX hq hn => t_X12_narrow_0 hX hq ⟨rfl, rfl⟩ a0 a1 hf)
theorem kw_RX12_X12_narrow : KwS RX12 248 yX12_narrow cX12_narrow 2 (some .int) 2 := ⟨mem_wsS wd_6_128 wd_6_129 wd_1_19 wd_6_130, ⟨by decide +kernel, by decide +kernel, by decide +kernel⟩, by decide⟩
theorem k_RX12_X12_narrow {X : Cx} {cc : ByteArray} {nL ce sl pc : Nat} {lv : List (Nat × Value)} {st : List Value} {dX mcX msX : Nat} {retX : Option FieldType} {PostX : Option Value → va_W → Prop} {ws : va_W} (hX : Ok X cc nL RX12) (hq : Rq X dX mcX msX retX PostX) {a0 a1 r : Int32} (hf : f_X12_narrow a0 a1 = some r) (hd : 0 < dX) (hc : ce ≤ mcX) (hs : sl ≤ msX) (hcat : (st.map fun v => v.category).sum ≤ 8) (hdg : decode cc pc = .ok (.invokestatic 248, 3)) (kk : G X nL ce sl (pc + 3) lv (.int r :: st) ws) : G X nL ce sl pc lv (.int a1 :: .int a0 :: st) ws :=
  g_eqW (app0 ws) (g_callS (pre := ws) (mid := []) (post := []) [.int a0, .int a1] hX hq kw_RX12_X12_narrow (c_X12_narrow hf) (fun _ h => absurd h List.not_mem_nil) hd hc hs rfl rfl hcat hdg (fun rv ws2 hp => by obtain ⟨rfl, rfl⟩ := hp; exact g_eqW (app0 ws).symm kk))
def f_X12_bits_4 : Nat → Int32 → Int32 → Int32 → Option Int32
  | 0 => fun _ _ _ => none
  | n + 1 => fun x0 x1 x2 =>
    let lp4 := f_X12_bits_4 n
    if (8 ≤ x2 : Prop) then
      some x1
    else
      bI (x1 + ((jshr x0 x2) &&& 1)) fun v2 =>
      bI (x2 + 1) fun v3 =>
      lp4 x0 v2 v3
def f_X12_bits (a0 : Int32) : Option Int32 :=
  f_X12_bits_4 100 a0 0 0
set_option maxRecDepth 100000 in
set_option maxHeartbeats 4000000 in
theorem t_X12_bits_4 {X : Cx} {PostX : Option Value → va_W → Prop} (hX : Ok X cX12_bits 3 RX12) (hq : Rq X 0 0 0 (some .int) PostX) {u : Int32} (hp : PostX (some (.int u)) []) : ∀ (n : Nat) (x0 : Int32) (x1 : Int32) (x2 : Int32), f_X12_bits_4 n x0 x1 x2 = some u → G X 3 0 0 4 [(0, .int x0), (1, .int x1), (2, .int x2)] [] [] := by
  intro n
  induction n with
  | zero => intro _ _ _ hf; unfold f_X12_bits_4 at hf; cases hf
  | succ n hlp4 =>
  intro x0 x1 x2 hf
  unfold f_X12_bits_4 at hf
  refine g_iloadn hX 2 rfl rfl dX12_bits_4 ?_
  refine g_bipush hX (v := 8) (by decide) dX12_bits_5 ?_
  refine g_icmp_ge hX 24 (by decide) dX12_bits_7 (fun c1 => ?_) (fun c1 => ?_)
  · have hf := ite_t c1 hf
    refine g_iloadn hX 1 rfl rfl dX12_bits_24 ?_
    obtain rfl := oi hf
    exact g_iret hX hq (by decide) (by decide) hp dX12_bits_25
  · have hf := ite_f c1 hf
    refine g_iloadn hX 1 rfl rfl dX12_bits_10 ?_
    refine g_iloadn hX 0 rfl rfl dX12_bits_11 ?_
    refine g_iloadn hX 2 rfl rfl dX12_bits_12 ?_
    refine g_jshr hX dX12_bits_13 ?_
    refine g_iconst hX (v := 1) (by decide) dX12_bits_14 ?_
    refine g_iand hX dX12_bits_15 ?_
    refine g_iadd hX dX12_bits_16 ?_
    obtain ⟨v2, ev2, hf⟩ := bI_open hf
    refine g_nm ev2 ?_
    refine g_istoren hX [(1, .int v2), (0, .int x0), (2, .int x2)] rfl (by decide) rfl dX12_bits_17 ?_
    obtain ⟨v3, ev3, hf⟩ := bI_open hf
    refine g_iinc hX 2 (v := v3) [(2, .int v3), (1, .int v2), (0, .int x0)] rfl (by rw [ev3]; rfl) (by decide) rfl dX12_bits_18 ?_
    refine g_goto hX 4 (by decide) dX12_bits_21 ?_
    refine g_lv [2, 1, 0] rfl ?_
    exact hlp4 _ _ _ hf
set_option maxRecDepth 100000 in
set_option maxHeartbeats 4000000 in
theorem t_X12_bits_0 {X : Cx} {PostX : Option Value → va_W → Prop} (hX : Ok X cX12_bits 3 RX12) (hq : Rq X 0 0 0 (some .int) PostX) {u : Int32} (hp : PostX (some (.int u)) []) (a0 : Int32) (hf : f_X12_bits a0 = some u) : G X 3 0 0 0 [(0, .int a0)] [] [] := by
  unfold f_X12_bits at hf
  refine g_iconst hX (v := 0) (by decide) dX12_bits_0 ?_
  refine g_istoren hX [(1, .int 0), (0, .int a0)] rfl (by decide) rfl dX12_bits_1 ?_
  refine g_iconst hX (v := 0) (by decide) dX12_bits_2 ?_
  refine g_istoren hX [(2, .int 0), (1, .int 0), (0, .int a0)] rfl (by decide) rfl dX12_bits_3 ?_
  refine g_lv [2, 1, 0] rfl ?_
  exact t_X12_bits_4 hX hq hp _ _ _ _ hf
theorem c_X12_bits {l : Launch} {E : En} {a0 r : Int32} (hf : f_X12_bits a0 = some r) : CP l E yX12_bits cX12_bits 3 (some .int) 0 0 0 [] [.int a0] [] (fun rv w => rv = some (.int r) ∧ w = []) :=
  CP.of (lv := [(0, .int a0)]) (by decide +kernel) (Nat.le_of_ble_eq_true rfl) rfl (fun X hl hE hro hX hq hn => t_X12_bits_0 hX hq ⟨rfl, rfl⟩ a0 hf)
theorem kw_RX12_X12_bits : KwS RX12 195 yX12_bits cX12_bits 3 (some .int) 1 := ⟨mem_wsS wd_6_26 wd_6_27 wd_1_19 wd_6_28, ⟨by decide +kernel, by decide +kernel, by decide +kernel⟩, by decide⟩
theorem k_RX12_X12_bits {X : Cx} {cc : ByteArray} {nL ce sl pc : Nat} {lv : List (Nat × Value)} {st : List Value} {dX mcX msX : Nat} {retX : Option FieldType} {PostX : Option Value → va_W → Prop} {ws : va_W} (hX : Ok X cc nL RX12) (hq : Rq X dX mcX msX retX PostX) {a0 r : Int32} (hf : f_X12_bits a0 = some r) (hd : 0 < dX) (hc : ce ≤ mcX) (hs : sl ≤ msX) (hcat : (st.map fun v => v.category).sum ≤ 8) (hdg : decode cc pc = .ok (.invokestatic 195, 3)) (kk : G X nL ce sl (pc + 3) lv (.int r :: st) ws) : G X nL ce sl pc lv (.int a0 :: st) ws :=
  g_eqW (app0 ws) (g_callS (pre := ws) (mid := []) (post := []) [.int a0] hX hq kw_RX12_X12_bits (c_X12_bits hf) (fun _ h => absurd h List.not_mem_nil) hd hc hs rfl rfl hcat hdg (fun rv ws2 hp => by obtain ⟨rfl, rfl⟩ := hp; exact g_eqW (app0 ws).symm kk))
def f_X12_its (a1 : Int32) (a2 : Int32) (S : MS) : Option (Int32 × MS) :=
  gix ((18 + (3 * a1)) + a2) 206 fun k1 =>
  some ((S.1 1 k1), S)
set_option maxRecDepth 100000 in
set_option maxHeartbeats 4000000 in
theorem t_X12_its_0 {X : Cx} {ad : Nat → Nat} {PostX : Option Value → va_W → Prop} (hX : Ok X cX12_its 3 RX12) (hq : Rq X 0 0 0 (some .int) PostX) {u : (Int32 × MS)} (hp : PostX (some (.int u.1)) (mW X.E ad u.2)) (a1 : Int32) (a2 : Int32) (S : MS) (hf : f_X12_its a1 a2 S = some u) : G X 3 0 0 0 [(0, .ref (ad 0)), (1, .int a1), (2, .int a2)] [] (mW X.E ad S) := by
  unfold f_X12_its at hf
  refine g_aloadn hX 0 rfl rfl dX12_its_0 ?_
  refine mg_row hX dX12_its_1 ?_
  refine g_bipush hX (v := 18) (by decide) dX12_its_4 ?_
  refine g_iconst hX (v := 3) (by decide) dX12_its_6 ?_
  refine g_iloadn hX 1 rfl rfl dX12_its_7 ?_
  refine g_imul hX dX12_its_8 ?_
  refine g_iadd hX dX12_its_9 ?_
  refine g_iloadn hX 2 rfl rfl dX12_its_10 ?_
  refine g_iadd hX dX12_its_11 ?_
  obtain ⟨k1, jk1, ik1, hf⟩ := gix_open hf
  refine ml_row hX ik1 k1 jk1 (v := S.1 1 k1) rfl dX12_its_12 ?_
  obtain rfl := oi hf
  exact g_iret hX hq (by decide) (by decide) hp dX12_its_13
theorem c_X12_its {l : Launch} {E : En} {ad : Nat → Nat} {a1 : Int32} {a2 : Int32} {r : Int32} {S S2 : MS} (hf : f_X12_its a1 a2 S = some (r, S2)) : CP l E yX12_its cX12_its 3 (some .int) 0 0 0 [] [.ref (ad 0), .int a1, .int a2] (mW E ad S) (fun rv w => rv = some (.int r) ∧ w = mW E ad S2) :=
  CP.of (lv := [(0, .ref (ad 0)), (1, .int a1), (2, .int a2)]) (by decide +kernel) (Nat.le_of_ble_eq_true rfl) rfl (fun X hl hE hro hX hq hn => by subst hl; subst hE; exact t_X12_its_0 hX hq ⟨rfl, rfl⟩ a1 a2 S hf)
theorem kw_RX12_X12_its : KwV RX12 83 RX12 yX12_its cX12_its 3 (some .int) 2 := ⟨mem_wsV wd_5_109 wd_5_111 wd_s_20 wd_1_19 wd_5_112, rfl, ⟨by decide +kernel, by decide +kernel, by decide +kernel⟩, by decide⟩
theorem k_X12_its {X : Cx} {cc : ByteArray} {nL ce sl pc : Nat} {lv : List (Nat × Value)} {st : List Value} {dX mcX msX : Nat} {retX : Option FieldType} {PostX : Option Value → va_W → Prop} {ad : Nat → Nat} {S S2 : MS} {d : Nat} (hX : Ok X cc nL RX12) (hq : Rq X dX mcX msX retX PostX) {a1 : Int32} {a2 : Int32} {r : Int32} (hM : CP X.l X.E yX12_its cX12_its 3 (some .int) d 0 0 [] [.ref (ad 0), .int a1, .int a2] (mW X.E ad S) (fun rv w => rv = some (.int r) ∧ w = mW X.E ad S2)) (hd : d < dX) (hc : ce ≤ mcX) (hs : sl ≤ msX) (hcat : (st.map fun v => v.category).sum ≤ 8) (hdg : decode cc pc = .ok (.invokevirtual 83, 3)) (kk : G X nL ce sl (pc + 3) lv (.int r :: st) (mW X.E ad S2)) : G X nL ce sl pc lv (.int a2 :: .int a1 :: .ref (ad 0) :: st) (mW X.E ad S) :=
  g_eqW (app1 _) (g_callV (pre := []) (mid := mW X.E ad S) (post := []) [.int a1, .int a2] hX hq kw_RX12_X12_its hM (fun _ h => absurd h List.not_mem_nil) hd hc hs rfl (Recv.of 0 12 rfl rfl) rfl hcat hdg (fun rv ws2 hp => by obtain ⟨rfl, rfl⟩ := hp; exact g_eqW (app1 _).symm kk))
def f_X12_errs (a1 : Int32) (S : MS) : Option (Int32 × MS) :=
  bI ((-1000000000) - a1) fun v1 =>
  gix v1 6 fun k2 =>
  bI ((S.1 6 k2) + 1) fun v3 =>
  gix v1 6 fun k4 =>
  some (a1, (sA S 6 k4 v3))
set_option maxRecDepth 100000 in
set_option maxHeartbeats 4000000 in
theorem t_X12_errs_0 {X : Cx} {ad : Nat → Nat} {PostX : Option Value → va_W → Prop} (hX : Ok X cX12_errs 2 RX12) (hq : Rq X 0 0 0 (some .int) PostX) {u : (Int32 × MS)} (hp : PostX (some (.int u.1)) (mW X.E ad u.2)) (a1 : Int32) (S : MS) (hf : f_X12_errs a1 S = some u) : G X 2 0 0 0 [(0, .ref (ad 0)), (1, .int a1)] [] (mW X.E ad S) := by
  unfold f_X12_errs at hf
  refine g_aloadn hX 0 rfl rfl dX12_errs_0 ?_
  refine mg_found hX dX12_errs_1 ?_
  refine g_ldc hX (v := (-1000000000)) wd_5_79 dX12_errs_4 ?_
  refine g_iloadn hX 1 rfl rfl dX12_errs_6 ?_
  refine g_isub hX dX12_errs_7 ?_
  obtain ⟨v1, ev1, hf⟩ := bI_open hf
  refine g_nm ev1 ?_
  refine g_dup2 hX rfl rfl dX12_errs_8 ?_
  obtain ⟨k2, jk2, ik2, hf⟩ := gix_open hf
  refine ml_found hX ik2 k2 jk2 (v := S.1 6 k2) rfl dX12_errs_9 ?_
  refine g_iconst hX (v := 1) (by decide) dX12_errs_10 ?_
  refine g_iadd hX dX12_errs_11 ?_
  obtain ⟨v3, ev3, hf⟩ := bI_open hf
  refine g_nm ev3 ?_
  obtain ⟨k4, jk4, ik4, hf⟩ := gix_open hf
  refine ms_found hX ik4 k4 jk4 dX12_errs_12 ?_
  refine g_iloadn hX 1 rfl rfl dX12_errs_13 ?_
  obtain rfl := oi hf
  exact g_iret hX hq (by decide) (by decide) hp dX12_errs_14
theorem c_X12_errs {l : Launch} {E : En} {ad : Nat → Nat} {a1 : Int32} {r : Int32} {S S2 : MS} (hf : f_X12_errs a1 S = some (r, S2)) : CP l E yX12_errs cX12_errs 2 (some .int) 0 0 0 [] [.ref (ad 0), .int a1] (mW E ad S) (fun rv w => rv = some (.int r) ∧ w = mW E ad S2) :=
  CP.of (lv := [(0, .ref (ad 0)), (1, .int a1)]) (by decide +kernel) (Nat.le_of_ble_eq_true rfl) rfl (fun X hl hE hro hX hq hn => by subst hl; subst hE; exact t_X12_errs_0 hX hq ⟨rfl, rfl⟩ a1 S hf)
theorem kw_RX12_X12_errs : KwV RX12 56 RX12 yX12_errs cX12_errs 2 (some .int) 1 := ⟨mem_wsV wd_5_75 wd_5_77 wd_s_17 wd_1_19 wd_5_78, rfl, ⟨by decide +kernel, by decide +kernel, by decide +kernel⟩, by decide⟩
theorem k_X12_errs {X : Cx} {cc : ByteArray} {nL ce sl pc : Nat} {lv : List (Nat × Value)} {st : List Value} {dX mcX msX : Nat} {retX : Option FieldType} {PostX : Option Value → va_W → Prop} {ad : Nat → Nat} {S S2 : MS} {d : Nat} (hX : Ok X cc nL RX12) (hq : Rq X dX mcX msX retX PostX) {a1 : Int32} {r : Int32} (hM : CP X.l X.E yX12_errs cX12_errs 2 (some .int) d 0 0 [] [.ref (ad 0), .int a1] (mW X.E ad S) (fun rv w => rv = some (.int r) ∧ w = mW X.E ad S2)) (hd : d < dX) (hc : ce ≤ mcX) (hs : sl ≤ msX) (hcat : (st.map fun v => v.category).sum ≤ 8) (hdg : decode cc pc = .ok (.invokevirtual 56, 3)) (kk : G X nL ce sl (pc + 3) lv (.int r :: st) (mW X.E ad S2)) : G X nL ce sl pc lv (.int a1 :: .ref (ad 0) :: st) (mW X.E ad S) :=
  g_eqW (app1 _) (g_callV (pre := []) (mid := mW X.E ad S) (post := []) [.int a1] hX hq kw_RX12_X12_errs hM (fun _ h => absurd h List.not_mem_nil) hd hc hs rfl (Recv.of 0 12 rfl rfl) rfl hcat hdg (fun rv ws2 hp => by obtain ⟨rfl, rfl⟩ := hp; exact g_eqW (app1 _).symm kk))
def f_X12_heardAll_4 : Nat → Int32 → Int32 → MS → Option (Int32 × MS)
  | 0 => fun _ _ _ => none
  | n + 1 => fun x1 x2 S =>
    let lp4 := f_X12_heardAll_4 n
    if (8 ≤ x2 : Prop) then
      some (x1, S)
    else
      gix x2 8 fun k2 =>
      gix (10 + x2) 206 fun k3 =>
      bI (x1 + ((S.1 5 k2) * (S.1 1 k3))) fun v4 =>
      bI (x2 + 1) fun v5 =>
      lp4 v4 v5 S
def f_X12_heardAll (S : MS) : Option (Int32 × MS) :=
  f_X12_heardAll_4 100 0 0 S
set_option maxRecDepth 100000 in
set_option maxHeartbeats 4000000 in
theorem t_X12_heardAll_4 {X : Cx} {ad : Nat → Nat} {PostX : Option Value → va_W → Prop} (hX : Ok X cX12_heardAll 3 RX12) (hq : Rq X 0 0 0 (some .int) PostX) {u : (Int32 × MS)} (hp : PostX (some (.int u.1)) (mW X.E ad u.2)) : ∀ (n : Nat) (x1 : Int32) (x2 : Int32) (S : MS), f_X12_heardAll_4 n x1 x2 S = some u → G X 3 0 0 4 [(0, .ref (ad 0)), (1, .int x1), (2, .int x2)] [] (mW X.E ad S) := by
  intro n
  induction n with
  | zero => intro _ _ _ hf; unfold f_X12_heardAll_4 at hf; cases hf
  | succ n hlp4 =>
  intro x1 x2 S hf
  unfold f_X12_heardAll_4 at hf
  refine g_iloadn hX 2 rfl rfl dX12_heardAll_4 ?_
  refine g_bipush hX (v := 8) (by decide) dX12_heardAll_5 ?_
  refine g_icmp_ge hX 35 (by decide) dX12_heardAll_7 (fun c1 => ?_) (fun c1 => ?_)
  · have hf := ite_t c1 hf
    refine g_iloadn hX 1 rfl rfl dX12_heardAll_35 ?_
    obtain rfl := oi hf
    exact g_iret hX hq (by decide) (by decide) hp dX12_heardAll_36
  · have hf := ite_f c1 hf
    refine g_iloadn hX 1 rfl rfl dX12_heardAll_10 ?_
    refine g_aloadn hX 0 rfl rfl dX12_heardAll_11 ?_
    refine mg_power hX dX12_heardAll_12 ?_
    refine g_iloadn hX 2 rfl rfl dX12_heardAll_15 ?_
    obtain ⟨k2, jk2, ik2, hf⟩ := gix_open hf
    refine ml_power hX ik2 k2 jk2 (v := S.1 5 k2) rfl dX12_heardAll_16 ?_
    refine g_aloadn hX 0 rfl rfl dX12_heardAll_17 ?_
    refine mg_row hX dX12_heardAll_18 ?_
    refine g_bipush hX (v := 10) (by decide) dX12_heardAll_21 ?_
    refine g_iloadn hX 2 rfl rfl dX12_heardAll_23 ?_
    refine g_iadd hX dX12_heardAll_24 ?_
    obtain ⟨k3, jk3, ik3, hf⟩ := gix_open hf
    refine ml_row hX ik3 k3 jk3 (v := S.1 1 k3) rfl dX12_heardAll_25 ?_
    refine g_imul hX dX12_heardAll_26 ?_
    refine g_iadd hX dX12_heardAll_27 ?_
    obtain ⟨v4, ev4, hf⟩ := bI_open hf
    refine g_nm ev4 ?_
    refine g_istoren hX [(1, .int v4), (0, .ref (ad 0)), (2, .int x2)] rfl (by decide) rfl dX12_heardAll_28 ?_
    obtain ⟨v5, ev5, hf⟩ := bI_open hf
    refine g_iinc hX 2 (v := v5) [(2, .int v5), (1, .int v4), (0, .ref (ad 0))] rfl (by rw [ev5]; rfl) (by decide) rfl dX12_heardAll_29 ?_
    refine g_goto hX 4 (by decide) dX12_heardAll_32 ?_
    refine g_lv [2, 1, 0] rfl ?_
    exact hlp4 _ _ _ hf
set_option maxRecDepth 100000 in
set_option maxHeartbeats 4000000 in
theorem t_X12_heardAll_0 {X : Cx} {ad : Nat → Nat} {PostX : Option Value → va_W → Prop} (hX : Ok X cX12_heardAll 3 RX12) (hq : Rq X 0 0 0 (some .int) PostX) {u : (Int32 × MS)} (hp : PostX (some (.int u.1)) (mW X.E ad u.2)) (S : MS) (hf : f_X12_heardAll S = some u) : G X 3 0 0 0 [(0, .ref (ad 0))] [] (mW X.E ad S) := by
  unfold f_X12_heardAll at hf
  refine g_iconst hX (v := 0) (by decide) dX12_heardAll_0 ?_
  refine g_istoren hX [(1, .int 0), (0, .ref (ad 0))] rfl (by decide) rfl dX12_heardAll_1 ?_
  refine g_iconst hX (v := 0) (by decide) dX12_heardAll_2 ?_
  refine g_istoren hX [(2, .int 0), (1, .int 0), (0, .ref (ad 0))] rfl (by decide) rfl dX12_heardAll_3 ?_
  refine g_lv [2, 1, 0] rfl ?_
  exact t_X12_heardAll_4 hX hq hp _ _ _ _ hf
theorem c_X12_heardAll {l : Launch} {E : En} {ad : Nat → Nat} {r : Int32} {S S2 : MS} (hf : f_X12_heardAll S = some (r, S2)) : CP l E yX12_heardAll cX12_heardAll 3 (some .int) 0 0 0 [] [.ref (ad 0)] (mW E ad S) (fun rv w => rv = some (.int r) ∧ w = mW E ad S2) :=
  CP.of (lv := [(0, .ref (ad 0))]) (by decide +kernel) (Nat.le_of_ble_eq_true rfl) rfl (fun X hl hE hro hX hq hn => by subst hl; subst hE; exact t_X12_heardAll_0 hX hq ⟨rfl, rfl⟩ S hf)
theorem kw_RX12_X12_heardAll : KwV RX12 60 RX12 yX12_heardAll cX12_heardAll 3 (some .int) 0 := ⟨mem_wsV wd_5_84 wd_5_86 wd_s_18 wd_1_19 wd_5_87, rfl, ⟨by decide +kernel, by decide +kernel, by decide +kernel⟩, by decide⟩
theorem k_X12_heardAll {X : Cx} {cc : ByteArray} {nL ce sl pc : Nat} {lv : List (Nat × Value)} {st : List Value} {dX mcX msX : Nat} {retX : Option FieldType} {PostX : Option Value → va_W → Prop} {ad : Nat → Nat} {S S2 : MS} {d : Nat} (hX : Ok X cc nL RX12) (hq : Rq X dX mcX msX retX PostX) {r : Int32} (hM : CP X.l X.E yX12_heardAll cX12_heardAll 3 (some .int) d 0 0 [] [.ref (ad 0)] (mW X.E ad S) (fun rv w => rv = some (.int r) ∧ w = mW X.E ad S2)) (hd : d < dX) (hc : ce ≤ mcX) (hs : sl ≤ msX) (hcat : (st.map fun v => v.category).sum ≤ 8) (hdg : decode cc pc = .ok (.invokevirtual 60, 3)) (kk : G X nL ce sl (pc + 3) lv (.int r :: st) (mW X.E ad S2)) : G X nL ce sl pc lv (.ref (ad 0) :: st) (mW X.E ad S) :=
  g_eqW (app1 _) (g_callV (pre := []) (mid := mW X.E ad S) (post := []) [] hX hq kw_RX12_X12_heardAll hM (fun _ h => absurd h List.not_mem_nil) hd hc hs rfl (Recv.of 0 12 rfl rfl) rfl hcat hdg (fun rv ws2 hp => by obtain ⟨rfl, rfl⟩ := hp; exact g_eqW (app1 _).symm kk))

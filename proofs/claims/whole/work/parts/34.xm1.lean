def f_X11_error (RD : Nat → Nat × Int32 × Int32 × Int32) (a1 : Int32) (S : MS) : Option (Int32 × MS) :=
  gix a1 6 fun k1 =>
  bI ((S.1 7 k1) + 1) fun v2 =>
  gix a1 6 fun k3 =>
  some (((-1000000000) - a1), (sA S 7 k3 v2))
set_option maxRecDepth 100000 in
set_option maxHeartbeats 4000000 in
theorem t_X11_error_0 {X : Cx} {ad Q : Nat → Nat} {kv : Value} {RD : Nat → Nat × Int32 × Int32 × Int32} (hro : ∀ z ∈ roL Q RD, z ∈ X.ro) (hRk : ∀ k, k < 6 → isRk (RD k).1) {PostX : Option Value → va_W → Prop} (hX : Ok X cX11_error 2 RX11) (hq : Rq X 0 0 0 (some .int) PostX) {u : (Int32 × MS)} (hp : PostX (some (.int u.1)) (xW X.E ad Q kv u.2)) (a1 : Int32) (S : MS) (hf : f_X11_error RD a1 S = some u) : G X 2 0 0 0 [(0, .ref (ad 10)), (1, .int a1)] [] (xW X.E ad Q kv S) := by
  unfold f_X11_error at hf
  refine g_aloadn hX 0 rfl rfl dX11_error_0 ?_
  refine xg_errors hX dX11_error_1 ?_
  refine g_iloadn hX 1 rfl rfl dX11_error_4 ?_
  refine g_dup2 hX rfl rfl dX11_error_5 ?_
  obtain ⟨k1, jk1, ik1, hf⟩ := gix_open hf
  refine xl_errors hX ik1 k1 jk1 dX11_error_6 ?_
  refine g_iconst hX (v := 1) (by decide) dX11_error_7 ?_
  refine g_iadd hX dX11_error_8 ?_
  obtain ⟨v2, ev2, hf⟩ := bI_open hf
  refine g_nm ev2 ?_
  obtain ⟨k3, jk3, ik3, hf⟩ := gix_open hf
  refine xs_errors hX ik3 k3 jk3 dX11_error_9 ?_
  refine g_ldcw hX (v := (-1000000000)) wd_2_226 dX11_error_10 ?_
  refine g_iloadn hX 1 rfl rfl dX11_error_13 ?_
  refine g_isub hX dX11_error_14 ?_
  obtain rfl := oi hf
  exact g_iret hX hq (by decide) (by decide) hp dX11_error_15
theorem c_X11_error {l : Launch} {E : En} {ad Q : Nat → Nat} {kv : Value} {RD : Nat → Nat × Int32 × Int32 × Int32} (hRk : ∀ k, k < 6 → isRk (RD k).1) {a1 : Int32} {r : Int32} {S S2 : MS} (hf : f_X11_error RD a1 S = some (r, S2)) : CP l E yX11_error cX11_error 2 (some .int) 0 0 0 (roL Q RD) [.ref (ad 10), .int a1] (xW E ad Q kv S) (fun rv w => rv = some (.int r) ∧ w = xW E ad Q kv S2) :=
  CP.of (lv := [(0, .ref (ad 10)), (1, .int a1)]) (by decide +kernel) (Nat.le_of_ble_eq_true rfl) rfl (fun X hl hE hro hX hq hn => by subst hl; subst hE; exact t_X11_error_0 (fun z hz => by rw [hro]; exact hz) hRk hX hq ⟨rfl, rfl⟩ a1 S hf)
theorem kw_RX11_X11_error : KwV RX11 48 RX11 yX11_error cX11_error 2 (some .int) 1 := ⟨mem_wsV wd_2_222 wd_2_224 wd_s_11 wd_1_1 wd_2_225, rfl, ⟨by decide +kernel, by decide +kernel, by decide +kernel⟩, by decide⟩
theorem k_X11_error {X : Cx} {cc : ByteArray} {nL ce sl pc : Nat} {lv : List (Nat × Value)} {st : List Value} {dX mcX msX : Nat} {retX : Option FieldType} {PostX : Option Value → va_W → Prop} {ad Q : Nat → Nat} {kv : Value} {RD : Nat → Nat × Int32 × Int32 × Int32} {S S2 : MS} {d : Nat} (hro : ∀ z ∈ roL Q RD, z ∈ X.ro) (hX : Ok X cc nL RX11) (hq : Rq X dX mcX msX retX PostX) {a1 : Int32} {r : Int32} (hM : CP X.l X.E yX11_error cX11_error 2 (some .int) d 0 0 (roL Q RD) [.ref (ad 10), .int a1] (xW X.E ad Q kv S) (fun rv w => rv = some (.int r) ∧ w = xW X.E ad Q kv S2)) (hd : d < dX) (hc : ce ≤ mcX) (hs : sl ≤ msX) (hcat : (st.map fun v => v.category).sum ≤ 8) (hdg : decode cc pc = .ok (.invokevirtual 48, 3)) (kk : G X nL ce sl (pc + 3) lv (.int r :: st) (xW X.E ad Q kv S2)) : G X nL ce sl pc lv (.int a1 :: .ref (ad 10) :: st) (xW X.E ad Q kv S) :=
  g_eqW (app1 _) (g_callV (pre := []) (mid := xW X.E ad Q kv S) (post := []) [.int a1] hX hq kw_RX11_X11_error hM hro hd hc hs rfl (Recv.of 10 11 rfl rfl) rfl hcat hdg (fun rv ws2 hp => by obtain ⟨rfl, rfl⟩ := hp; exact g_eqW (app1 _).symm kk))
def f_X11_isRider_19 (RD : Nat → Nat × Int32 × Int32 × Int32) (S : MS) : Option (Int32 × MS) :=
  some (0, S)
def f_X11_isRider (RD : Nat → Nat × Int32 × Int32 × Int32) (a1 : Int32) (S : MS) : Option (Int32 × MS) :=
  if (a1 < 0 : Prop) then
    f_X11_isRider_19 RD S
  else
    if ((S.2 6) ≤ a1 : Prop) then
      f_X11_isRider_19 RD S
    else
      some (1, S)
set_option maxRecDepth 100000 in
set_option maxHeartbeats 4000000 in
theorem t_X11_isRider_19 {X : Cx} {ad Q : Nat → Nat} {kv : Value} {RD : Nat → Nat × Int32 × Int32 × Int32} (hro : ∀ z ∈ roL Q RD, z ∈ X.ro) (hRk : ∀ k, k < 6 → isRk (RD k).1) {PostX : Option Value → va_W → Prop} (hX : Ok X cX11_isRider 2 RX11) (hq : Rq X 0 0 0 (some .boolean) PostX) {u : (Int32 × MS)} (hp : PostX (some (.int u.1)) (xW X.E ad Q kv u.2)) (S : MS) (hf : f_X11_isRider_19 RD S = some u) : G X 2 0 0 19 [(0, .ref (ad 10))] [] (xW X.E ad Q kv S) := by
  unfold f_X11_isRider_19 at hf
  refine g_iconst hX (v := 0) (by decide) dX11_isRider_19 ?_
  obtain rfl := oi hf
  exact g_zret hX hq (by decide) (by decide) (by rfl) hp dX11_isRider_20
set_option maxRecDepth 100000 in
set_option maxHeartbeats 4000000 in
theorem t_X11_isRider_0 {X : Cx} {ad Q : Nat → Nat} {kv : Value} {RD : Nat → Nat × Int32 × Int32 × Int32} (hro : ∀ z ∈ roL Q RD, z ∈ X.ro) (hRk : ∀ k, k < 6 → isRk (RD k).1) {PostX : Option Value → va_W → Prop} (hX : Ok X cX11_isRider 2 RX11) (hq : Rq X 0 0 0 (some .boolean) PostX) {u : (Int32 × MS)} (hp : PostX (some (.int u.1)) (xW X.E ad Q kv u.2)) (a1 : Int32) (S : MS) (hf : f_X11_isRider RD a1 S = some u) : G X 2 0 0 0 [(0, .ref (ad 10)), (1, .int a1)] [] (xW X.E ad Q kv S) := by
  unfold f_X11_isRider at hf
  refine g_iloadn hX 1 rfl rfl dX11_isRider_0 ?_
  refine g_if_lt hX 19 (by decide) dX11_isRider_1 (fun c1 => ?_) (fun c1 => ?_)
  · have hf := ite_t c1 hf
    refine g_lv [0] rfl ?_
    exact t_X11_isRider_19 hro hRk hX hq hp _ hf
  · have hf := ite_f c1 hf
    refine g_iloadn hX 1 rfl rfl dX11_isRider_4 ?_
    refine g_aloadn hX 0 rfl rfl dX11_isRider_5 ?_
    refine xg_lift hX dX11_isRider_6 ?_
    refine xg_riderCount hX (v := S.2 6) rfl dX11_isRider_9 ?_
    refine g_icmp_ge hX 19 (by decide) dX11_isRider_12 (fun c2 => ?_) (fun c2 => ?_)
    · have hf := ite_t c2 hf
      refine g_lv [0] rfl ?_
      exact t_X11_isRider_19 hro hRk hX hq hp _ hf
    · have hf := ite_f c2 hf
      refine g_iconst hX (v := 1) (by decide) dX11_isRider_15 ?_
      refine g_goto hX 20 (by decide) dX11_isRider_16 ?_
      obtain rfl := oi hf
      exact g_zret hX hq (by decide) (by decide) (by rfl) hp dX11_isRider_20
theorem c_X11_isRider {l : Launch} {E : En} {ad Q : Nat → Nat} {kv : Value} {RD : Nat → Nat × Int32 × Int32 × Int32} (hRk : ∀ k, k < 6 → isRk (RD k).1) {a1 : Int32} {r : Int32} {S S2 : MS} (hf : f_X11_isRider RD a1 S = some (r, S2)) : CP l E yX11_isRider cX11_isRider 2 (some .boolean) 0 0 0 (roL Q RD) [.ref (ad 10), .int a1] (xW E ad Q kv S) (fun rv w => rv = some (.int r) ∧ w = xW E ad Q kv S2) :=
  CP.of (lv := [(0, .ref (ad 10)), (1, .int a1)]) (by decide +kernel) (Nat.le_of_ble_eq_true rfl) rfl (fun X hl hE hro hX hq hn => by subst hl; subst hE; exact t_X11_isRider_0 (fun z hz => by rw [hro]; exact hz) hRk hX hq ⟨rfl, rfl⟩ a1 S hf)
theorem kw_RX11_X11_isRider : KwV RX11 89 RX11 yX11_isRider cX11_isRider 2 (some .boolean) 1 := ⟨mem_wsV wd_3_23 wd_3_25 wd_s_12 wd_1_1 wd_3_26, rfl, ⟨by decide +kernel, by decide +kernel, by decide +kernel⟩, by decide⟩
theorem k_X11_isRider {X : Cx} {cc : ByteArray} {nL ce sl pc : Nat} {lv : List (Nat × Value)} {st : List Value} {dX mcX msX : Nat} {retX : Option FieldType} {PostX : Option Value → va_W → Prop} {ad Q : Nat → Nat} {kv : Value} {RD : Nat → Nat × Int32 × Int32 × Int32} {S S2 : MS} {d : Nat} (hro : ∀ z ∈ roL Q RD, z ∈ X.ro) (hX : Ok X cc nL RX11) (hq : Rq X dX mcX msX retX PostX) {a1 : Int32} {r : Int32} (hM : CP X.l X.E yX11_isRider cX11_isRider 2 (some .boolean) d 0 0 (roL Q RD) [.ref (ad 10), .int a1] (xW X.E ad Q kv S) (fun rv w => rv = some (.int r) ∧ w = xW X.E ad Q kv S2)) (hd : d < dX) (hc : ce ≤ mcX) (hs : sl ≤ msX) (hcat : (st.map fun v => v.category).sum ≤ 8) (hdg : decode cc pc = .ok (.invokevirtual 89, 3)) (kk : G X nL ce sl (pc + 3) lv (.int r :: st) (xW X.E ad Q kv S2)) : G X nL ce sl pc lv (.int a1 :: .ref (ad 10) :: st) (xW X.E ad Q kv S) :=
  g_eqW (app1 _) (g_callV (pre := []) (mid := xW X.E ad Q kv S) (post := []) [.int a1] hX hq kw_RX11_X11_isRider hM hro hd hc hs rfl (Recv.of 10 11 rfl rfl) rfl hcat hdg (fun rv ws2 hp => by obtain ⟨rfl, rfl⟩ := hp; exact g_eqW (app1 _).symm kk))
def f_X11_hear_14 (RD : Nat → Nat × Int32 × Int32 × Int32) (S : MS) : Option (Int32 × MS) :=
  cb (f_X11_error RD 1 S) fun r6 S4 =>
  some (r6, S4)
def f_X11_hear (RD : Nat → Nat × Int32 × Int32 × Int32) (a1 : Int32) (a2 : Int32) (S : MS) : Option (Int32 × MS) :=
  cs (f_X11_isFact a1) fun r1 =>
  if (r1 = 0 : Prop) then
    f_X11_hear_14 RD S
  else
    cs (f_X11_isSaying a2) fun r7 =>
    if (r7 = 0 : Prop) then
      f_X11_hear_14 RD S
    else
      cs (f_X11_sayingOf (S.2 0) a1) fun r10 =>
      cs (f_X11_withSaying (S.2 0) a1 a2) fun r12 =>
      some (r10, (sF S 0 r12))
set_option maxRecDepth 100000 in
set_option maxHeartbeats 4000000 in
theorem t_X11_hear_14 {X : Cx} {ad Q : Nat → Nat} {kv : Value} {RD : Nat → Nat × Int32 × Int32 × Int32} (hro : ∀ z ∈ roL Q RD, z ∈ X.ro) (hRk : ∀ k, k < 6 → isRk (RD k).1) {PostX : Option Value → va_W → Prop} (hX : Ok X cX11_hear 4 RX11) (hq : Rq X 2 0 0 (some .int) PostX) {u : (Int32 × MS)} (hp : PostX (some (.int u.1)) (xW X.E ad Q kv u.2)) (S : MS) (hf : f_X11_hear_14 RD S = some u) : G X 4 0 0 14 [(0, .ref (ad 10))] [] (xW X.E ad Q kv S) := by
  unfold f_X11_hear_14 at hf
  refine g_aloadn hX 0 rfl rfl dX11_hear_14 ?_
  refine g_iconst hX (v := 1) (by decide) dX11_hear_15 ?_
  obtain ⟨r6, S4, h5, hf⟩ := cb_open hf
  refine k_X11_error hro hX hq (c_X11_error hRk h5) (by decide) (by decide) (by decide) (Nat.le_of_ble_eq_true rfl) dX11_hear_16 ?_
  obtain rfl := oi hf
  exact g_iret hX hq (by decide) (by decide) hp dX11_hear_19
set_option maxRecDepth 100000 in
set_option maxHeartbeats 4000000 in
theorem t_X11_hear_0 {X : Cx} {ad Q : Nat → Nat} {kv : Value} {RD : Nat → Nat × Int32 × Int32 × Int32} (hro : ∀ z ∈ roL Q RD, z ∈ X.ro) (hRk : ∀ k, k < 6 → isRk (RD k).1) {PostX : Option Value → va_W → Prop} (hX : Ok X cX11_hear 4 RX11) (hq : Rq X 2 0 0 (some .int) PostX) {u : (Int32 × MS)} (hp : PostX (some (.int u.1)) (xW X.E ad Q kv u.2)) (a1 : Int32) (a2 : Int32) (S : MS) (hf : f_X11_hear RD a1 a2 S = some u) : G X 4 0 0 0 [(0, .ref (ad 10)), (1, .int a1), (2, .int a2)] [] (xW X.E ad Q kv S) := by
  unfold f_X11_hear at hf
  refine g_iloadn hX 1 rfl rfl dX11_hear_0 ?_
  obtain ⟨r1, h2, hf⟩ := cs_open hf
  refine k_RX11_X11_isFact hX hq h2 (by decide) (by decide) (by decide) (Nat.le_of_ble_eq_true rfl) dX11_hear_1 ?_
  refine g_if_eq hX 14 (by decide) dX11_hear_4 (fun c3 => ?_) (fun c3 => ?_)
  · have hf := ite_t c3 hf
    refine g_lv [0] rfl ?_
    exact t_X11_hear_14 hro hRk hX hq hp _ hf
  · have hf := ite_f c3 hf
    refine g_iloadn hX 2 rfl rfl dX11_hear_7 ?_
    obtain ⟨r7, h8, hf⟩ := cs_open hf
    refine k_RX11_X11_isSaying hX hq h8 (by decide) (by decide) (by decide) (Nat.le_of_ble_eq_true rfl) dX11_hear_8 ?_
    refine g_if_ne hX 20 (by decide) dX11_hear_11 (fun c9 => ?_) (fun c9 => ?_)
    · have hf := ite_f c9 hf
      refine g_aloadn hX 0 rfl rfl dX11_hear_20 ?_
      refine xg_lift hX dX11_hear_21 ?_
      refine xg_heard hX (v := S.2 0) rfl dX11_hear_24 ?_
      refine g_iloadn hX 1 rfl rfl dX11_hear_27 ?_
      obtain ⟨r10, h11, hf⟩ := cs_open hf
      refine k_RX11_X11_sayingOf hX hq h11 (by decide) (by decide) (by decide) (Nat.le_of_ble_eq_true rfl) dX11_hear_28 ?_
      refine g_istoren hX [(3, .int r10), (0, .ref (ad 10)), (1, .int a1), (2, .int a2)] rfl (by decide) rfl dX11_hear_31 ?_
      refine g_aloadn hX 1 rfl rfl dX11_hear_32 ?_
      refine xg_lift hX dX11_hear_33 ?_
      refine g_aloadn hX 1 rfl rfl dX11_hear_36 ?_
      refine xg_lift hX dX11_hear_37 ?_
      refine xg_heard hX (v := S.2 0) rfl dX11_hear_40 ?_
      refine g_iloadn hX 2 rfl rfl dX11_hear_43 ?_
      refine g_iloadn hX 3 rfl rfl dX11_hear_44 ?_
      obtain ⟨r12, h13, hf⟩ := cs_open hf
      refine k_RX11_X11_withSaying hX hq h13 (by decide) (by decide) (by decide) (Nat.le_of_ble_eq_true rfl) dX11_hear_45 ?_
      refine xp_heard hX dX11_hear_48 ?_
      refine g_iloadn hX 0 rfl rfl dX11_hear_51 ?_
      obtain rfl := oi hf
      exact g_iret hX hq (by decide) (by decide) hp dX11_hear_52
    · have hf := ite_t c9 hf
      refine g_lv [0] rfl ?_
      exact t_X11_hear_14 hro hRk hX hq hp _ hf
theorem c_X11_hear {l : Launch} {E : En} {ad Q : Nat → Nat} {kv : Value} {RD : Nat → Nat × Int32 × Int32 × Int32} (hRk : ∀ k, k < 6 → isRk (RD k).1) {a1 : Int32} {a2 : Int32} {r : Int32} {S S2 : MS} (hf : f_X11_hear RD a1 a2 S = some (r, S2)) : CP l E yX11_hear cX11_hear 4 (some .int) 2 0 0 (roL Q RD) [.ref (ad 10), .int a1, .int a2] (xW E ad Q kv S) (fun rv w => rv = some (.int r) ∧ w = xW E ad Q kv S2) :=
  CP.of (lv := [(0, .ref (ad 10)), (1, .int a1), (2, .int a2)]) (by decide +kernel) (Nat.le_of_ble_eq_true rfl) rfl (fun X hl hE hro hX hq hn => by subst hl; subst hE; exact t_X11_hear_0 (fun z hz => by rw [hro]; exact hz) hRk hX hq ⟨rfl, rfl⟩ a1 a2 S hf)
def f_X11_heard (RD : Nat → Nat × Int32 × Int32 × Int32) (S : MS) : Option (Int32 × MS) :=
  cs (f_X11_numberOf (S.2 0)) fun r1 =>
  some (r1, S)
set_option maxRecDepth 100000 in
set_option maxHeartbeats 4000000 in
theorem t_X11_heard_0 {X : Cx} {ad Q : Nat → Nat} {kv : Value} {RD : Nat → Nat × Int32 × Int32 × Int32} (hro : ∀ z ∈ roL Q RD, z ∈ X.ro) (hRk : ∀ k, k < 6 → isRk (RD k).1) {PostX : Option Value → va_W → Prop} (hX : Ok X cX11_heard 1 RX11) (hq : Rq X 2 0 0 (some .int) PostX) {u : (Int32 × MS)} (hp : PostX (some (.int u.1)) (xW X.E ad Q kv u.2)) (S : MS) (hf : f_X11_heard RD S = some u) : G X 1 0 0 0 [(0, .ref (ad 10))] [] (xW X.E ad Q kv S) := by
  unfold f_X11_heard at hf
  refine g_aloadn hX 0 rfl rfl dX11_heard_0 ?_
  refine xg_lift hX dX11_heard_1 ?_
  refine xg_heard hX (v := S.2 0) rfl dX11_heard_4 ?_
  obtain ⟨r1, h2, hf⟩ := cs_open hf
  refine k_RX11_X11_numberOf hX hq h2 (by decide) (by decide) (by decide) (Nat.le_of_ble_eq_true rfl) dX11_heard_7 ?_
  obtain rfl := oi hf
  exact g_iret hX hq (by decide) (by decide) hp dX11_heard_10
theorem c_X11_heard {l : Launch} {E : En} {ad Q : Nat → Nat} {kv : Value} {RD : Nat → Nat × Int32 × Int32 × Int32} (hRk : ∀ k, k < 6 → isRk (RD k).1) {r : Int32} {S S2 : MS} (hf : f_X11_heard RD S = some (r, S2)) : CP l E yX11_heard cX11_heard 1 (some .int) 2 0 0 (roL Q RD) [.ref (ad 10)] (xW E ad Q kv S) (fun rv w => rv = some (.int r) ∧ w = xW E ad Q kv S2) :=
  CP.of (lv := [(0, .ref (ad 10))]) (by decide +kernel) (Nat.le_of_ble_eq_true rfl) rfl (fun X hl hE hro hX hq hn => by subst hl; subst hE; exact t_X11_heard_0 (fun z hz => by rw [hro]; exact hz) hRk hX hq ⟨rfl, rfl⟩ S hf)
def f_X11_world_11 (RD : Nat → Nat × Int32 × Int32 × Int32) (S : MS) : Option (Int32 × MS) :=
  cb (f_X11_error RD 1 S) fun r4 S2 =>
  some (r4, S2)
def f_X11_world (RD : Nat → Nat × Int32 × Int32 × Int32) (a1 : Int32) (S : MS) : Option (Int32 × MS) :=
  if (a1 < 0 : Prop) then
    f_X11_world_11 RD S
  else
    if (a1 ≤ 255 : Prop) then
      bI (S.2 1) fun v6 =>
      some (v6, (sF S 1 a1))
    else
      f_X11_world_11 RD S
set_option maxRecDepth 100000 in
set_option maxHeartbeats 4000000 in
theorem t_X11_world_11 {X : Cx} {ad Q : Nat → Nat} {kv : Value} {RD : Nat → Nat × Int32 × Int32 × Int32} (hro : ∀ z ∈ roL Q RD, z ∈ X.ro) (hRk : ∀ k, k < 6 → isRk (RD k).1) {PostX : Option Value → va_W → Prop} (hX : Ok X cX11_world 3 RX11) (hq : Rq X 1 0 0 (some .int) PostX) {u : (Int32 × MS)} (hp : PostX (some (.int u.1)) (xW X.E ad Q kv u.2)) (S : MS) (hf : f_X11_world_11 RD S = some u) : G X 3 0 0 11 [(0, .ref (ad 10))] [] (xW X.E ad Q kv S) := by
  unfold f_X11_world_11 at hf
  refine g_aloadn hX 0 rfl rfl dX11_world_11 ?_
  refine g_iconst hX (v := 1) (by decide) dX11_world_12 ?_
  obtain ⟨r4, S2, h3, hf⟩ := cb_open hf
  refine k_X11_error hro hX hq (c_X11_error hRk h3) (by decide) (by decide) (by decide) (Nat.le_of_ble_eq_true rfl) dX11_world_13 ?_
  obtain rfl := oi hf
  exact g_iret hX hq (by decide) (by decide) hp dX11_world_16
set_option maxRecDepth 100000 in
set_option maxHeartbeats 4000000 in
theorem t_X11_world_0 {X : Cx} {ad Q : Nat → Nat} {kv : Value} {RD : Nat → Nat × Int32 × Int32 × Int32} (hro : ∀ z ∈ roL Q RD, z ∈ X.ro) (hRk : ∀ k, k < 6 → isRk (RD k).1) {PostX : Option Value → va_W → Prop} (hX : Ok X cX11_world 3 RX11) (hq : Rq X 1 0 0 (some .int) PostX) {u : (Int32 × MS)} (hp : PostX (some (.int u.1)) (xW X.E ad Q kv u.2)) (a1 : Int32) (S : MS) (hf : f_X11_world RD a1 S = some u) : G X 3 0 0 0 [(0, .ref (ad 10)), (1, .int a1)] [] (xW X.E ad Q kv S) := by
  unfold f_X11_world at hf
  refine g_iloadn hX 1 rfl rfl dX11_world_0 ?_
  refine g_if_lt hX 11 (by decide) dX11_world_1 (fun c1 => ?_) (fun c1 => ?_)
  · have hf := ite_t c1 hf
    refine g_lv [0] rfl ?_
    exact t_X11_world_11 hro hRk hX hq hp _ hf
  · have hf := ite_f c1 hf
    refine g_iloadn hX 1 rfl rfl dX11_world_4 ?_
    refine g_sipush hX (v := 255) (by decide) dX11_world_5 ?_
    refine g_icmp_le hX 17 (by decide) dX11_world_8 (fun c5 => ?_) (fun c5 => ?_)
    · have hf := ite_t c5 hf
      refine g_aloadn hX 0 rfl rfl dX11_world_17 ?_
      refine xg_lift hX dX11_world_18 ?_
      refine xg_world hX (v := S.2 1) rfl dX11_world_21 ?_
      obtain ⟨v6, ev6, hf⟩ := bI_open hf
      refine g_nm ev6 ?_
      refine g_istoren hX [(2, .int v6), (0, .ref (ad 10)), (1, .int a1)] rfl (by decide) rfl dX11_world_24 ?_
      refine g_aloadn hX 1 rfl rfl dX11_world_25 ?_
      refine xg_lift hX dX11_world_26 ?_
      refine g_iloadn hX 2 rfl rfl dX11_world_29 ?_
      refine xp_world hX dX11_world_30 ?_
      refine g_iloadn hX 0 rfl rfl dX11_world_33 ?_
      obtain rfl := oi hf
      exact g_iret hX hq (by decide) (by decide) hp dX11_world_34
    · have hf := ite_f c5 hf
      refine g_lv [0] rfl ?_
      exact t_X11_world_11 hro hRk hX hq hp _ hf
theorem c_X11_world {l : Launch} {E : En} {ad Q : Nat → Nat} {kv : Value} {RD : Nat → Nat × Int32 × Int32 × Int32} (hRk : ∀ k, k < 6 → isRk (RD k).1) {a1 : Int32} {r : Int32} {S S2 : MS} (hf : f_X11_world RD a1 S = some (r, S2)) : CP l E yX11_world cX11_world 3 (some .int) 1 0 0 (roL Q RD) [.ref (ad 10), .int a1] (xW E ad Q kv S) (fun rv w => rv = some (.int r) ∧ w = xW E ad Q kv S2) :=
  CP.of (lv := [(0, .ref (ad 10)), (1, .int a1)]) (by decide +kernel) (Nat.le_of_ble_eq_true rfl) rfl (fun X hl hE hro hX hq hn => by subst hl; subst hE; exact t_X11_world_0 (fun z hz => by rw [hro]; exact hz) hRk hX hq ⟨rfl, rfl⟩ a1 S hf)
def f_X11_trust_10 (RD : Nat → Nat × Int32 × Int32 × Int32) (S : MS) : Option (Int32 × MS) :=
  cb (f_X11_error RD 1 S) fun r4 S2 =>
  some (r4, S2)
def f_X11_trust (RD : Nat → Nat × Int32 × Int32 × Int32) (a1 : Int32) (S : MS) : Option (Int32 × MS) :=
  if (a1 < 0 : Prop) then
    f_X11_trust_10 RD S
  else
    if (a1 ≤ 9 : Prop) then
      bI (S.2 2) fun v6 =>
      some (v6, (sF S 2 a1))
    else
      f_X11_trust_10 RD S
set_option maxRecDepth 100000 in
set_option maxHeartbeats 4000000 in
theorem t_X11_trust_10 {X : Cx} {ad Q : Nat → Nat} {kv : Value} {RD : Nat → Nat × Int32 × Int32 × Int32} (hro : ∀ z ∈ roL Q RD, z ∈ X.ro) (hRk : ∀ k, k < 6 → isRk (RD k).1) {PostX : Option Value → va_W → Prop} (hX : Ok X cX11_trust 3 RX11) (hq : Rq X 1 0 0 (some .int) PostX) {u : (Int32 × MS)} (hp : PostX (some (.int u.1)) (xW X.E ad Q kv u.2)) (S : MS) (hf : f_X11_trust_10 RD S = some u) : G X 3 0 0 10 [(0, .ref (ad 10))] [] (xW X.E ad Q kv S) := by
  unfold f_X11_trust_10 at hf
  refine g_aloadn hX 0 rfl rfl dX11_trust_10 ?_
  refine g_iconst hX (v := 1) (by decide) dX11_trust_11 ?_
  obtain ⟨r4, S2, h3, hf⟩ := cb_open hf
  refine k_X11_error hro hX hq (c_X11_error hRk h3) (by decide) (by decide) (by decide) (Nat.le_of_ble_eq_true rfl) dX11_trust_12 ?_
  obtain rfl := oi hf
  exact g_iret hX hq (by decide) (by decide) hp dX11_trust_15
set_option maxRecDepth 100000 in
set_option maxHeartbeats 4000000 in
theorem t_X11_trust_0 {X : Cx} {ad Q : Nat → Nat} {kv : Value} {RD : Nat → Nat × Int32 × Int32 × Int32} (hro : ∀ z ∈ roL Q RD, z ∈ X.ro) (hRk : ∀ k, k < 6 → isRk (RD k).1) {PostX : Option Value → va_W → Prop} (hX : Ok X cX11_trust 3 RX11) (hq : Rq X 1 0 0 (some .int) PostX) {u : (Int32 × MS)} (hp : PostX (some (.int u.1)) (xW X.E ad Q kv u.2)) (a1 : Int32) (S : MS) (hf : f_X11_trust RD a1 S = some u) : G X 3 0 0 0 [(0, .ref (ad 10)), (1, .int a1)] [] (xW X.E ad Q kv S) := by
  unfold f_X11_trust at hf
  refine g_iloadn hX 1 rfl rfl dX11_trust_0 ?_
  refine g_if_lt hX 10 (by decide) dX11_trust_1 (fun c1 => ?_) (fun c1 => ?_)
  · have hf := ite_t c1 hf
    refine g_lv [0] rfl ?_
    exact t_X11_trust_10 hro hRk hX hq hp _ hf
  · have hf := ite_f c1 hf
    refine g_iloadn hX 1 rfl rfl dX11_trust_4 ?_
    refine g_bipush hX (v := 9) (by decide) dX11_trust_5 ?_
    refine g_icmp_le hX 16 (by decide) dX11_trust_7 (fun c5 => ?_) (fun c5 => ?_)
    · have hf := ite_t c5 hf
      refine g_aloadn hX 0 rfl rfl dX11_trust_16 ?_
      refine xg_lift hX dX11_trust_17 ?_
      refine xg_trust hX (v := S.2 2) rfl dX11_trust_20 ?_
      obtain ⟨v6, ev6, hf⟩ := bI_open hf
      refine g_nm ev6 ?_
      refine g_istoren hX [(2, .int v6), (0, .ref (ad 10)), (1, .int a1)] rfl (by decide) rfl dX11_trust_23 ?_
      refine g_aloadn hX 1 rfl rfl dX11_trust_24 ?_
      refine xg_lift hX dX11_trust_25 ?_
      refine g_iloadn hX 2 rfl rfl dX11_trust_28 ?_
      refine xp_trust hX dX11_trust_29 ?_
      refine g_iloadn hX 0 rfl rfl dX11_trust_32 ?_
      obtain rfl := oi hf
      exact g_iret hX hq (by decide) (by decide) hp dX11_trust_33
    · have hf := ite_f c5 hf
      refine g_lv [0] rfl ?_
      exact t_X11_trust_10 hro hRk hX hq hp _ hf
theorem c_X11_trust {l : Launch} {E : En} {ad Q : Nat → Nat} {kv : Value} {RD : Nat → Nat × Int32 × Int32 × Int32} (hRk : ∀ k, k < 6 → isRk (RD k).1) {a1 : Int32} {r : Int32} {S S2 : MS} (hf : f_X11_trust RD a1 S = some (r, S2)) : CP l E yX11_trust cX11_trust 3 (some .int) 1 0 0 (roL Q RD) [.ref (ad 10), .int a1] (xW E ad Q kv S) (fun rv w => rv = some (.int r) ∧ w = xW E ad Q kv S2) :=
  CP.of (lv := [(0, .ref (ad 10)), (1, .int a1)]) (by decide +kernel) (Nat.le_of_ble_eq_true rfl) rfl (fun X hl hE hro hX hq hn => by subst hl; subst hE; exact t_X11_trust_0 (fun z hz => by rw [hro]; exact hz) hRk hX hq ⟨rfl, rfl⟩ a1 S hf)
def f_X11_rider (RD : Nat → Nat × Int32 × Int32 × Int32) (a1 : Int32) (S : MS) : Option (Int32 × MS) :=
  cs (f_X11_isKindWithNumber a1) fun r1 =>
  if (r1 = 0 : Prop) then
    cb (f_X11_error RD 1 S) fun r11 S9 =>
    some (r11, S9)
  else
    bI (S.2 6) fun v4 =>
    if (v4 < 6 : Prop) then
      none
    else
      cb (f_X11_error RD 4 S) fun r8 S6 =>
      some (r8, S6)
set_option maxRecDepth 100000 in
set_option maxHeartbeats 4000000 in
theorem t_X11_rider_0 {X : Cx} {ad Q : Nat → Nat} {kv : Value} {RD : Nat → Nat × Int32 × Int32 × Int32} (hro : ∀ z ∈ roL Q RD, z ∈ X.ro) (hRk : ∀ k, k < 6 → isRk (RD k).1) {PostX : Option Value → va_W → Prop} (hX : Ok X cX11_rider 3 RX11) (hq : Rq X 1 0 0 (some .int) PostX) {u : (Int32 × MS)} (hp : PostX (some (.int u.1)) (xW X.E ad Q kv u.2)) (a1 : Int32) (S : MS) (hf : f_X11_rider RD a1 S = some u) : G X 3 0 0 0 [(0, .ref (ad 10)), (1, .int a1)] [] (xW X.E ad Q kv S) := by
  unfold f_X11_rider at hf
  refine g_iloadn hX 1 rfl rfl dX11_rider_0 ?_
  obtain ⟨r1, h2, hf⟩ := cs_open hf
  refine k_RX11_X11_isKindWithNumber hX hq h2 (by decide) (by decide) (by decide) (Nat.le_of_ble_eq_true rfl) dX11_rider_1 ?_
  refine g_if_ne hX 13 (by decide) dX11_rider_4 (fun c3 => ?_) (fun c3 => ?_)
  · have hf := ite_f c3 hf
    refine g_aloadn hX 0 rfl rfl dX11_rider_13 ?_
    refine xg_lift hX dX11_rider_14 ?_
    refine xg_riderCount hX (v := S.2 6) rfl dX11_rider_17 ?_
    obtain ⟨v4, ev4, hf⟩ := bI_open hf
    refine g_nm ev4 ?_
    refine g_istoren hX [(2, .int v4), (0, .ref (ad 10)), (1, .int a1)] rfl (by decide) rfl dX11_rider_20 ?_
    refine g_iloadn hX 0 rfl rfl dX11_rider_21 ?_
    refine g_bipush hX (v := 6) (by decide) dX11_rider_22 ?_
    refine g_icmp_lt hX 33 (by decide) dX11_rider_24 (fun c5 => ?_) (fun c5 => ?_)
    · have hf := ite_t c5 hf
      refine g_aloadn hX 1 rfl rfl dX11_rider_33 ?_
      refine xg_lift hX dX11_rider_34 ?_
      refine xg_riders hX dX11_rider_37 ?_
      refine g_iloadn hX 0 rfl rfl dX11_rider_40 ?_
      refine g_iloadn hX 2 rfl rfl dX11_rider_41 ?_
      refine g_iloadn hX 0 rfl rfl dX11_rider_42 ?_
      cases hf
    · have hf := ite_f c5 hf
      refine g_aloadn hX 1 rfl rfl dX11_rider_27 ?_
      refine g_iconst hX (v := 4) (by decide) dX11_rider_28 ?_
      obtain ⟨r8, S6, h7, hf⟩ := cb_open hf
      refine k_X11_error hro hX hq (c_X11_error hRk h7) (by decide) (by decide) (by decide) (Nat.le_of_ble_eq_true rfl) dX11_rider_29 ?_
      obtain rfl := oi hf
      exact g_iret hX hq (by decide) (by decide) hp dX11_rider_32
  · have hf := ite_t c3 hf
    refine g_aloadn hX 0 rfl rfl dX11_rider_7 ?_
    refine g_iconst hX (v := 1) (by decide) dX11_rider_8 ?_
    obtain ⟨r11, S9, h10, hf⟩ := cb_open hf
    refine k_X11_error hro hX hq (c_X11_error hRk h10) (by decide) (by decide) (by decide) (Nat.le_of_ble_eq_true rfl) dX11_rider_9 ?_
    obtain rfl := oi hf
    exact g_iret hX hq (by decide) (by decide) hp dX11_rider_12
theorem c_X11_rider {l : Launch} {E : En} {ad Q : Nat → Nat} {kv : Value} {RD : Nat → Nat × Int32 × Int32 × Int32} (hRk : ∀ k, k < 6 → isRk (RD k).1) {a1 : Int32} {r : Int32} {S S2 : MS} (hf : f_X11_rider RD a1 S = some (r, S2)) : CP l E yX11_rider cX11_rider 3 (some .int) 1 0 0 (roL Q RD) [.ref (ad 10), .int a1] (xW E ad Q kv S) (fun rv w => rv = some (.int r) ∧ w = xW E ad Q kv S2) :=
  CP.of (lv := [(0, .ref (ad 10)), (1, .int a1)]) (by decide +kernel) (Nat.le_of_ble_eq_true rfl) rfl (fun X hl hE hro hX hq hn => by subst hl; subst hE; exact t_X11_rider_0 (fun z hz => by rw [hro]; exact hz) hRk hX hq ⟨rfl, rfl⟩ a1 S hf)
def f_X11_ofRider_18 (RD : Nat → Nat × Int32 × Int32 × Int32) (S : MS) : Option (Int32 × MS) :=
  cb (f_X11_error RD 1 S) fun r7 S5 =>
  some (r7, S5)
def f_X11_ofRider (RD : Nat → Nat × Int32 × Int32 × Int32) (a1 : Int32) (a2 : Int32) (S : MS) : Option (Int32 × MS) :=
  cb (f_X11_isRider RD a1 S) fun r3 S1 =>
  if (r3 = 0 : Prop) then
    f_X11_ofRider_18 RD S1
  else
    if (a2 < 0 : Prop) then
      f_X11_ofRider_18 RD S1
    else
      if (a2 ≤ 9 : Prop) then
        gix a1 6 fun k10 =>
        bI (S1.1 1 k10) fun v11 =>
        if (a2 = 0 : Prop) then
          gix a1 6 fun k13 =>
          gk k13 6 <|
          some (((RD k13).2.1), S1)
        else
        if (a2 = 1 : Prop) then
          gix a1 6 fun k16 =>
          gk k16 6 <|
          some (((RD k16).2.2.1), S1)
        else
        if (a2 = 2 : Prop) then
          cs (f_X11_numberOf v11) fun r19 =>
          some (r19, S1)
        else
        if (a2 = 3 : Prop) then
          cs (f_J6_bitCount_0f7a4 v11) fun r22 =>
          some (r22, S1)
        else
        if (a2 = 4 : Prop) then
          cs (f_X11_asHeard v11 (S1.2 0)) fun r25 =>
          some (r25, S1)
        else
        if (a2 = 5 : Prop) then
          cs (f_X11_otherWay v11 (S1.2 0)) fun r28 =>
          some (r28, S1)
        else
        if (a2 = 6 : Prop) then
          cs (f_X11_unheard v11 (S1.2 0)) fun r31 =>
          some (r31, S1)
        else
        if (a2 = 7 : Prop) then
          cb (f_X4_credit RD a1 v11 (S1.2 0) S1) fun r36 S34 =>
          some (r36, (sL S1 S34))
        else
        if (a2 = 8 : Prop) then
          cb (f_X4_floor RD a1 v11 (S1.2 0) S1) fun r40 S38 =>
          some (r40, (sL S1 S38))
        else
        cs (f_X11_truth (S1.2 1)) fun r41 =>
        cs (f_X11_isWithin v11 r41) fun r43 =>
        if (r43 = 0 : Prop) then
          some (0, S1)
        else
          some (1, S1)
      else
        f_X11_ofRider_18 RD S1
set_option maxRecDepth 100000 in
set_option maxHeartbeats 4000000 in
theorem t_X11_ofRider_18 {X : Cx} {ad Q : Nat → Nat} {kv : Value} {RD : Nat → Nat × Int32 × Int32 × Int32} (hro : ∀ z ∈ roL Q RD, z ∈ X.ro) (hRk : ∀ k, k < 6 → isRk (RD k).1) {PostX : Option Value → va_W → Prop} (hX : Ok X cX11_ofRider 4 RX11) (hq : Rq X 6 0 0 (some .int) PostX) {u : (Int32 × MS)} (hp : PostX (some (.int u.1)) (xW X.E ad Q kv u.2)) (S : MS) (hf : f_X11_ofRider_18 RD S = some u) : G X 4 0 0 18 [(0, .ref (ad 10))] [] (xW X.E ad Q kv S) := by
  unfold f_X11_ofRider_18 at hf
  refine g_aloadn hX 0 rfl rfl dX11_ofRider_18 ?_
  refine g_iconst hX (v := 1) (by decide) dX11_ofRider_19 ?_
  obtain ⟨r7, S5, h6, hf⟩ := cb_open hf
  refine k_X11_error hro hX hq (c_X11_error hRk h6) (by decide) (by decide) (by decide) (Nat.le_of_ble_eq_true rfl) dX11_ofRider_20 ?_
  obtain rfl := oi hf
  exact g_iret hX hq (by decide) (by decide) hp dX11_ofRider_23
set_option maxRecDepth 100000 in
set_option maxHeartbeats 4000000 in
theorem t_X11_ofRider_0 {X : Cx} {ad Q : Nat → Nat} {kv : Value} {RD : Nat → Nat × Int32 × Int32 × Int32} (hro : ∀ z ∈ roL Q RD, z ∈ X.ro) (hRk : ∀ k, k < 6 → isRk (RD k).1) {PostX : Option Value → va_W → Prop} (hX : Ok X cX11_ofRider 4 RX11) (hq : Rq X 6 0 0 (some .int) PostX) {u : (Int32 × MS)} (hp : PostX (some (.int u.1)) (xW X.E ad Q kv u.2)) (a1 : Int32) (a2 : Int32) (S : MS) (hf : f_X11_ofRider RD a1 a2 S = some u) : G X 4 0 0 0 [(0, .ref (ad 10)), (1, .int a1), (2, .int a2)] [] (xW X.E ad Q kv S) := by
  unfold f_X11_ofRider at hf
  refine g_aloadn hX 0 rfl rfl dX11_ofRider_0 ?_
  refine g_iloadn hX 1 rfl rfl dX11_ofRider_1 ?_
  obtain ⟨r3, S1, h2, hf⟩ := cb_open hf
  refine k_X11_isRider hro hX hq (c_X11_isRider hRk h2) (by decide) (by decide) (by decide) (Nat.le_of_ble_eq_true rfl) dX11_ofRider_2 ?_
  refine g_if_eq hX 18 (by decide) dX11_ofRider_5 (fun c4 => ?_) (fun c4 => ?_)
  · have hf := ite_t c4 hf
    refine g_lv [0] rfl ?_
    exact t_X11_ofRider_18 hro hRk hX hq hp _ hf
  · have hf := ite_f c4 hf
    refine g_iloadn hX 2 rfl rfl dX11_ofRider_8 ?_
    refine g_if_lt hX 18 (by decide) dX11_ofRider_9 (fun c8 => ?_) (fun c8 => ?_)
    · have hf := ite_t c8 hf
      refine g_lv [0] rfl ?_
      exact t_X11_ofRider_18 hro hRk hX hq hp _ hf
    · have hf := ite_f c8 hf
      refine g_iloadn hX 2 rfl rfl dX11_ofRider_12 ?_
      refine g_bipush hX (v := 9) (by decide) dX11_ofRider_13 ?_
      refine g_icmp_le hX 24 (by decide) dX11_ofRider_15 (fun c9 => ?_) (fun c9 => ?_)
      · have hf := ite_t c9 hf
        refine g_aloadn hX 0 rfl rfl dX11_ofRider_24 ?_
        refine xg_lift hX dX11_ofRider_25 ?_
        refine xg_stories hX dX11_ofRider_28 ?_
        refine g_iloadn hX 1 rfl rfl dX11_ofRider_31 ?_
        obtain ⟨k10, jk10, ik10, hf⟩ := gix_open hf
        refine xl_stories hX ik10 k10 jk10 dX11_ofRider_32 ?_
        obtain ⟨v11, ev11, hf⟩ := bI_open hf
        refine g_nm ev11 ?_
        refine g_istoren hX [(3, .int v11), (0, .ref (ad 10)), (1, .int a1), (2, .int a2)] rfl (by decide) rfl dX11_ofRider_33 ?_
        refine g_iloadn hX 3 rfl rfl dX11_ofRider_34 ?_
        by_cases c12 : a2 = 0
        · have hf := ite_t c12 hf
          refine g_tsin hX 84 c12 (by decide) (by rfl) (by decide) dX11_ofRider_35 ?_
          refine g_aloadn hX 1 rfl rfl dX11_ofRider_84 ?_
          refine xg_lift hX dX11_ofRider_85 ?_
          refine xg_riders hX dX11_ofRider_88 ?_
          refine g_iloadn hX 2 rfl rfl dX11_ofRider_91 ?_
          obtain ⟨k13, jk13, ik13, hf⟩ := gix_open hf
          refine xl_riders hX ik13 k13 jk13 dX11_ofRider_92 ?_
          obtain ⟨h14, hf⟩ := gk_open hf
          refine xg_rkind hro hRk h14 hX dX11_ofRider_93 ?_
          obtain rfl := oi hf
          exact g_iret hX hq (by decide) (by decide) hp dX11_ofRider_96
        have hf := ite_f c12 hf
        by_cases c15 : a2 = 1
        · have hf := ite_t c15 hf
          refine g_tsin hX 97 c15 (by decide) (by rfl) (by decide) dX11_ofRider_35 ?_
          refine g_aloadn hX 1 rfl rfl dX11_ofRider_97 ?_
          refine xg_lift hX dX11_ofRider_98 ?_
          refine xg_riders hX dX11_ofRider_101 ?_
          refine g_iloadn hX 2 rfl rfl dX11_ofRider_104 ?_
          obtain ⟨k16, jk16, ik16, hf⟩ := gix_open hf
          refine xl_riders hX ik16 k16 jk16 dX11_ofRider_105 ?_
          obtain ⟨h17, hf⟩ := gk_open hf
          refine xg_rm hro hRk h17 hX dX11_ofRider_106 ?_
          obtain rfl := oi hf
          exact g_iret hX hq (by decide) (by decide) hp dX11_ofRider_109
        have hf := ite_f c15 hf
        by_cases c18 : a2 = 2
        · have hf := ite_t c18 hf
          refine g_tsin hX 110 c18 (by decide) (by rfl) (by decide) dX11_ofRider_35 ?_
          refine g_iloadn hX 0 rfl rfl dX11_ofRider_110 ?_
          obtain ⟨r19, h20, hf⟩ := cs_open hf
          refine k_RX11_X11_numberOf hX hq h20 (by decide) (by decide) (by decide) (Nat.le_of_ble_eq_true rfl) dX11_ofRider_111 ?_
          obtain rfl := oi hf
          exact g_iret hX hq (by decide) (by decide) hp dX11_ofRider_114
        have hf := ite_f c18 hf
        by_cases c21 : a2 = 3
        · have hf := ite_t c21 hf
          refine g_tsin hX 115 c21 (by decide) (by rfl) (by decide) dX11_ofRider_35 ?_
          refine g_iloadn hX 0 rfl rfl dX11_ofRider_115 ?_
          obtain ⟨r22, h23, hf⟩ := cs_open hf
          refine k_RX11_J6_bitCount_0f7a4 hX hq h23 (by decide) (by decide) (by decide) (Nat.le_of_ble_eq_true rfl) dX11_ofRider_116 ?_
          obtain rfl := oi hf
          exact g_iret hX hq (by decide) (by decide) hp dX11_ofRider_119
        have hf := ite_f c21 hf
        by_cases c24 : a2 = 4
        · have hf := ite_t c24 hf
          refine g_tsin hX 120 c24 (by decide) (by rfl) (by decide) dX11_ofRider_35 ?_
          refine g_iloadn hX 0 rfl rfl dX11_ofRider_120 ?_
          refine g_aloadn hX 1 rfl rfl dX11_ofRider_121 ?_
          refine xg_lift hX dX11_ofRider_122 ?_
          refine xg_heard hX (v := S1.2 0) rfl dX11_ofRider_125 ?_
          obtain ⟨r25, h26, hf⟩ := cs_open hf
          refine k_RX11_X11_asHeard hX hq h26 (by decide) (by decide) (by decide) (Nat.le_of_ble_eq_true rfl) dX11_ofRider_128 ?_
          obtain rfl := oi hf
          exact g_iret hX hq (by decide) (by decide) hp dX11_ofRider_131
        have hf := ite_f c24 hf
        by_cases c27 : a2 = 5
        · have hf := ite_t c27 hf
          refine g_tsin hX 132 c27 (by decide) (by rfl) (by decide) dX11_ofRider_35 ?_
          refine g_iloadn hX 0 rfl rfl dX11_ofRider_132 ?_
          refine g_aloadn hX 1 rfl rfl dX11_ofRider_133 ?_
          refine xg_lift hX dX11_ofRider_134 ?_
          refine xg_heard hX (v := S1.2 0) rfl dX11_ofRider_137 ?_
          obtain ⟨r28, h29, hf⟩ := cs_open hf
          refine k_RX11_X11_otherWay hX hq h29 (by decide) (by decide) (by decide) (Nat.le_of_ble_eq_true rfl) dX11_ofRider_140 ?_
          obtain rfl := oi hf
          exact g_iret hX hq (by decide) (by decide) hp dX11_ofRider_143
        have hf := ite_f c27 hf
        by_cases c30 : a2 = 6
        · have hf := ite_t c30 hf
          refine g_tsin hX 144 c30 (by decide) (by rfl) (by decide) dX11_ofRider_35 ?_
          refine g_iloadn hX 0 rfl rfl dX11_ofRider_144 ?_
          refine g_aloadn hX 1 rfl rfl dX11_ofRider_145 ?_
          refine xg_lift hX dX11_ofRider_146 ?_
          refine xg_heard hX (v := S1.2 0) rfl dX11_ofRider_149 ?_
          obtain ⟨r31, h32, hf⟩ := cs_open hf
          refine k_RX11_X11_unheard hX hq h32 (by decide) (by decide) (by decide) (Nat.le_of_ble_eq_true rfl) dX11_ofRider_152 ?_
          obtain rfl := oi hf
          exact g_iret hX hq (by decide) (by decide) hp dX11_ofRider_155
        have hf := ite_f c30 hf
        by_cases c33 : a2 = 7
        · have hf := ite_t c33 hf
          refine g_tsin hX 156 c33 (by decide) (by rfl) (by decide) dX11_ofRider_35 ?_
          refine g_aloadn hX 1 rfl rfl dX11_ofRider_156 ?_
          refine xg_lift hX dX11_ofRider_157 ?_
          refine g_iloadn hX 2 rfl rfl dX11_ofRider_160 ?_
          refine g_iloadn hX 0 rfl rfl dX11_ofRider_161 ?_
          refine g_aloadn hX 1 rfl rfl dX11_ofRider_162 ?_
          refine xg_lift hX dX11_ofRider_163 ?_
          refine xg_heard hX (v := S1.2 0) rfl dX11_ofRider_166 ?_
          obtain ⟨r36, S34, h35, hf⟩ := cb_open hf
          refine k4_X4_credit hro hX hq (c_X4_credit h35) (by decide) (by decide) (by decide) (Nat.le_of_ble_eq_true rfl) dX11_ofRider_169 ?_
          obtain rfl := oi hf
          exact g_iret hX hq (by decide) (by decide) hp dX11_ofRider_172
        have hf := ite_f c33 hf
        by_cases c37 : a2 = 8
        · have hf := ite_t c37 hf
          refine g_tsin hX 173 c37 (by decide) (by rfl) (by decide) dX11_ofRider_35 ?_
          refine g_aloadn hX 1 rfl rfl dX11_ofRider_173 ?_
          refine xg_lift hX dX11_ofRider_174 ?_
          refine g_iloadn hX 2 rfl rfl dX11_ofRider_177 ?_
          refine g_iloadn hX 0 rfl rfl dX11_ofRider_178 ?_
          refine g_aloadn hX 1 rfl rfl dX11_ofRider_179 ?_
          refine xg_lift hX dX11_ofRider_180 ?_
          refine xg_heard hX (v := S1.2 0) rfl dX11_ofRider_183 ?_
          obtain ⟨r40, S38, h39, hf⟩ := cb_open hf
          refine k4_X4_floor hro hX hq (c_X4_floor h39) (by decide) (by decide) (by decide) (Nat.le_of_ble_eq_true rfl) dX11_ofRider_186 ?_
          obtain rfl := oi hf
          exact g_iret hX hq (by decide) (by decide) hp dX11_ofRider_189
        have hf := ite_f c37 hf
        refine g_tsout hX 190 (tsw_out_0_8 c12 c15 c18 c21 c24 c27 c30 c33 c37) (by decide) dX11_ofRider_35 ?_
        refine g_iloadn hX 0 rfl rfl dX11_ofRider_190 ?_
        refine g_aloadn hX 1 rfl rfl dX11_ofRider_191 ?_
        refine xg_lift hX dX11_ofRider_192 ?_
        refine xg_world hX (v := S1.2 1) rfl dX11_ofRider_195 ?_
        obtain ⟨r41, h42, hf⟩ := cs_open hf
        refine k_RX11_X11_truth hX hq h42 (by decide) (by decide) (by decide) (Nat.le_of_ble_eq_true rfl) dX11_ofRider_198 ?_
        obtain ⟨r43, h44, hf⟩ := cs_open hf
        refine k_RX11_X11_isWithin hX hq h44 (by decide) (by decide) (by decide) (Nat.le_of_ble_eq_true rfl) dX11_ofRider_201 ?_
        refine g_if_eq hX 211 (by decide) dX11_ofRider_204 (fun c45 => ?_) (fun c45 => ?_)
        · have hf := ite_t c45 hf
          refine g_iconst hX (v := 0) (by decide) dX11_ofRider_211 ?_
          obtain rfl := oi hf
          exact g_iret hX hq (by decide) (by decide) hp dX11_ofRider_212
        · have hf := ite_f c45 hf
          refine g_iconst hX (v := 1) (by decide) dX11_ofRider_207 ?_
          refine g_goto hX 212 (by decide) dX11_ofRider_208 ?_
          obtain rfl := oi hf
          exact g_iret hX hq (by decide) (by decide) hp dX11_ofRider_212
      · have hf := ite_f c9 hf
        refine g_lv [0] rfl ?_
        exact t_X11_ofRider_18 hro hRk hX hq hp _ hf
theorem c_X11_ofRider {l : Launch} {E : En} {ad Q : Nat → Nat} {kv : Value} {RD : Nat → Nat × Int32 × Int32 × Int32} (hRk : ∀ k, k < 6 → isRk (RD k).1) {a1 : Int32} {a2 : Int32} {r : Int32} {S S2 : MS} (hf : f_X11_ofRider RD a1 a2 S = some (r, S2)) : CP l E yX11_ofRider cX11_ofRider 4 (some .int) 6 0 0 (roL Q RD) [.ref (ad 10), .int a1, .int a2] (xW E ad Q kv S) (fun rv w => rv = some (.int r) ∧ w = xW E ad Q kv S2) :=
  CP.of (lv := [(0, .ref (ad 10)), (1, .int a1), (2, .int a2)]) (by decide +kernel) (Nat.le_of_ble_eq_true rfl) rfl (fun X hl hE hro hX hq hn => by subst hl; subst hE; exact t_X11_ofRider_0 (fun z hz => by rw [hro]; exact hz) hRk hX hq ⟨rfl, rfl⟩ a1 a2 S hf)
def f_X11_story_15 (RD : Nat → Nat × Int32 × Int32 × Int32) (S : MS) : Option (Int32 × MS) :=
  cb (f_X11_error RD 1 S) fun r7 S5 =>
  some (r7, S5)
def f_X11_story (RD : Nat → Nat × Int32 × Int32 × Int32) (a1 : Int32) (a2 : Int32) (S : MS) : Option (Int32 × MS) :=
  cb (f_X11_isRider RD a1 S) fun r3 S1 =>
  if (r3 = 0 : Prop) then
    f_X11_story_15 RD S1
  else
    cs (f_X11_isStory a2) fun r8 =>
    if (r8 = 0 : Prop) then
      f_X11_story_15 RD S1
    else
      gix a1 6 fun k11 =>
      cs (f_X11_numberOf (S1.1 1 k11)) fun r12 =>
      cs (f_X11_sayingsOf a2) fun r14 =>
      gix a1 6 fun k16 =>
      some (r12, (sA S1 1 k16 r14))
set_option maxRecDepth 100000 in
set_option maxHeartbeats 4000000 in
theorem t_X11_story_15 {X : Cx} {ad Q : Nat → Nat} {kv : Value} {RD : Nat → Nat × Int32 × Int32 × Int32} (hro : ∀ z ∈ roL Q RD, z ∈ X.ro) (hRk : ∀ k, k < 6 → isRk (RD k).1) {PostX : Option Value → va_W → Prop} (hX : Ok X cX11_story 4 RX11) (hq : Rq X 3 0 0 (some .int) PostX) {u : (Int32 × MS)} (hp : PostX (some (.int u.1)) (xW X.E ad Q kv u.2)) (S : MS) (hf : f_X11_story_15 RD S = some u) : G X 4 0 0 15 [(0, .ref (ad 10))] [] (xW X.E ad Q kv S) := by
  unfold f_X11_story_15 at hf
  refine g_aloadn hX 0 rfl rfl dX11_story_15 ?_
  refine g_iconst hX (v := 1) (by decide) dX11_story_16 ?_
  obtain ⟨r7, S5, h6, hf⟩ := cb_open hf
  refine k_X11_error hro hX hq (c_X11_error hRk h6) (by decide) (by decide) (by decide) (Nat.le_of_ble_eq_true rfl) dX11_story_17 ?_
  obtain rfl := oi hf
  exact g_iret hX hq (by decide) (by decide) hp dX11_story_20
set_option maxRecDepth 100000 in
set_option maxHeartbeats 4000000 in
theorem t_X11_story_0 {X : Cx} {ad Q : Nat → Nat} {kv : Value} {RD : Nat → Nat × Int32 × Int32 × Int32} (hro : ∀ z ∈ roL Q RD, z ∈ X.ro) (hRk : ∀ k, k < 6 → isRk (RD k).1) {PostX : Option Value → va_W → Prop} (hX : Ok X cX11_story 4 RX11) (hq : Rq X 3 0 0 (some .int) PostX) {u : (Int32 × MS)} (hp : PostX (some (.int u.1)) (xW X.E ad Q kv u.2)) (a1 : Int32) (a2 : Int32) (S : MS) (hf : f_X11_story RD a1 a2 S = some u) : G X 4 0 0 0 [(0, .ref (ad 10)), (1, .int a1), (2, .int a2)] [] (xW X.E ad Q kv S) := by
  unfold f_X11_story at hf
  refine g_aloadn hX 0 rfl rfl dX11_story_0 ?_
  refine g_iloadn hX 1 rfl rfl dX11_story_1 ?_
  obtain ⟨r3, S1, h2, hf⟩ := cb_open hf
  refine k_X11_isRider hro hX hq (c_X11_isRider hRk h2) (by decide) (by decide) (by decide) (Nat.le_of_ble_eq_true rfl) dX11_story_2 ?_
  refine g_if_eq hX 15 (by decide) dX11_story_5 (fun c4 => ?_) (fun c4 => ?_)
  · have hf := ite_t c4 hf
    refine g_lv [0] rfl ?_
    exact t_X11_story_15 hro hRk hX hq hp _ hf
  · have hf := ite_f c4 hf
    refine g_iloadn hX 2 rfl rfl dX11_story_8 ?_
    obtain ⟨r8, h9, hf⟩ := cs_open hf
    refine k_RX11_X11_isStory hX hq h9 (by decide) (by decide) (by decide) (Nat.le_of_ble_eq_true rfl) dX11_story_9 ?_
    refine g_if_ne hX 21 (by decide) dX11_story_12 (fun c10 => ?_) (fun c10 => ?_)
    · have hf := ite_f c10 hf
      refine g_aloadn hX 0 rfl rfl dX11_story_21 ?_
      refine xg_lift hX dX11_story_22 ?_
      refine xg_stories hX dX11_story_25 ?_
      refine g_iloadn hX 1 rfl rfl dX11_story_28 ?_
      obtain ⟨k11, jk11, ik11, hf⟩ := gix_open hf
      refine xl_stories hX ik11 k11 jk11 dX11_story_29 ?_
      obtain ⟨r12, h13, hf⟩ := cs_open hf
      refine k_RX11_X11_numberOf hX hq h13 (by decide) (by decide) (by decide) (Nat.le_of_ble_eq_true rfl) dX11_story_30 ?_
      refine g_istoren hX [(3, .int r12), (0, .ref (ad 10)), (1, .int a1), (2, .int a2)] rfl (by decide) rfl dX11_story_33 ?_
      refine g_aloadn hX 1 rfl rfl dX11_story_34 ?_
      refine xg_lift hX dX11_story_35 ?_
      refine xg_stories hX dX11_story_38 ?_
      refine g_iloadn hX 2 rfl rfl dX11_story_41 ?_
      refine g_iloadn hX 3 rfl rfl dX11_story_42 ?_
      obtain ⟨r14, h15, hf⟩ := cs_open hf
      refine k_RX11_X11_sayingsOf hX hq h15 (by decide) (by decide) (by decide) (Nat.le_of_ble_eq_true rfl) dX11_story_43 ?_
      obtain ⟨k16, jk16, ik16, hf⟩ := gix_open hf
      refine xs_stories hX ik16 k16 jk16 dX11_story_46 ?_
      refine g_iloadn hX 0 rfl rfl dX11_story_47 ?_
      obtain rfl := oi hf
      exact g_iret hX hq (by decide) (by decide) hp dX11_story_48
    · have hf := ite_t c10 hf
      refine g_lv [0] rfl ?_
      exact t_X11_story_15 hro hRk hX hq hp _ hf
theorem c_X11_story {l : Launch} {E : En} {ad Q : Nat → Nat} {kv : Value} {RD : Nat → Nat × Int32 × Int32 × Int32} (hRk : ∀ k, k < 6 → isRk (RD k).1) {a1 : Int32} {a2 : Int32} {r : Int32} {S S2 : MS} (hf : f_X11_story RD a1 a2 S = some (r, S2)) : CP l E yX11_story cX11_story 4 (some .int) 3 0 0 (roL Q RD) [.ref (ad 10), .int a1, .int a2] (xW E ad Q kv S) (fun rv w => rv = some (.int r) ∧ w = xW E ad Q kv S2) :=
  CP.of (lv := [(0, .ref (ad 10)), (1, .int a1), (2, .int a2)]) (by decide +kernel) (Nat.le_of_ble_eq_true rfl) rfl (fun X hl hE hro hX hq hn => by subst hl; subst hE; exact t_X11_story_0 (fun z hz => by rw [hro]; exact hz) hRk hX hq ⟨rfl, rfl⟩ a1 a2 S hf)
def f_X11_say_22 (RD : Nat → Nat × Int32 × Int32 × Int32) (S : MS) : Option (Int32 × MS) :=
  cb (f_X11_error RD 1 S) fun r7 S5 =>
  some (r7, S5)
def f_X11_say (RD : Nat → Nat × Int32 × Int32 × Int32) (a1 : Int32) (a2 : Int32) (a3 : Int32) (S : MS) : Option (Int32 × MS) :=
  cb (f_X11_isRider RD a1 S) fun r3 S1 =>
  if (r3 = 0 : Prop) then
    f_X11_say_22 RD S1
  else
    cs (f_X11_isFact a2) fun r8 =>
    if (r8 = 0 : Prop) then
      f_X11_say_22 RD S1
    else
      cs (f_X11_isSaying a3) fun r11 =>
      if (r11 = 0 : Prop) then
        f_X11_say_22 RD S1
      else
        gix a1 6 fun k14 =>
        cs (f_X11_sayingOf (S1.1 1 k14) a2) fun r15 =>
        gix a1 6 fun k17 =>
        cs (f_X11_withSaying (S1.1 1 k17) a2 a3) fun r18 =>
        gix a1 6 fun k20 =>
        some (r15, (sA S1 1 k20 r18))
set_option maxRecDepth 100000 in
set_option maxHeartbeats 4000000 in
theorem t_X11_say_22 {X : Cx} {ad Q : Nat → Nat} {kv : Value} {RD : Nat → Nat × Int32 × Int32 × Int32} (hro : ∀ z ∈ roL Q RD, z ∈ X.ro) (hRk : ∀ k, k < 6 → isRk (RD k).1) {PostX : Option Value → va_W → Prop} (hX : Ok X cX11_say 5 RX11) (hq : Rq X 2 0 0 (some .int) PostX) {u : (Int32 × MS)} (hp : PostX (some (.int u.1)) (xW X.E ad Q kv u.2)) (S : MS) (hf : f_X11_say_22 RD S = some u) : G X 5 0 0 22 [(0, .ref (ad 10))] [] (xW X.E ad Q kv S) := by
  unfold f_X11_say_22 at hf
  refine g_aloadn hX 0 rfl rfl dX11_say_22 ?_
  refine g_iconst hX (v := 1) (by decide) dX11_say_23 ?_
  obtain ⟨r7, S5, h6, hf⟩ := cb_open hf
  refine k_X11_error hro hX hq (c_X11_error hRk h6) (by decide) (by decide) (by decide) (Nat.le_of_ble_eq_true rfl) dX11_say_24 ?_
  obtain rfl := oi hf
  exact g_iret hX hq (by decide) (by decide) hp dX11_say_27
set_option maxRecDepth 100000 in
set_option maxHeartbeats 4000000 in
theorem t_X11_say_0 {X : Cx} {ad Q : Nat → Nat} {kv : Value} {RD : Nat → Nat × Int32 × Int32 × Int32} (hro : ∀ z ∈ roL Q RD, z ∈ X.ro) (hRk : ∀ k, k < 6 → isRk (RD k).1) {PostX : Option Value → va_W → Prop} (hX : Ok X cX11_say 5 RX11) (hq : Rq X 2 0 0 (some .int) PostX) {u : (Int32 × MS)} (hp : PostX (some (.int u.1)) (xW X.E ad Q kv u.2)) (a1 : Int32) (a2 : Int32) (a3 : Int32) (S : MS) (hf : f_X11_say RD a1 a2 a3 S = some u) : G X 5 0 0 0 [(0, .ref (ad 10)), (1, .int a1), (2, .int a2), (3, .int a3)] [] (xW X.E ad Q kv S) := by
  unfold f_X11_say at hf
  refine g_aloadn hX 0 rfl rfl dX11_say_0 ?_
  refine g_iloadn hX 1 rfl rfl dX11_say_1 ?_
  obtain ⟨r3, S1, h2, hf⟩ := cb_open hf
  refine k_X11_isRider hro hX hq (c_X11_isRider hRk h2) (by decide) (by decide) (by decide) (Nat.le_of_ble_eq_true rfl) dX11_say_2 ?_
  refine g_if_eq hX 22 (by decide) dX11_say_5 (fun c4 => ?_) (fun c4 => ?_)
  · have hf := ite_t c4 hf
    refine g_lv [0] rfl ?_
    exact t_X11_say_22 hro hRk hX hq hp _ hf
  · have hf := ite_f c4 hf
    refine g_iloadn hX 2 rfl rfl dX11_say_8 ?_
    obtain ⟨r8, h9, hf⟩ := cs_open hf
    refine k_RX11_X11_isFact hX hq h9 (by decide) (by decide) (by decide) (Nat.le_of_ble_eq_true rfl) dX11_say_9 ?_
    refine g_if_eq hX 22 (by decide) dX11_say_12 (fun c10 => ?_) (fun c10 => ?_)
    · have hf := ite_t c10 hf
      refine g_lv [0] rfl ?_
      exact t_X11_say_22 hro hRk hX hq hp _ hf
    · have hf := ite_f c10 hf
      refine g_iloadn hX 3 rfl rfl dX11_say_15 ?_
      obtain ⟨r11, h12, hf⟩ := cs_open hf
      refine k_RX11_X11_isSaying hX hq h12 (by decide) (by decide) (by decide) (Nat.le_of_ble_eq_true rfl) dX11_say_16 ?_
      refine g_if_ne hX 28 (by decide) dX11_say_19 (fun c13 => ?_) (fun c13 => ?_)
      · have hf := ite_f c13 hf
        refine g_aloadn hX 0 rfl rfl dX11_say_28 ?_
        refine xg_lift hX dX11_say_29 ?_
        refine xg_stories hX dX11_say_32 ?_
        refine g_iloadn hX 1 rfl rfl dX11_say_35 ?_
        obtain ⟨k14, jk14, ik14, hf⟩ := gix_open hf
        refine xl_stories hX ik14 k14 jk14 dX11_say_36 ?_
        refine g_iloadn hX 2 rfl rfl dX11_say_37 ?_
        obtain ⟨r15, h16, hf⟩ := cs_open hf
        refine k_RX11_X11_sayingOf hX hq h16 (by decide) (by decide) (by decide) (Nat.le_of_ble_eq_true rfl) dX11_say_38 ?_
        refine g_istore hX [(4, .int r15), (0, .ref (ad 10)), (1, .int a1), (2, .int a2), (3, .int a3)] (by decide) rfl dX11_say_41 ?_
        refine g_aloadn hX 1 rfl rfl dX11_say_43 ?_
        refine xg_lift hX dX11_say_44 ?_
        refine xg_stories hX dX11_say_47 ?_
        refine g_iloadn hX 2 rfl rfl dX11_say_50 ?_
        refine g_aloadn hX 1 rfl rfl dX11_say_51 ?_
        refine xg_lift hX dX11_say_52 ?_
        refine xg_stories hX dX11_say_55 ?_
        refine g_iloadn hX 2 rfl rfl dX11_say_58 ?_
        obtain ⟨k17, jk17, ik17, hf⟩ := gix_open hf
        refine xl_stories hX ik17 k17 jk17 dX11_say_59 ?_
        refine g_iloadn hX 3 rfl rfl dX11_say_60 ?_
        refine g_iloadn hX 4 rfl rfl dX11_say_61 ?_
        obtain ⟨r18, h19, hf⟩ := cs_open hf
        refine k_RX11_X11_withSaying hX hq h19 (by decide) (by decide) (by decide) (Nat.le_of_ble_eq_true rfl) dX11_say_62 ?_
        obtain ⟨k20, jk20, ik20, hf⟩ := gix_open hf
        refine xs_stories hX ik20 k20 jk20 dX11_say_65 ?_
        refine g_iload hX 0 rfl dX11_say_66 ?_
        obtain rfl := oi hf
        exact g_iret hX hq (by decide) (by decide) hp dX11_say_68
      · have hf := ite_t c13 hf
        refine g_lv [0] rfl ?_
        exact t_X11_say_22 hro hRk hX hq hp _ hf
theorem c_X11_say {l : Launch} {E : En} {ad Q : Nat → Nat} {kv : Value} {RD : Nat → Nat × Int32 × Int32 × Int32} (hRk : ∀ k, k < 6 → isRk (RD k).1) {a1 : Int32} {a2 : Int32} {a3 : Int32} {r : Int32} {S S2 : MS} (hf : f_X11_say RD a1 a2 a3 S = some (r, S2)) : CP l E yX11_say cX11_say 5 (some .int) 2 0 0 (roL Q RD) [.ref (ad 10), .int a1, .int a2, .int a3] (xW E ad Q kv S) (fun rv w => rv = some (.int r) ∧ w = xW E ad Q kv S2) :=
  CP.of (lv := [(0, .ref (ad 10)), (1, .int a1), (2, .int a2), (3, .int a3)]) (by decide +kernel) (Nat.le_of_ble_eq_true rfl) rfl (fun X hl hE hro hX hq hn => by subst hl; subst hE; exact t_X11_say_0 (fun z hz => by rw [hro]; exact hz) hRk hX hq ⟨rfl, rfl⟩ a1 a2 a3 S hf)
def f_X11_become_15 (RD : Nat → Nat × Int32 × Int32 × Int32) (S : MS) : Option (Int32 × MS) :=
  cb (f_X11_error RD 1 S) fun r7 S5 =>
  some (r7, S5)
def f_X11_become (RD : Nat → Nat × Int32 × Int32 × Int32) (a1 : Int32) (a2 : Int32) (S : MS) : Option (Int32 × MS) :=
  cb (f_X11_isRider RD a1 S) fun r3 S1 =>
  if (r3 = 0 : Prop) then
    f_X11_become_15 RD S1
  else
    cs (f_X11_isKindWithNumber a2) fun r8 =>
    if (r8 = 0 : Prop) then
      f_X11_become_15 RD S1
    else
      gix a1 6 fun k11 =>
      gk k11 6 <|
      bI ((RD k11).2.1) fun v13 =>
      none
set_option maxRecDepth 100000 in
set_option maxHeartbeats 4000000 in
theorem t_X11_become_15 {X : Cx} {ad Q : Nat → Nat} {kv : Value} {RD : Nat → Nat × Int32 × Int32 × Int32} (hro : ∀ z ∈ roL Q RD, z ∈ X.ro) (hRk : ∀ k, k < 6 → isRk (RD k).1) {PostX : Option Value → va_W → Prop} (hX : Ok X cX11_become 4 RX11) (hq : Rq X 1 0 0 (some .int) PostX) {u : (Int32 × MS)} (hp : PostX (some (.int u.1)) (xW X.E ad Q kv u.2)) (S : MS) (hf : f_X11_become_15 RD S = some u) : G X 4 0 0 15 [(0, .ref (ad 10))] [] (xW X.E ad Q kv S) := by
  unfold f_X11_become_15 at hf
  refine g_aloadn hX 0 rfl rfl dX11_become_15 ?_
  refine g_iconst hX (v := 1) (by decide) dX11_become_16 ?_
  obtain ⟨r7, S5, h6, hf⟩ := cb_open hf
  refine k_X11_error hro hX hq (c_X11_error hRk h6) (by decide) (by decide) (by decide) (Nat.le_of_ble_eq_true rfl) dX11_become_17 ?_
  obtain rfl := oi hf
  exact g_iret hX hq (by decide) (by decide) hp dX11_become_20
set_option maxRecDepth 100000 in
set_option maxHeartbeats 4000000 in
theorem t_X11_become_0 {X : Cx} {ad Q : Nat → Nat} {kv : Value} {RD : Nat → Nat × Int32 × Int32 × Int32} (hro : ∀ z ∈ roL Q RD, z ∈ X.ro) (hRk : ∀ k, k < 6 → isRk (RD k).1) {PostX : Option Value → va_W → Prop} (hX : Ok X cX11_become 4 RX11) (hq : Rq X 1 0 0 (some .int) PostX) {u : (Int32 × MS)} (hp : PostX (some (.int u.1)) (xW X.E ad Q kv u.2)) (a1 : Int32) (a2 : Int32) (S : MS) (hf : f_X11_become RD a1 a2 S = some u) : G X 4 0 0 0 [(0, .ref (ad 10)), (1, .int a1), (2, .int a2)] [] (xW X.E ad Q kv S) := by
  unfold f_X11_become at hf
  refine g_aloadn hX 0 rfl rfl dX11_become_0 ?_
  refine g_iloadn hX 1 rfl rfl dX11_become_1 ?_
  obtain ⟨r3, S1, h2, hf⟩ := cb_open hf
  refine k_X11_isRider hro hX hq (c_X11_isRider hRk h2) (by decide) (by decide) (by decide) (Nat.le_of_ble_eq_true rfl) dX11_become_2 ?_
  refine g_if_eq hX 15 (by decide) dX11_become_5 (fun c4 => ?_) (fun c4 => ?_)
  · have hf := ite_t c4 hf
    refine g_lv [0] rfl ?_
    exact t_X11_become_15 hro hRk hX hq hp _ hf
  · have hf := ite_f c4 hf
    refine g_iloadn hX 2 rfl rfl dX11_become_8 ?_
    obtain ⟨r8, h9, hf⟩ := cs_open hf
    refine k_RX11_X11_isKindWithNumber hX hq h9 (by decide) (by decide) (by decide) (Nat.le_of_ble_eq_true rfl) dX11_become_9 ?_
    refine g_if_ne hX 21 (by decide) dX11_become_12 (fun c10 => ?_) (fun c10 => ?_)
    · have hf := ite_f c10 hf
      refine g_aloadn hX 0 rfl rfl dX11_become_21 ?_
      refine xg_lift hX dX11_become_22 ?_
      refine xg_riders hX dX11_become_25 ?_
      refine g_iloadn hX 1 rfl rfl dX11_become_28 ?_
      obtain ⟨k11, jk11, ik11, hf⟩ := gix_open hf
      refine xl_riders hX ik11 k11 jk11 dX11_become_29 ?_
      obtain ⟨h12, hf⟩ := gk_open hf
      refine xg_rkind hro hRk h12 hX dX11_become_30 ?_
      obtain ⟨v13, ev13, hf⟩ := bI_open hf
      refine g_nm ev13 ?_
      refine g_istoren hX [(3, .int v13), (0, .ref (ad 10)), (1, .int a1), (2, .int a2)] rfl (by decide) rfl dX11_become_33 ?_
      refine g_aloadn hX 1 rfl rfl dX11_become_34 ?_
      refine xg_lift hX dX11_become_35 ?_
      refine xg_riders hX dX11_become_38 ?_
      refine g_iloadn hX 2 rfl rfl dX11_become_41 ?_
      refine g_iloadn hX 3 rfl rfl dX11_become_42 ?_
      refine g_iloadn hX 2 rfl rfl dX11_become_43 ?_
      cases hf
    · have hf := ite_t c10 hf
      refine g_lv [0] rfl ?_
      exact t_X11_become_15 hro hRk hX hq hp _ hf
theorem c_X11_become {l : Launch} {E : En} {ad Q : Nat → Nat} {kv : Value} {RD : Nat → Nat × Int32 × Int32 × Int32} (hRk : ∀ k, k < 6 → isRk (RD k).1) {a1 : Int32} {a2 : Int32} {r : Int32} {S S2 : MS} (hf : f_X11_become RD a1 a2 S = some (r, S2)) : CP l E yX11_become cX11_become 4 (some .int) 1 0 0 (roL Q RD) [.ref (ad 10), .int a1, .int a2] (xW E ad Q kv S) (fun rv w => rv = some (.int r) ∧ w = xW E ad Q kv S2) :=
  CP.of (lv := [(0, .ref (ad 10)), (1, .int a1), (2, .int a2)]) (by decide +kernel) (Nat.le_of_ble_eq_true rfl) rfl (fun X hl hE hro hX hq hn => by subst hl; subst hE; exact t_X11_become_0 (fun z hz => by rw [hro]; exact hz) hRk hX hq ⟨rfl, rfl⟩ a1 a2 S hf)

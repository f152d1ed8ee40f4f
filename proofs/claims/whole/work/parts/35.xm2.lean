def f_X11_as_18 (RD : Nat → Nat × Int32 × Int32 × Int32) (S : MS) : Option (Int32 × MS) :=
  cb (f_X11_error RD 1 S) fun r7 S5 =>
  some (r7, S5)
def f_X11_as (RD : Nat → Nat × Int32 × Int32 × Int32) (a1 : Int32) (a2 : Int32) (S : MS) : Option (Int32 × MS) :=
  cb (f_X11_isRider RD a1 S) fun r3 S1 =>
  if (r3 = 0 : Prop) then
    f_X11_as_18 RD S1
  else
    if (a2 < 0 : Prop) then
      f_X11_as_18 RD S1
    else
      if (a2 ≤ 6 : Prop) then
        gix a1 6 fun k10 =>
        gk k10 6 <|
        if ((f_isK (RD k10).1 a2) = 0 : Prop) then
          cb (f_X11_error RD 5 S1) fun r15 S13 =>
          some (r15, S13)
        else
          gk k10 6 <|
          some (((RD k10).2.2.1), S1)
      else
        f_X11_as_18 RD S1
set_option maxRecDepth 100000 in
set_option maxHeartbeats 4000000 in
theorem t_X11_as_18 {X : Cx} {ad Q : Nat → Nat} {kv : Value} {RD : Nat → Nat × Int32 × Int32 × Int32} (hro : ∀ z ∈ roL Q RD, z ∈ X.ro) (hRk : ∀ k, k < 6 → isRk (RD k).1) {PostX : Option Value → va_W → Prop} (hX : Ok X cX11_as 4 RX11) (hq : Rq X 1 0 0 (some .int) PostX) {u : (Int32 × MS)} (hp : PostX (some (.int u.1)) (xW X.E ad Q kv u.2)) (S : MS) (hf : f_X11_as_18 RD S = some u) : G X 4 0 0 18 [(0, .ref (ad 10))] [] (xW X.E ad Q kv S) := by
  unfold f_X11_as_18 at hf
  refine g_aloadn hX 0 rfl rfl dX11_as_18 ?_
  refine g_iconst hX (v := 1) (by decide) dX11_as_19 ?_
  obtain ⟨r7, S5, h6, hf⟩ := cb_open hf
  refine k_X11_error hro hX hq (c_X11_error hRk h6) (by decide) (by decide) (by decide) (Nat.le_of_ble_eq_true rfl) dX11_as_20 ?_
  obtain rfl := oi hf
  exact g_iret hX hq (by decide) (by decide) hp dX11_as_23
set_option maxRecDepth 100000 in
set_option maxHeartbeats 4000000 in
theorem t_X11_as_0 {X : Cx} {ad Q : Nat → Nat} {kv : Value} {RD : Nat → Nat × Int32 × Int32 × Int32} (hro : ∀ z ∈ roL Q RD, z ∈ X.ro) (hRk : ∀ k, k < 6 → isRk (RD k).1) {PostX : Option Value → va_W → Prop} (hX : Ok X cX11_as 4 RX11) (hq : Rq X 1 0 0 (some .int) PostX) {u : (Int32 × MS)} (hp : PostX (some (.int u.1)) (xW X.E ad Q kv u.2)) (a1 : Int32) (a2 : Int32) (S : MS) (hf : f_X11_as RD a1 a2 S = some u) : G X 4 0 0 0 [(0, .ref (ad 10)), (1, .int a1), (2, .int a2)] [] (xW X.E ad Q kv S) := by
  unfold f_X11_as at hf
  refine g_aloadn hX 0 rfl rfl dX11_as_0 ?_
  refine g_iloadn hX 1 rfl rfl dX11_as_1 ?_
  obtain ⟨r3, S1, h2, hf⟩ := cb_open hf
  refine k_X11_isRider hro hX hq (c_X11_isRider hRk h2) (by decide) (by decide) (by decide) (Nat.le_of_ble_eq_true rfl) dX11_as_2 ?_
  refine g_if_eq hX 18 (by decide) dX11_as_5 (fun c4 => ?_) (fun c4 => ?_)
  · have hf := ite_t c4 hf
    refine g_lv [0] rfl ?_
    exact t_X11_as_18 hro hRk hX hq hp _ hf
  · have hf := ite_f c4 hf
    refine g_iloadn hX 2 rfl rfl dX11_as_8 ?_
    refine g_if_lt hX 18 (by decide) dX11_as_9 (fun c8 => ?_) (fun c8 => ?_)
    · have hf := ite_t c8 hf
      refine g_lv [0] rfl ?_
      exact t_X11_as_18 hro hRk hX hq hp _ hf
    · have hf := ite_f c8 hf
      refine g_iloadn hX 2 rfl rfl dX11_as_12 ?_
      refine g_bipush hX (v := 6) (by decide) dX11_as_13 ?_
      refine g_icmp_le hX 24 (by decide) dX11_as_15 (fun c9 => ?_) (fun c9 => ?_)
      · have hf := ite_t c9 hf
        refine g_aloadn hX 0 rfl rfl dX11_as_24 ?_
        refine xg_lift hX dX11_as_25 ?_
        refine xg_riders hX dX11_as_28 ?_
        refine g_iloadn hX 1 rfl rfl dX11_as_31 ?_
        obtain ⟨k10, jk10, ik10, hf⟩ := gix_open hf
        refine xl_riders hX ik10 k10 jk10 dX11_as_32 ?_
        refine g_astoren hX [(3, .ref (Q k10)), (0, .ref (ad 10)), (1, .int a1), (2, .int a2)] rfl (by decide) rfl dX11_as_33 ?_
        refine g_aloadn hX 0 rfl rfl dX11_as_34 ?_
        refine g_iloadn hX 3 rfl rfl dX11_as_35 ?_
        obtain ⟨h11, hf⟩ := gk_open hf
        refine kx_isOfKind hro hRk h11 hX hq (by decide) (by decide) (by decide) (Nat.le_of_ble_eq_true rfl) dX11_as_36 ?_
        refine g_if_eq hX 49 (by decide) dX11_as_39 (fun c12 => ?_) (fun c12 => ?_)
        · have hf := ite_t c12 hf
          refine g_aloadn hX 1 rfl rfl dX11_as_49 ?_
          refine g_iconst hX (v := 5) (by decide) dX11_as_50 ?_
          obtain ⟨r15, S13, h14, hf⟩ := cb_open hf
          refine k_X11_error hro hX hq (c_X11_error hRk h14) (by decide) (by decide) (by decide) (Nat.le_of_ble_eq_true rfl) dX11_as_51 ?_
          obtain rfl := oi hf
          exact g_iret hX hq (by decide) (by decide) hp dX11_as_54
        · have hf := ite_f c12 hf
          refine g_aloadn hX 0 rfl rfl dX11_as_42 ?_
          obtain ⟨h16, hf⟩ := gk_open hf
          refine xg_rm hro hRk h16 hX dX11_as_43 ?_
          refine g_goto hX 54 (by decide) dX11_as_46 ?_
          obtain rfl := oi hf
          exact g_iret hX hq (by decide) (by decide) hp dX11_as_54
      · have hf := ite_f c9 hf
        refine g_lv [0] rfl ?_
        exact t_X11_as_18 hro hRk hX hq hp _ hf
theorem c_X11_as {l : Launch} {E : En} {ad Q : Nat → Nat} {kv : Value} {RD : Nat → Nat × Int32 × Int32 × Int32} (hRk : ∀ k, k < 6 → isRk (RD k).1) {a1 : Int32} {a2 : Int32} {r : Int32} {S S2 : MS} (hf : f_X11_as RD a1 a2 S = some (r, S2)) : CP l E yX11_as cX11_as 4 (some .int) 1 0 0 (roL Q RD) [.ref (ad 10), .int a1, .int a2] (xW E ad Q kv S) (fun rv w => rv = some (.int r) ∧ w = xW E ad Q kv S2) :=
  CP.of (lv := [(0, .ref (ad 10)), (1, .int a1), (2, .int a2)]) (by decide +kernel) (Nat.le_of_ble_eq_true rfl) rfl (fun X hl hE hro hX hq hn => by subst hl; subst hE; exact t_X11_as_0 (fun z hz => by rw [hro]; exact hz) hRk hX hq ⟨rfl, rfl⟩ a1 a2 S hf)
def f_X11_feed_11 (RD : Nat → Nat × Int32 × Int32 × Int32) (S : MS) : Option (Int32 × MS) :=
  cb (f_X11_error RD 1 S) fun r4 S2 =>
  some (r4, S2)
def f_X11_feed_40 (RD : Nat → Nat × Int32 × Int32 × Int32) : Nat → Int64 → Int32 → Int32 → MS → Option (Int32 × MS)
  | 0 => fun _ _ _ _ => none
  | n + 1 => fun x1 x3 x4 S =>
    let lp40 := f_X11_feed_40 RD n
    if (x3 ≤ x4 : Prop) then
      some ((S.2 7), S)
    else
      bI (ji2b (Int64.toInt32 (jlshr x1 (8 * x4)))) fun v8 =>
      gix (S.2 7) 50 fun k9 =>
      bI ((S.2 7) + 1) fun v10 =>
      bI (x4 + 1) fun v11 =>
      lp40 x1 x3 v11 (sF (sA S 2 k9 v8) 7 v10)
def f_X11_feed (RD : Nat → Nat × Int32 × Int32 × Int32) (a1 : Int64) (a3 : Int32) (S : MS) : Option (Int32 × MS) :=
  if (a3 < 1 : Prop) then
    f_X11_feed_11 RD S
  else
    if (a3 ≤ 8 : Prop) then
      if (((S.2 7) + a3) ≤ 50 : Prop) then
        f_X11_feed_40 RD 100 a1 a3 0 S
      else
        cb (f_X11_error RD 4 S) fun r14 S12 =>
        some (r14, S12)
    else
      f_X11_feed_11 RD S
set_option maxRecDepth 100000 in
set_option maxHeartbeats 4000000 in
theorem t_X11_feed_11 {X : Cx} {ad Q : Nat → Nat} {kv : Value} {RD : Nat → Nat × Int32 × Int32 × Int32} (hro : ∀ z ∈ roL Q RD, z ∈ X.ro) (hRk : ∀ k, k < 6 → isRk (RD k).1) {PostX : Option Value → va_W → Prop} (hX : Ok X cX11_feed 5 RX11) (hq : Rq X 1 0 0 (some .int) PostX) {u : (Int32 × MS)} (hp : PostX (some (.int u.1)) (xW X.E ad Q kv u.2)) (S : MS) (hf : f_X11_feed_11 RD S = some u) : G X 5 0 0 11 [(0, .ref (ad 10))] [] (xW X.E ad Q kv S) := by
  unfold f_X11_feed_11 at hf
  refine g_aloadn hX 0 rfl rfl dX11_feed_11 ?_
  refine g_iconst hX (v := 1) (by decide) dX11_feed_12 ?_
  obtain ⟨r4, S2, h3, hf⟩ := cb_open hf
  refine k_X11_error hro hX hq (c_X11_error hRk h3) (by decide) (by decide) (by decide) (Nat.le_of_ble_eq_true rfl) dX11_feed_13 ?_
  obtain rfl := oi hf
  exact g_iret hX hq (by decide) (by decide) hp dX11_feed_16
set_option maxRecDepth 100000 in
set_option maxHeartbeats 4000000 in
theorem t_X11_feed_40 {X : Cx} {ad Q : Nat → Nat} {kv : Value} {RD : Nat → Nat × Int32 × Int32 × Int32} (hro : ∀ z ∈ roL Q RD, z ∈ X.ro) (hRk : ∀ k, k < 6 → isRk (RD k).1) {PostX : Option Value → va_W → Prop} (hX : Ok X cX11_feed 5 RX11) (hq : Rq X 1 0 0 (some .int) PostX) {u : (Int32 × MS)} (hp : PostX (some (.int u.1)) (xW X.E ad Q kv u.2)) : ∀ (n : Nat) (x1 : Int64) (x3 : Int32) (x4 : Int32) (S : MS), f_X11_feed_40 RD n x1 x3 x4 S = some u → G X 5 0 0 40 [(0, .ref (ad 10)), (1, .long x1), (3, .int x3), (4, .int x4)] [] (xW X.E ad Q kv S) := by
  intro n
  induction n with
  | zero => intro _ _ _ _ hf; unfold f_X11_feed_40 at hf; cases hf
  | succ n hlp40 =>
  intro x1 x3 x4 S hf
  unfold f_X11_feed_40 at hf
  refine g_iload hX 3 rfl dX11_feed_40 ?_
  refine g_iloadn hX 2 rfl rfl dX11_feed_42 ?_
  refine g_icmp_ge hX 89 (by decide) dX11_feed_43 (fun c7 => ?_) (fun c7 => ?_)
  · have hf := ite_t c7 hf
    refine g_aloadn hX 0 rfl rfl dX11_feed_89 ?_
    refine xg_lift hX dX11_feed_90 ?_
    refine xg_tapeLength hX (v := S.2 7) rfl dX11_feed_93 ?_
    obtain rfl := oi hf
    exact g_iret hX hq (by decide) (by decide) hp dX11_feed_96
  · have hf := ite_f c7 hf
    refine g_aloadn hX 0 rfl rfl dX11_feed_46 ?_
    refine xg_lift hX dX11_feed_47 ?_
    refine xg_tape hX dX11_feed_50 ?_
    refine g_aloadn hX 0 rfl rfl dX11_feed_53 ?_
    refine xg_lift hX dX11_feed_54 ?_
    refine xg_tapeLength hX (v := S.2 7) rfl dX11_feed_57 ?_
    refine g_lloadn hX 1 rfl rfl dX11_feed_60 ?_
    refine g_bipush hX (v := 8) (by decide) dX11_feed_61 ?_
    refine g_iload hX 3 rfl dX11_feed_63 ?_
    refine g_imul hX dX11_feed_65 ?_
    refine g_jlshr hX dX11_feed_66 ?_
    refine g_l2i hX dX11_feed_67 ?_
    refine g_ji2b hX dX11_feed_68 ?_
    obtain ⟨v8, ev8, hf⟩ := bI_open hf
    refine g_nm ev8 ?_
    obtain ⟨k9, jk9, ik9, hf⟩ := gix_open hf
    refine xs_tape hX ik9 k9 jk9 dX11_feed_69 ?_
    refine g_aloadn hX 0 rfl rfl dX11_feed_70 ?_
    refine xg_lift hX dX11_feed_71 ?_
    refine g_dup hX rfl dX11_feed_74 ?_
    refine xg_tapeLength hX (v := S.2 7) rfl dX11_feed_75 ?_
    refine g_iconst hX (v := 1) (by decide) dX11_feed_78 ?_
    refine g_iadd hX dX11_feed_79 ?_
    obtain ⟨v10, ev10, hf⟩ := bI_open hf
    refine g_nm ev10 ?_
    refine xp_tapeLength hX dX11_feed_80 ?_
    obtain ⟨v11, ev11, hf⟩ := bI_open hf
    refine g_iinc hX 3 (v := v11) [(4, .int v11), (0, .ref (ad 10)), (1, .long x1), (3, .int x3)] rfl (by rw [ev11]; rfl) (by decide) rfl dX11_feed_83 ?_
    refine g_goto hX 40 (by decide) dX11_feed_86 ?_
    refine g_lv [1, 2, 3, 0] rfl ?_
    exact hlp40 _ _ _ _ hf
set_option maxRecDepth 100000 in
set_option maxHeartbeats 4000000 in
theorem t_X11_feed_0 {X : Cx} {ad Q : Nat → Nat} {kv : Value} {RD : Nat → Nat × Int32 × Int32 × Int32} (hro : ∀ z ∈ roL Q RD, z ∈ X.ro) (hRk : ∀ k, k < 6 → isRk (RD k).1) {PostX : Option Value → va_W → Prop} (hX : Ok X cX11_feed 5 RX11) (hq : Rq X 1 0 0 (some .int) PostX) {u : (Int32 × MS)} (hp : PostX (some (.int u.1)) (xW X.E ad Q kv u.2)) (a1 : Int64) (a3 : Int32) (S : MS) (hf : f_X11_feed RD a1 a3 S = some u) : G X 5 0 0 0 [(0, .ref (ad 10)), (1, .long a1), (3, .int a3)] [] (xW X.E ad Q kv S) := by
  unfold f_X11_feed at hf
  refine g_iloadn hX 2 rfl rfl dX11_feed_0 ?_
  refine g_iconst hX (v := 1) (by decide) dX11_feed_1 ?_
  refine g_icmp_lt hX 11 (by decide) dX11_feed_2 (fun c1 => ?_) (fun c1 => ?_)
  · have hf := ite_t c1 hf
    refine g_lv [0] rfl ?_
    exact t_X11_feed_11 hro hRk hX hq hp _ hf
  · have hf := ite_f c1 hf
    refine g_iloadn hX 2 rfl rfl dX11_feed_5 ?_
    refine g_bipush hX (v := 8) (by decide) dX11_feed_6 ?_
    refine g_icmp_le hX 17 (by decide) dX11_feed_8 (fun c5 => ?_) (fun c5 => ?_)
    · have hf := ite_t c5 hf
      refine g_aloadn hX 0 rfl rfl dX11_feed_17 ?_
      refine xg_lift hX dX11_feed_18 ?_
      refine xg_tapeLength hX (v := S.2 7) rfl dX11_feed_21 ?_
      refine g_iloadn hX 2 rfl rfl dX11_feed_24 ?_
      refine g_iadd hX dX11_feed_25 ?_
      refine g_bipush hX (v := 50) (by decide) dX11_feed_26 ?_
      refine g_icmp_le hX 37 (by decide) dX11_feed_28 (fun c6 => ?_) (fun c6 => ?_)
      · have hf := ite_t c6 hf
        refine g_iconst hX (v := 0) (by decide) dX11_feed_37 ?_
        refine g_istore hX [(4, .int 0), (0, .ref (ad 10)), (1, .long a1), (3, .int a3)] (by decide) rfl dX11_feed_38 ?_
        refine g_lv [1, 2, 3, 0] rfl ?_
        exact t_X11_feed_40 hro hRk hX hq hp _ _ _ _ _ hf
      · have hf := ite_f c6 hf
        refine g_aloadn hX 0 rfl rfl dX11_feed_31 ?_
        refine g_iconst hX (v := 4) (by decide) dX11_feed_32 ?_
        obtain ⟨r14, S12, h13, hf⟩ := cb_open hf
        refine k_X11_error hro hX hq (c_X11_error hRk h13) (by decide) (by decide) (by decide) (Nat.le_of_ble_eq_true rfl) dX11_feed_33 ?_
        obtain rfl := oi hf
        exact g_iret hX hq (by decide) (by decide) hp dX11_feed_36
    · have hf := ite_f c5 hf
      refine g_lv [0] rfl ?_
      exact t_X11_feed_11 hro hRk hX hq hp _ hf
theorem c_X11_feed {l : Launch} {E : En} {ad Q : Nat → Nat} {kv : Value} {RD : Nat → Nat × Int32 × Int32 × Int32} (hRk : ∀ k, k < 6 → isRk (RD k).1) {a1 : Int64} {a3 : Int32} {r : Int32} {S S2 : MS} (hf : f_X11_feed RD a1 a3 S = some (r, S2)) : CP l E yX11_feed cX11_feed 5 (some .int) 1 0 0 (roL Q RD) [.ref (ad 10), .long a1, .int a3] (xW E ad Q kv S) (fun rv w => rv = some (.int r) ∧ w = xW E ad Q kv S2) :=
  CP.of (lv := [(0, .ref (ad 10)), (1, .long a1), (3, .int a3)]) (by decide +kernel) (Nat.le_of_ble_eq_true rfl) rfl (fun X hl hE hro hX hq hn => by subst hl; subst hE; exact t_X11_feed_0 (fun z hz => by rw [hro]; exact hz) hRk hX hq ⟨rfl, rfl⟩ a1 a3 S hf)
def f_X11_text (RD : Nat → Nat × Int32 × Int32 × Int32) (a1 : Int32) (S : MS) : Option (Int32 × MS) :=
  cs (f_X11_isUse a1) fun r1 =>
  if (r1 = 0 : Prop) then
    cb (f_X11_error RD 1 S) fun r10 S8 =>
    some (r10, S8)
  else
    cb (f_X4_takeTape RD a1 S) fun r6 S4 =>
    if (0 ≤ r6 : Prop) then
      some (((-10) - r6), (sL S S4))
    else
      some (1, (sL S S4))
set_option maxRecDepth 100000 in
set_option maxHeartbeats 4000000 in
theorem t_X11_text_0 {X : Cx} {ad Q : Nat → Nat} {kv : Value} {RD : Nat → Nat × Int32 × Int32 × Int32} (hro : ∀ z ∈ roL Q RD, z ∈ X.ro) (hRk : ∀ k, k < 6 → isRk (RD k).1) {PostX : Option Value → va_W → Prop} (hX : Ok X cX11_text 3 RX11) (hq : Rq X 70 0 0 (some .int) PostX) {u : (Int32 × MS)} (hp : PostX (some (.int u.1)) (xW X.E ad Q kv u.2)) (a1 : Int32) (S : MS) (hf : f_X11_text RD a1 S = some u) : G X 3 0 0 0 [(0, .ref (ad 10)), (1, .int a1)] [] (xW X.E ad Q kv S) := by
  unfold f_X11_text at hf
  refine g_iloadn hX 1 rfl rfl dX11_text_0 ?_
  obtain ⟨r1, h2, hf⟩ := cs_open hf
  refine k_RX11_X11_isUse hX hq h2 (by decide) (by decide) (by decide) (Nat.le_of_ble_eq_true rfl) dX11_text_1 ?_
  refine g_if_ne hX 13 (by decide) dX11_text_4 (fun c3 => ?_) (fun c3 => ?_)
  · have hf := ite_f c3 hf
    refine g_aloadn hX 0 rfl rfl dX11_text_13 ?_
    refine xg_lift hX dX11_text_14 ?_
    refine g_iloadn hX 1 rfl rfl dX11_text_17 ?_
    obtain ⟨r6, S4, h5, hf⟩ := cb_open hf
    refine k4_X4_takeTape hro hX hq (c_X4_takeTape h5) (by decide) (by decide) (by decide) (Nat.le_of_ble_eq_true rfl) dX11_text_18 ?_
    refine g_istoren hX [(2, .int r6), (0, .ref (ad 10)), (1, .int a1)] rfl (by decide) rfl dX11_text_21 ?_
    refine g_iloadn hX 0 rfl rfl dX11_text_22 ?_
    refine g_if_ge hX 30 (by decide) dX11_text_23 (fun c7 => ?_) (fun c7 => ?_)
    · have hf := ite_t c7 hf
      refine g_bipush hX (v := (-10)) (by decide) dX11_text_30 ?_
      refine g_iloadn hX 0 rfl rfl dX11_text_32 ?_
      refine g_isub hX dX11_text_33 ?_
      obtain rfl := oi hf
      exact g_iret hX hq (by decide) (by decide) hp dX11_text_34
    · have hf := ite_f c7 hf
      refine g_iconst hX (v := 1) (by decide) dX11_text_26 ?_
      refine g_goto hX 34 (by decide) dX11_text_27 ?_
      obtain rfl := oi hf
      exact g_iret hX hq (by decide) (by decide) hp dX11_text_34
  · have hf := ite_t c3 hf
    refine g_aloadn hX 0 rfl rfl dX11_text_7 ?_
    refine g_iconst hX (v := 1) (by decide) dX11_text_8 ?_
    obtain ⟨r10, S8, h9, hf⟩ := cb_open hf
    refine k_X11_error hro hX hq (c_X11_error hRk h9) (by decide) (by decide) (by decide) (Nat.le_of_ble_eq_true rfl) dX11_text_9 ?_
    obtain rfl := oi hf
    exact g_iret hX hq (by decide) (by decide) hp dX11_text_12
theorem c_X11_text {l : Launch} {E : En} {ad Q : Nat → Nat} {kv : Value} {RD : Nat → Nat × Int32 × Int32 × Int32} (hRk : ∀ k, k < 6 → isRk (RD k).1) {a1 : Int32} {r : Int32} {S S2 : MS} (hf : f_X11_text RD a1 S = some (r, S2)) : CP l E yX11_text cX11_text 3 (some .int) 70 0 0 (roL Q RD) [.ref (ad 10), .int a1] (xW E ad Q kv S) (fun rv w => rv = some (.int r) ∧ w = xW E ad Q kv S2) :=
  CP.of (lv := [(0, .ref (ad 10)), (1, .int a1)]) (by decide +kernel) (Nat.le_of_ble_eq_true rfl) rfl (fun X hl hE hro hX hq hn => by subst hl; subst hE; exact t_X11_text_0 (fun z hz => by rw [hro]; exact hz) hRk hX hq ⟨rfl, rfl⟩ a1 S hf)
def f_X11_law (RD : Nat → Nat × Int32 × Int32 × Int32) (a1 : Int32) (a2 : Int32) (a3 : Int32) (a4 : Int32) (S : MS) : Option (Int32 × MS) :=
  cs (f_X11_isUse a1) fun r1 =>
  if (r1 = 0 : Prop) then
    cb (f_X11_error RD 1 S) fun r13 S11 =>
    some (r13, S11)
  else
    if (a1 = 0 : Prop) then
      cb (f_X2_gives 0 (lvF 0 S) a2 a3 a4 (lvS 0 S)) fun r5 S7 =>
      some (r5, (lvJ 0 S S7))
    else
      cb (f_X2_gives 2 (lvF 1 S) a2 a3 a4 (lvS 1 S)) fun r8 S10 =>
      some (r8, (lvJ 1 S S10))
set_option maxRecDepth 100000 in
set_option maxHeartbeats 4000000 in
theorem t_X11_law_0 {X : Cx} {ad Q : Nat → Nat} {kv : Value} {RD : Nat → Nat × Int32 × Int32 × Int32} (hro : ∀ z ∈ roL Q RD, z ∈ X.ro) (hRk : ∀ k, k < 6 → isRk (RD k).1) {PostX : Option Value → va_W → Prop} (hX : Ok X cX11_law 5 RX11) (hq : Rq X 68 0 0 (some .int) PostX) {u : (Int32 × MS)} (hp : PostX (some (.int u.1)) (xW X.E ad Q kv u.2)) (a1 : Int32) (a2 : Int32) (a3 : Int32) (a4 : Int32) (S : MS) (hf : f_X11_law RD a1 a2 a3 a4 S = some u) : G X 5 0 0 0 [(0, .ref (ad 10)), (1, .int a1), (2, .int a2), (3, .int a3), (4, .int a4)] [] (xW X.E ad Q kv S) := by
  unfold f_X11_law at hf
  refine g_iloadn hX 1 rfl rfl dX11_law_0 ?_
  obtain ⟨r1, h2, hf⟩ := cs_open hf
  refine k_RX11_X11_isUse hX hq h2 (by decide) (by decide) (by decide) (Nat.le_of_ble_eq_true rfl) dX11_law_1 ?_
  refine g_if_ne hX 13 (by decide) dX11_law_4 (fun c3 => ?_) (fun c3 => ?_)
  · have hf := ite_f c3 hf
    refine g_aloadn hX 0 rfl rfl dX11_law_13 ?_
    refine xg_lift hX dX11_law_14 ?_
    refine g_iloadn hX 1 rfl rfl dX11_law_17 ?_
    by_cases c4 : a1 = 0
    · have hf := ite_t c4 hf
      refine kx_lawOf0 hX hq c4 (by decide) (by decide) (by decide) (Nat.le_of_ble_eq_true rfl) dX11_law_18 ?_
      refine g_iloadn hX 2 rfl rfl dX11_law_21 ?_
      refine g_iloadn hX 3 rfl rfl dX11_law_22 ?_
      refine g_iload hX 4 rfl dX11_law_23 ?_
      obtain ⟨r5, S7, h6, hf⟩ := cb_open hf
      refine kx_gives0 hX hq h6 (by decide) (by decide) (by decide) (Nat.le_of_ble_eq_true rfl) dX11_law_25 ?_
      obtain rfl := oi hf
      exact g_iret hX hq (by decide) (by decide) hp dX11_law_28
    · have hf := ite_f c4 hf
      refine kx_lawOf1 hX hq c4 (by decide) (by decide) (by decide) (Nat.le_of_ble_eq_true rfl) dX11_law_18 ?_
      refine g_iloadn hX 2 rfl rfl dX11_law_21 ?_
      refine g_iloadn hX 3 rfl rfl dX11_law_22 ?_
      refine g_iload hX 4 rfl dX11_law_23 ?_
      obtain ⟨r8, S10, h9, hf⟩ := cb_open hf
      refine kx_gives1 hX hq h9 (by decide) (by decide) (by decide) (Nat.le_of_ble_eq_true rfl) dX11_law_25 ?_
      obtain rfl := oi hf
      exact g_iret hX hq (by decide) (by decide) hp dX11_law_28
  · have hf := ite_t c3 hf
    refine g_aloadn hX 0 rfl rfl dX11_law_7 ?_
    refine g_iconst hX (v := 1) (by decide) dX11_law_8 ?_
    obtain ⟨r13, S11, h12, hf⟩ := cb_open hf
    refine k_X11_error hro hX hq (c_X11_error hRk h12) (by decide) (by decide) (by decide) (Nat.le_of_ble_eq_true rfl) dX11_law_9 ?_
    obtain rfl := oi hf
    exact g_iret hX hq (by decide) (by decide) hp dX11_law_12
theorem c_X11_law {l : Launch} {E : En} {ad Q : Nat → Nat} {kv : Value} {RD : Nat → Nat × Int32 × Int32 × Int32} (hRk : ∀ k, k < 6 → isRk (RD k).1) {a1 : Int32} {a2 : Int32} {a3 : Int32} {a4 : Int32} {r : Int32} {S S2 : MS} (hf : f_X11_law RD a1 a2 a3 a4 S = some (r, S2)) : CP l E yX11_law cX11_law 5 (some .int) 68 0 0 (roL Q RD) [.ref (ad 10), .int a1, .int a2, .int a3, .int a4] (xW E ad Q kv S) (fun rv w => rv = some (.int r) ∧ w = xW E ad Q kv S2) :=
  CP.of (lv := [(0, .ref (ad 10)), (1, .int a1), (2, .int a2), (3, .int a3), (4, .int a4)]) (by decide +kernel) (Nat.le_of_ble_eq_true rfl) rfl (fun X hl hE hro hX hq hn => by subst hl; subst hE; exact t_X11_law_0 (fun z hz => by rw [hro]; exact hz) hRk hX hq ⟨rfl, rfl⟩ a1 a2 a3 a4 S hf)
def f_X11_ride (RD : Nat → Nat × Int32 × Int32 × Int32) (a1 : Int32) (S : MS) : Option (Int32 × MS) :=
  cb (f_X11_isRider RD a1 S) fun r3 S1 =>
  if (r3 = 0 : Prop) then
    cb (f_X11_error RD 1 S1) fun r17 S15 =>
    some (r17, S15)
  else
    gix a1 6 fun k5 =>
    cb (f_X4_floor RD a1 (S1.1 1 k5) (S1.2 0) S1) fun r8 S6 =>
    cb (f_X4_afterRide RD a1 ((sL S1 S6).2 0) (sL S1 S6)) fun r11 S9 =>
    cb (f_X4_countRides RD 1 (sF (sL (sL S1 S6) S9) 0 r11)) fun _ S12 =>
    some (r8, (sL (sF (sL (sL S1 S6) S9) 0 r11) S12))
set_option maxRecDepth 100000 in
set_option maxHeartbeats 4000000 in
theorem t_X11_ride_0 {X : Cx} {ad Q : Nat → Nat} {kv : Value} {RD : Nat → Nat × Int32 × Int32 × Int32} (hro : ∀ z ∈ roL Q RD, z ∈ X.ro) (hRk : ∀ k, k < 6 → isRk (RD k).1) {PostX : Option Value → va_W → Prop} (hX : Ok X cX11_ride 3 RX11) (hq : Rq X 7 0 0 (some .int) PostX) {u : (Int32 × MS)} (hp : PostX (some (.int u.1)) (xW X.E ad Q kv u.2)) (a1 : Int32) (S : MS) (hf : f_X11_ride RD a1 S = some u) : G X 3 0 0 0 [(0, .ref (ad 10)), (1, .int a1)] [] (xW X.E ad Q kv S) := by
  unfold f_X11_ride at hf
  refine g_aloadn hX 0 rfl rfl dX11_ride_0 ?_
  refine g_iloadn hX 1 rfl rfl dX11_ride_1 ?_
  obtain ⟨r3, S1, h2, hf⟩ := cb_open hf
  refine k_X11_isRider hro hX hq (c_X11_isRider hRk h2) (by decide) (by decide) (by decide) (Nat.le_of_ble_eq_true rfl) dX11_ride_2 ?_
  refine g_if_ne hX 14 (by decide) dX11_ride_5 (fun c4 => ?_) (fun c4 => ?_)
  · have hf := ite_f c4 hf
    refine g_aloadn hX 0 rfl rfl dX11_ride_14 ?_
    refine xg_lift hX dX11_ride_15 ?_
    refine g_iloadn hX 1 rfl rfl dX11_ride_18 ?_
    refine g_aloadn hX 0 rfl rfl dX11_ride_19 ?_
    refine xg_lift hX dX11_ride_20 ?_
    refine xg_stories hX dX11_ride_23 ?_
    refine g_iloadn hX 1 rfl rfl dX11_ride_26 ?_
    obtain ⟨k5, jk5, ik5, hf⟩ := gix_open hf
    refine xl_stories hX ik5 k5 jk5 dX11_ride_27 ?_
    refine g_aloadn hX 0 rfl rfl dX11_ride_28 ?_
    refine xg_lift hX dX11_ride_29 ?_
    refine xg_heard hX (v := S1.2 0) rfl dX11_ride_32 ?_
    obtain ⟨r8, S6, h7, hf⟩ := cb_open hf
    refine k4_X4_floor hro hX hq (c_X4_floor h7) (by decide) (by decide) (by decide) (Nat.le_of_ble_eq_true rfl) dX11_ride_35 ?_
    refine g_istoren hX [(2, .int r8), (0, .ref (ad 10)), (1, .int a1)] rfl (by decide) rfl dX11_ride_38 ?_
    refine g_aloadn hX 1 rfl rfl dX11_ride_39 ?_
    refine xg_lift hX dX11_ride_40 ?_
    refine g_aloadn hX 1 rfl rfl dX11_ride_43 ?_
    refine xg_lift hX dX11_ride_44 ?_
    refine g_iloadn hX 2 rfl rfl dX11_ride_47 ?_
    refine g_aloadn hX 1 rfl rfl dX11_ride_48 ?_
    refine xg_lift hX dX11_ride_49 ?_
    refine xg_heard hX (v := (sL S1 S6).2 0) rfl dX11_ride_52 ?_
    obtain ⟨r11, S9, h10, hf⟩ := cb_open hf
    refine k4_X4_afterRide hro hX hq (c_X4_afterRide h10) (by decide) (by decide) (by decide) (Nat.le_of_ble_eq_true rfl) dX11_ride_55 ?_
    refine xp_heard hX dX11_ride_58 ?_
    refine g_aloadn hX 1 rfl rfl dX11_ride_61 ?_
    refine xg_lift hX dX11_ride_62 ?_
    refine g_iconst hX (v := 1) (by decide) dX11_ride_65 ?_
    obtain ⟨z14, S12, h13, hf⟩ := cb_open hf
    refine k4_X4_countRides hro hX hq (c_X4_countRides h13) (by decide) (by decide) (by decide) (Nat.le_of_ble_eq_true rfl) dX11_ride_66 ?_
    refine g_iloadn hX 0 rfl rfl dX11_ride_69 ?_
    obtain rfl := oi hf
    exact g_iret hX hq (by decide) (by decide) hp dX11_ride_70
  · have hf := ite_t c4 hf
    refine g_aloadn hX 0 rfl rfl dX11_ride_8 ?_
    refine g_iconst hX (v := 1) (by decide) dX11_ride_9 ?_
    obtain ⟨r17, S15, h16, hf⟩ := cb_open hf
    refine k_X11_error hro hX hq (c_X11_error hRk h16) (by decide) (by decide) (by decide) (Nat.le_of_ble_eq_true rfl) dX11_ride_10 ?_
    obtain rfl := oi hf
    exact g_iret hX hq (by decide) (by decide) hp dX11_ride_13
theorem c_X11_ride {l : Launch} {E : En} {ad Q : Nat → Nat} {kv : Value} {RD : Nat → Nat × Int32 × Int32 × Int32} (hRk : ∀ k, k < 6 → isRk (RD k).1) {a1 : Int32} {r : Int32} {S S2 : MS} (hf : f_X11_ride RD a1 S = some (r, S2)) : CP l E yX11_ride cX11_ride 3 (some .int) 7 0 0 (roL Q RD) [.ref (ad 10), .int a1] (xW E ad Q kv S) (fun rv w => rv = some (.int r) ∧ w = xW E ad Q kv S2) :=
  CP.of (lv := [(0, .ref (ad 10)), (1, .int a1)]) (by decide +kernel) (Nat.le_of_ble_eq_true rfl) rfl (fun X hl hE hro hX hq hn => by subst hl; subst hE; exact t_X11_ride_0 (fun z hz => by rw [hro]; exact hz) hRk hX hq ⟨rfl, rfl⟩ a1 S hf)
def f_X11_days_11 (RD : Nat → Nat × Int32 × Int32 × Int32) (S : MS) : Option (Int32 × MS) :=
  cb (f_X11_error RD 1 S) fun r4 S2 =>
  some (r4, S2)
def f_X11_days_40 (RD : Nat → Nat × Int32 × Int32 × Int32) : Nat → Int32 → Int32 → MS → Option (Int32 × MS)
  | 0 => fun _ _ _ => none
  | n + 1 => fun x1 x2 S =>
    let lp40 := f_X11_days_40 RD n
    if (x1 ≤ x2 : Prop) then
      cb (f_X4_countDays RD x1 S) fun _ S8 =>
      cs (f_X11_numberOf ((sL S S8).2 0)) fun r11 =>
      some (r11, (sL S S8))
    else
      cb (f_X4_afterDay RD (S.2 0) S) fun r15 S13 =>
      bI (x2 + 1) fun v16 =>
      lp40 x1 v16 (sF (sL S S13) 0 r15)
def f_X11_days (RD : Nat → Nat × Int32 × Int32 × Int32) (a1 : Int32) (S : MS) : Option (Int32 × MS) :=
  if (a1 < 1 : Prop) then
    f_X11_days_11 RD S
  else
    if (a1 ≤ 60 : Prop) then
      if (((S.2 3) + a1) ≤ 9999 : Prop) then
        f_X11_days_40 RD 100 a1 0 S
      else
        cb (f_X11_error RD 3 S) fun r19 S17 =>
        some (r19, S17)
    else
      f_X11_days_11 RD S
set_option maxRecDepth 100000 in
set_option maxHeartbeats 4000000 in
theorem t_X11_days_11 {X : Cx} {ad Q : Nat → Nat} {kv : Value} {RD : Nat → Nat × Int32 × Int32 × Int32} (hro : ∀ z ∈ roL Q RD, z ∈ X.ro) (hRk : ∀ k, k < 6 → isRk (RD k).1) {PostX : Option Value → va_W → Prop} (hX : Ok X cX11_days 3 RX11) (hq : Rq X 8 0 0 (some .int) PostX) {u : (Int32 × MS)} (hp : PostX (some (.int u.1)) (xW X.E ad Q kv u.2)) (S : MS) (hf : f_X11_days_11 RD S = some u) : G X 3 0 0 11 [(0, .ref (ad 10))] [] (xW X.E ad Q kv S) := by
  unfold f_X11_days_11 at hf
  refine g_aloadn hX 0 rfl rfl dX11_days_11 ?_
  refine g_iconst hX (v := 1) (by decide) dX11_days_12 ?_
  obtain ⟨r4, S2, h3, hf⟩ := cb_open hf
  refine k_X11_error hro hX hq (c_X11_error hRk h3) (by decide) (by decide) (by decide) (Nat.le_of_ble_eq_true rfl) dX11_days_13 ?_
  obtain rfl := oi hf
  exact g_iret hX hq (by decide) (by decide) hp dX11_days_16
set_option maxRecDepth 100000 in
set_option maxHeartbeats 4000000 in
theorem t_X11_days_40 {X : Cx} {ad Q : Nat → Nat} {kv : Value} {RD : Nat → Nat × Int32 × Int32 × Int32} (hro : ∀ z ∈ roL Q RD, z ∈ X.ro) (hRk : ∀ k, k < 6 → isRk (RD k).1) {PostX : Option Value → va_W → Prop} (hX : Ok X cX11_days 3 RX11) (hq : Rq X 8 0 0 (some .int) PostX) {u : (Int32 × MS)} (hp : PostX (some (.int u.1)) (xW X.E ad Q kv u.2)) : ∀ (n : Nat) (x1 : Int32) (x2 : Int32) (S : MS), f_X11_days_40 RD n x1 x2 S = some u → G X 3 0 0 40 [(0, .ref (ad 10)), (1, .int x1), (2, .int x2)] [] (xW X.E ad Q kv S) := by
  intro n
  induction n with
  | zero => intro _ _ _ hf; unfold f_X11_days_40 at hf; cases hf
  | succ n hlp40 =>
  intro x1 x2 S hf
  unfold f_X11_days_40 at hf
  refine g_iloadn hX 2 rfl rfl dX11_days_40 ?_
  refine g_iloadn hX 1 rfl rfl dX11_days_41 ?_
  refine g_icmp_ge hX 72 (by decide) dX11_days_42 (fun c7 => ?_) (fun c7 => ?_)
  · have hf := ite_t c7 hf
    refine g_aloadn hX 0 rfl rfl dX11_days_72 ?_
    refine xg_lift hX dX11_days_73 ?_
    refine g_iloadn hX 1 rfl rfl dX11_days_76 ?_
    obtain ⟨z10, S8, h9, hf⟩ := cb_open hf
    refine k4_X4_countDays hro hX hq (c_X4_countDays h9) (by decide) (by decide) (by decide) (Nat.le_of_ble_eq_true rfl) dX11_days_77 ?_
    refine g_aloadn hX 0 rfl rfl dX11_days_80 ?_
    refine xg_lift hX dX11_days_81 ?_
    refine xg_heard hX (v := (sL S S8).2 0) rfl dX11_days_84 ?_
    obtain ⟨r11, h12, hf⟩ := cs_open hf
    refine k_RX11_X11_numberOf hX hq h12 (by decide) (by decide) (by decide) (Nat.le_of_ble_eq_true rfl) dX11_days_87 ?_
    obtain rfl := oi hf
    exact g_iret hX hq (by decide) (by decide) hp dX11_days_90
  · have hf := ite_f c7 hf
    refine g_aloadn hX 0 rfl rfl dX11_days_45 ?_
    refine xg_lift hX dX11_days_46 ?_
    refine g_aloadn hX 0 rfl rfl dX11_days_49 ?_
    refine xg_lift hX dX11_days_50 ?_
    refine g_aloadn hX 0 rfl rfl dX11_days_53 ?_
    refine xg_lift hX dX11_days_54 ?_
    refine xg_heard hX (v := S.2 0) rfl dX11_days_57 ?_
    obtain ⟨r15, S13, h14, hf⟩ := cb_open hf
    refine k4_X4_afterDay hro hX hq (c_X4_afterDay h14) (by decide) (by decide) (by decide) (Nat.le_of_ble_eq_true rfl) dX11_days_60 ?_
    refine xp_heard hX dX11_days_63 ?_
    obtain ⟨v16, ev16, hf⟩ := bI_open hf
    refine g_iinc hX 2 (v := v16) [(2, .int v16), (0, .ref (ad 10)), (1, .int x1)] rfl (by rw [ev16]; rfl) (by decide) rfl dX11_days_66 ?_
    refine g_goto hX 40 (by decide) dX11_days_69 ?_
    refine g_lv [1, 2, 0] rfl ?_
    exact hlp40 _ _ _ hf
set_option maxRecDepth 100000 in
set_option maxHeartbeats 4000000 in
theorem t_X11_days_0 {X : Cx} {ad Q : Nat → Nat} {kv : Value} {RD : Nat → Nat × Int32 × Int32 × Int32} (hro : ∀ z ∈ roL Q RD, z ∈ X.ro) (hRk : ∀ k, k < 6 → isRk (RD k).1) {PostX : Option Value → va_W → Prop} (hX : Ok X cX11_days 3 RX11) (hq : Rq X 8 0 0 (some .int) PostX) {u : (Int32 × MS)} (hp : PostX (some (.int u.1)) (xW X.E ad Q kv u.2)) (a1 : Int32) (S : MS) (hf : f_X11_days RD a1 S = some u) : G X 3 0 0 0 [(0, .ref (ad 10)), (1, .int a1)] [] (xW X.E ad Q kv S) := by
  unfold f_X11_days at hf
  refine g_iloadn hX 1 rfl rfl dX11_days_0 ?_
  refine g_iconst hX (v := 1) (by decide) dX11_days_1 ?_
  refine g_icmp_lt hX 11 (by decide) dX11_days_2 (fun c1 => ?_) (fun c1 => ?_)
  · have hf := ite_t c1 hf
    refine g_lv [0] rfl ?_
    exact t_X11_days_11 hro hRk hX hq hp _ hf
  · have hf := ite_f c1 hf
    refine g_iloadn hX 1 rfl rfl dX11_days_5 ?_
    refine g_bipush hX (v := 60) (by decide) dX11_days_6 ?_
    refine g_icmp_le hX 17 (by decide) dX11_days_8 (fun c5 => ?_) (fun c5 => ?_)
    · have hf := ite_t c5 hf
      refine g_aloadn hX 0 rfl rfl dX11_days_17 ?_
      refine xg_lift hX dX11_days_18 ?_
      refine xg_day hX (v := S.2 3) rfl dX11_days_21 ?_
      refine g_iloadn hX 1 rfl rfl dX11_days_24 ?_
      refine g_iadd hX dX11_days_25 ?_
      refine g_sipush hX (v := 9999) (by decide) dX11_days_26 ?_
      refine g_icmp_le hX 38 (by decide) dX11_days_29 (fun c6 => ?_) (fun c6 => ?_)
      · have hf := ite_t c6 hf
        refine g_iconst hX (v := 0) (by decide) dX11_days_38 ?_
        refine g_istoren hX [(2, .int 0), (0, .ref (ad 10)), (1, .int a1)] rfl (by decide) rfl dX11_days_39 ?_
        refine g_lv [1, 2, 0] rfl ?_
        exact t_X11_days_40 hro hRk hX hq hp _ _ _ _ hf
      · have hf := ite_f c6 hf
        refine g_aloadn hX 0 rfl rfl dX11_days_32 ?_
        refine g_iconst hX (v := 3) (by decide) dX11_days_33 ?_
        obtain ⟨r19, S17, h18, hf⟩ := cb_open hf
        refine k_X11_error hro hX hq (c_X11_error hRk h18) (by decide) (by decide) (by decide) (Nat.le_of_ble_eq_true rfl) dX11_days_34 ?_
        obtain rfl := oi hf
        exact g_iret hX hq (by decide) (by decide) hp dX11_days_37
    · have hf := ite_f c5 hf
      refine g_lv [0] rfl ?_
      exact t_X11_days_11 hro hRk hX hq hp _ hf
theorem c_X11_days {l : Launch} {E : En} {ad Q : Nat → Nat} {kv : Value} {RD : Nat → Nat × Int32 × Int32 × Int32} (hRk : ∀ k, k < 6 → isRk (RD k).1) {a1 : Int32} {r : Int32} {S S2 : MS} (hf : f_X11_days RD a1 S = some (r, S2)) : CP l E yX11_days cX11_days 3 (some .int) 8 0 0 (roL Q RD) [.ref (ad 10), .int a1] (xW E ad Q kv S) (fun rv w => rv = some (.int r) ∧ w = xW E ad Q kv S2) :=
  CP.of (lv := [(0, .ref (ad 10)), (1, .int a1)]) (by decide +kernel) (Nat.le_of_ble_eq_true rfl) rfl (fun X hl hE hro hX hq hn => by subst hl; subst hE; exact t_X11_days_0 (fun z hz => by rw [hro]; exact hz) hRk hX hq ⟨rfl, rfl⟩ a1 S hf)
def f_X11_rumours_11 (RD : Nat → Nat × Int32 × Int32 × Int32) (S : MS) : Option (Int32 × MS) :=
  cb (f_X11_error RD 1 S) fun r4 S2 =>
  some (r4, S2)
def f_X11_rumours_40 (RD : Nat → Nat × Int32 × Int32 × Int32) : Nat → Int32 → Int32 → MS → Option (Int32 × MS)
  | 0 => fun _ _ _ => none
  | n + 1 => fun x1 x2 S =>
    let lp40 := f_X11_rumours_40 RD n
    if (x1 ≤ x2 : Prop) then
      cb (f_X4_countDays RD x1 S) fun _ S8 =>
      cs (f_X11_numberOf ((sL S S8).2 0)) fun r11 =>
      some (r11, (sL S S8))
    else
      cb (f_X4_draw RD S) fun r15 S13 =>
      bI (jrem r15 8) fun v16 =>
      cb (f_X4_draw RD (sL S S13)) fun r19 S17 =>
      bI (jrem r19 3) fun v20 =>
      cs (f_X11_withSaying ((sL (sL S S13) S17).2 0) v16 v20) fun r21 =>
      cb (f_X4_afterDay RD r21 (sL (sL S S13) S17)) fun r25 S23 =>
      bI (x2 + 1) fun v26 =>
      lp40 x1 v26 (sF (sL (sL (sL S S13) S17) S23) 0 r25)
def f_X11_rumours (RD : Nat → Nat × Int32 × Int32 × Int32) (a1 : Int32) (S : MS) : Option (Int32 × MS) :=
  if (a1 < 1 : Prop) then
    f_X11_rumours_11 RD S
  else
    if (a1 ≤ 40 : Prop) then
      if (((S.2 3) + a1) ≤ 9999 : Prop) then
        f_X11_rumours_40 RD 100 a1 0 S
      else
        cb (f_X11_error RD 3 S) fun r29 S27 =>
        some (r29, S27)
    else
      f_X11_rumours_11 RD S
set_option maxRecDepth 100000 in
set_option maxHeartbeats 4000000 in
theorem t_X11_rumours_11 {X : Cx} {ad Q : Nat → Nat} {kv : Value} {RD : Nat → Nat × Int32 × Int32 × Int32} (hro : ∀ z ∈ roL Q RD, z ∈ X.ro) (hRk : ∀ k, k < 6 → isRk (RD k).1) {PostX : Option Value → va_W → Prop} (hX : Ok X cX11_rumours 5 RX11) (hq : Rq X 8 0 0 (some .int) PostX) {u : (Int32 × MS)} (hp : PostX (some (.int u.1)) (xW X.E ad Q kv u.2)) (S : MS) (hf : f_X11_rumours_11 RD S = some u) : G X 5 0 0 11 [(0, .ref (ad 10))] [] (xW X.E ad Q kv S) := by
  unfold f_X11_rumours_11 at hf
  refine g_aloadn hX 0 rfl rfl dX11_rumours_11 ?_
  refine g_iconst hX (v := 1) (by decide) dX11_rumours_12 ?_
  obtain ⟨r4, S2, h3, hf⟩ := cb_open hf
  refine k_X11_error hro hX hq (c_X11_error hRk h3) (by decide) (by decide) (by decide) (Nat.le_of_ble_eq_true rfl) dX11_rumours_13 ?_
  obtain rfl := oi hf
  exact g_iret hX hq (by decide) (by decide) hp dX11_rumours_16
set_option maxRecDepth 100000 in
set_option maxHeartbeats 4000000 in
theorem t_X11_rumours_40 {X : Cx} {ad Q : Nat → Nat} {kv : Value} {RD : Nat → Nat × Int32 × Int32 × Int32} (hro : ∀ z ∈ roL Q RD, z ∈ X.ro) (hRk : ∀ k, k < 6 → isRk (RD k).1) {PostX : Option Value → va_W → Prop} (hX : Ok X cX11_rumours 5 RX11) (hq : Rq X 8 0 0 (some .int) PostX) {u : (Int32 × MS)} (hp : PostX (some (.int u.1)) (xW X.E ad Q kv u.2)) : ∀ (n : Nat) (x1 : Int32) (x2 : Int32) (S : MS), f_X11_rumours_40 RD n x1 x2 S = some u → G X 5 0 0 40 [(0, .ref (ad 10)), (1, .int x1), (2, .int x2)] [] (xW X.E ad Q kv S) := by
  intro n
  induction n with
  | zero => intro _ _ _ hf; unfold f_X11_rumours_40 at hf; cases hf
  | succ n hlp40 =>
  intro x1 x2 S hf
  unfold f_X11_rumours_40 at hf
  refine g_iloadn hX 2 rfl rfl dX11_rumours_40 ?_
  refine g_iloadn hX 1 rfl rfl dX11_rumours_41 ?_
  refine g_icmp_ge hX 100 (by decide) dX11_rumours_42 (fun c7 => ?_) (fun c7 => ?_)
  · have hf := ite_t c7 hf
    refine g_aloadn hX 0 rfl rfl dX11_rumours_100 ?_
    refine xg_lift hX dX11_rumours_101 ?_
    refine g_iloadn hX 1 rfl rfl dX11_rumours_104 ?_
    obtain ⟨z10, S8, h9, hf⟩ := cb_open hf
    refine k4_X4_countDays hro hX hq (c_X4_countDays h9) (by decide) (by decide) (by decide) (Nat.le_of_ble_eq_true rfl) dX11_rumours_105 ?_
    refine g_aloadn hX 0 rfl rfl dX11_rumours_108 ?_
    refine xg_lift hX dX11_rumours_109 ?_
    refine xg_heard hX (v := (sL S S8).2 0) rfl dX11_rumours_112 ?_
    obtain ⟨r11, h12, hf⟩ := cs_open hf
    refine k_RX11_X11_numberOf hX hq h12 (by decide) (by decide) (by decide) (Nat.le_of_ble_eq_true rfl) dX11_rumours_115 ?_
    obtain rfl := oi hf
    exact g_iret hX hq (by decide) (by decide) hp dX11_rumours_118
  · have hf := ite_f c7 hf
    refine g_aloadn hX 0 rfl rfl dX11_rumours_45 ?_
    refine xg_lift hX dX11_rumours_46 ?_
    obtain ⟨r15, S13, h14, hf⟩ := cb_open hf
    refine k4_X4_draw hro hX hq (c_X4_draw h14) (by decide) (by decide) (by decide) (Nat.le_of_ble_eq_true rfl) dX11_rumours_49 ?_
    refine g_bipush hX (v := 8) (by decide) dX11_rumours_52 ?_
    refine g_jrem hX (by decide) dX11_rumours_54 ?_
    obtain ⟨v16, ev16, hf⟩ := bI_open hf
    refine g_nm ev16 ?_
    refine g_istoren hX [(3, .int v16), (0, .ref (ad 10)), (1, .int x1), (2, .int x2)] rfl (by decide) rfl dX11_rumours_55 ?_
    refine g_aloadn hX 1 rfl rfl dX11_rumours_56 ?_
    refine xg_lift hX dX11_rumours_57 ?_
    obtain ⟨r19, S17, h18, hf⟩ := cb_open hf
    refine k4_X4_draw hro hX hq (c_X4_draw h18) (by decide) (by decide) (by decide) (Nat.le_of_ble_eq_true rfl) dX11_rumours_60 ?_
    refine g_iconst hX (v := 3) (by decide) dX11_rumours_63 ?_
    refine g_jrem hX (by decide) dX11_rumours_64 ?_
    obtain ⟨v20, ev20, hf⟩ := bI_open hf
    refine g_nm ev20 ?_
    refine g_istore hX [(4, .int v20), (3, .int v16), (0, .ref (ad 10)), (1, .int x1), (2, .int x2)] (by decide) rfl dX11_rumours_65 ?_
    refine g_aloadn hX 2 rfl rfl dX11_rumours_67 ?_
    refine xg_lift hX dX11_rumours_68 ?_
    refine g_aloadn hX 2 rfl rfl dX11_rumours_71 ?_
    refine xg_lift hX dX11_rumours_72 ?_
    refine g_aloadn hX 2 rfl rfl dX11_rumours_75 ?_
    refine xg_lift hX dX11_rumours_76 ?_
    refine xg_heard hX (v := (sL (sL S S13) S17).2 0) rfl dX11_rumours_79 ?_
    refine g_iloadn hX 1 rfl rfl dX11_rumours_82 ?_
    refine g_iload hX 0 rfl dX11_rumours_83 ?_
    obtain ⟨r21, h22, hf⟩ := cs_open hf
    refine k_RX11_X11_withSaying hX hq h22 (by decide) (by decide) (by decide) (Nat.le_of_ble_eq_true rfl) dX11_rumours_85 ?_
    obtain ⟨r25, S23, h24, hf⟩ := cb_open hf
    refine k4_X4_afterDay hro hX hq (c_X4_afterDay h24) (by decide) (by decide) (by decide) (Nat.le_of_ble_eq_true rfl) dX11_rumours_88 ?_
    refine xp_heard hX dX11_rumours_91 ?_
    obtain ⟨v26, ev26, hf⟩ := bI_open hf
    refine g_iinc hX 4 (v := v26) [(2, .int v26), (4, .int v20), (3, .int v16), (0, .ref (ad 10)), (1, .int x1)] rfl (by rw [ev26]; rfl) (by decide) rfl dX11_rumours_94 ?_
    refine g_goto hX 40 (by decide) dX11_rumours_97 ?_
    refine g_lv [3, 4, 0] rfl ?_
    exact hlp40 _ _ _ hf
set_option maxRecDepth 100000 in
set_option maxHeartbeats 4000000 in
theorem t_X11_rumours_0 {X : Cx} {ad Q : Nat → Nat} {kv : Value} {RD : Nat → Nat × Int32 × Int32 × Int32} (hro : ∀ z ∈ roL Q RD, z ∈ X.ro) (hRk : ∀ k, k < 6 → isRk (RD k).1) {PostX : Option Value → va_W → Prop} (hX : Ok X cX11_rumours 5 RX11) (hq : Rq X 8 0 0 (some .int) PostX) {u : (Int32 × MS)} (hp : PostX (some (.int u.1)) (xW X.E ad Q kv u.2)) (a1 : Int32) (S : MS) (hf : f_X11_rumours RD a1 S = some u) : G X 5 0 0 0 [(0, .ref (ad 10)), (1, .int a1)] [] (xW X.E ad Q kv S) := by
  unfold f_X11_rumours at hf
  refine g_iloadn hX 1 rfl rfl dX11_rumours_0 ?_
  refine g_iconst hX (v := 1) (by decide) dX11_rumours_1 ?_
  refine g_icmp_lt hX 11 (by decide) dX11_rumours_2 (fun c1 => ?_) (fun c1 => ?_)
  · have hf := ite_t c1 hf
    refine g_lv [0] rfl ?_
    exact t_X11_rumours_11 hro hRk hX hq hp _ hf
  · have hf := ite_f c1 hf
    refine g_iloadn hX 1 rfl rfl dX11_rumours_5 ?_
    refine g_bipush hX (v := 40) (by decide) dX11_rumours_6 ?_
    refine g_icmp_le hX 17 (by decide) dX11_rumours_8 (fun c5 => ?_) (fun c5 => ?_)
    · have hf := ite_t c5 hf
      refine g_aloadn hX 0 rfl rfl dX11_rumours_17 ?_
      refine xg_lift hX dX11_rumours_18 ?_
      refine xg_day hX (v := S.2 3) rfl dX11_rumours_21 ?_
      refine g_iloadn hX 1 rfl rfl dX11_rumours_24 ?_
      refine g_iadd hX dX11_rumours_25 ?_
      refine g_sipush hX (v := 9999) (by decide) dX11_rumours_26 ?_
      refine g_icmp_le hX 38 (by decide) dX11_rumours_29 (fun c6 => ?_) (fun c6 => ?_)
      · have hf := ite_t c6 hf
        refine g_iconst hX (v := 0) (by decide) dX11_rumours_38 ?_
        refine g_istoren hX [(2, .int 0), (0, .ref (ad 10)), (1, .int a1)] rfl (by decide) rfl dX11_rumours_39 ?_
        refine g_lv [1, 2, 0] rfl ?_
        exact t_X11_rumours_40 hro hRk hX hq hp _ _ _ _ hf
      · have hf := ite_f c6 hf
        refine g_aloadn hX 0 rfl rfl dX11_rumours_32 ?_
        refine g_iconst hX (v := 3) (by decide) dX11_rumours_33 ?_
        obtain ⟨r29, S27, h28, hf⟩ := cb_open hf
        refine k_X11_error hro hX hq (c_X11_error hRk h28) (by decide) (by decide) (by decide) (Nat.le_of_ble_eq_true rfl) dX11_rumours_34 ?_
        obtain rfl := oi hf
        exact g_iret hX hq (by decide) (by decide) hp dX11_rumours_37
    · have hf := ite_f c5 hf
      refine g_lv [0] rfl ?_
      exact t_X11_rumours_11 hro hRk hX hq hp _ hf
theorem c_X11_rumours {l : Launch} {E : En} {ad Q : Nat → Nat} {kv : Value} {RD : Nat → Nat × Int32 × Int32 × Int32} (hRk : ∀ k, k < 6 → isRk (RD k).1) {a1 : Int32} {r : Int32} {S S2 : MS} (hf : f_X11_rumours RD a1 S = some (r, S2)) : CP l E yX11_rumours cX11_rumours 5 (some .int) 8 0 0 (roL Q RD) [.ref (ad 10), .int a1] (xW E ad Q kv S) (fun rv w => rv = some (.int r) ∧ w = xW E ad Q kv S2) :=
  CP.of (lv := [(0, .ref (ad 10)), (1, .int a1)]) (by decide +kernel) (Nat.le_of_ble_eq_true rfl) rfl (fun X hl hE hro hX hq hn => by subst hl; subst hE; exact t_X11_rumours_0 (fun z hz => by rw [hro]; exact hz) hRk hX hq ⟨rfl, rfl⟩ a1 S hf)
def f_X11_together_18 (RD : Nat → Nat × Int32 × Int32 × Int32) (S : MS) : Option (Int32 × MS) :=
  cb (f_X11_error RD 1 S) fun r4 S2 =>
  some (r4, S2)
def f_X11_together (RD : Nat → Nat × Int32 × Int32 × Int32) (a1 : Int32) (S : MS) : Option (Int32 × MS) :=
  if (a1 < 1 : Prop) then
    f_X11_together_18 RD S
  else
    if (a1 < (jshl 1 (S.2 6)) : Prop) then
      cb (f_X4_crowdFloor RD a1 S) fun r8 S6 =>
      some (r8, (sL S S6))
    else
      f_X11_together_18 RD S
set_option maxRecDepth 100000 in
set_option maxHeartbeats 4000000 in
theorem t_X11_together_18 {X : Cx} {ad Q : Nat → Nat} {kv : Value} {RD : Nat → Nat × Int32 × Int32 × Int32} (hro : ∀ z ∈ roL Q RD, z ∈ X.ro) (hRk : ∀ k, k < 6 → isRk (RD k).1) {PostX : Option Value → va_W → Prop} (hX : Ok X cX11_together 2 RX11) (hq : Rq X 69 0 0 (some .int) PostX) {u : (Int32 × MS)} (hp : PostX (some (.int u.1)) (xW X.E ad Q kv u.2)) (S : MS) (hf : f_X11_together_18 RD S = some u) : G X 2 0 0 18 [(0, .ref (ad 10))] [] (xW X.E ad Q kv S) := by
  unfold f_X11_together_18 at hf
  refine g_aloadn hX 0 rfl rfl dX11_together_18 ?_
  refine g_iconst hX (v := 1) (by decide) dX11_together_19 ?_
  obtain ⟨r4, S2, h3, hf⟩ := cb_open hf
  refine k_X11_error hro hX hq (c_X11_error hRk h3) (by decide) (by decide) (by decide) (Nat.le_of_ble_eq_true rfl) dX11_together_20 ?_
  obtain rfl := oi hf
  exact g_iret hX hq (by decide) (by decide) hp dX11_together_23
set_option maxRecDepth 100000 in
set_option maxHeartbeats 4000000 in
theorem t_X11_together_0 {X : Cx} {ad Q : Nat → Nat} {kv : Value} {RD : Nat → Nat × Int32 × Int32 × Int32} (hro : ∀ z ∈ roL Q RD, z ∈ X.ro) (hRk : ∀ k, k < 6 → isRk (RD k).1) {PostX : Option Value → va_W → Prop} (hX : Ok X cX11_together 2 RX11) (hq : Rq X 69 0 0 (some .int) PostX) {u : (Int32 × MS)} (hp : PostX (some (.int u.1)) (xW X.E ad Q kv u.2)) (a1 : Int32) (S : MS) (hf : f_X11_together RD a1 S = some u) : G X 2 0 0 0 [(0, .ref (ad 10)), (1, .int a1)] [] (xW X.E ad Q kv S) := by
  unfold f_X11_together at hf
  refine g_iloadn hX 1 rfl rfl dX11_together_0 ?_
  refine g_iconst hX (v := 1) (by decide) dX11_together_1 ?_
  refine g_icmp_lt hX 18 (by decide) dX11_together_2 (fun c1 => ?_) (fun c1 => ?_)
  · have hf := ite_t c1 hf
    refine g_lv [0] rfl ?_
    exact t_X11_together_18 hro hRk hX hq hp _ hf
  · have hf := ite_f c1 hf
    refine g_iloadn hX 1 rfl rfl dX11_together_5 ?_
    refine g_iconst hX (v := 1) (by decide) dX11_together_6 ?_
    refine g_aloadn hX 0 rfl rfl dX11_together_7 ?_
    refine xg_lift hX dX11_together_8 ?_
    refine xg_riderCount hX (v := S.2 6) rfl dX11_together_11 ?_
    refine g_jshl hX dX11_together_14 ?_
    refine g_icmp_lt hX 24 (by decide) dX11_together_15 (fun c5 => ?_) (fun c5 => ?_)
    · have hf := ite_t c5 hf
      refine g_aloadn hX 0 rfl rfl dX11_together_24 ?_
      refine xg_lift hX dX11_together_25 ?_
      refine g_iloadn hX 1 rfl rfl dX11_together_28 ?_
      obtain ⟨r8, S6, h7, hf⟩ := cb_open hf
      refine k4_X4_crowdFloor hro hX hq (c_X4_crowdFloor h7) (by decide) (by decide) (by decide) (Nat.le_of_ble_eq_true rfl) dX11_together_29 ?_
      obtain rfl := oi hf
      exact g_iret hX hq (by decide) (by decide) hp dX11_together_32
    · have hf := ite_f c5 hf
      refine g_lv [0] rfl ?_
      exact t_X11_together_18 hro hRk hX hq hp _ hf
theorem c_X11_together {l : Launch} {E : En} {ad Q : Nat → Nat} {kv : Value} {RD : Nat → Nat × Int32 × Int32 × Int32} (hRk : ∀ k, k < 6 → isRk (RD k).1) {a1 : Int32} {r : Int32} {S S2 : MS} (hf : f_X11_together RD a1 S = some (r, S2)) : CP l E yX11_together cX11_together 2 (some .int) 69 0 0 (roL Q RD) [.ref (ad 10), .int a1] (xW E ad Q kv S) (fun rv w => rv = some (.int r) ∧ w = xW E ad Q kv S2) :=
  CP.of (lv := [(0, .ref (ad 10)), (1, .int a1)]) (by decide +kernel) (Nat.le_of_ble_eq_true rfl) rfl (fun X hl hE hro hX hq hn => by subst hl; subst hE; exact t_X11_together_0 (fun z hz => by rw [hro]; exact hz) hRk hX hq ⟨rfl, rfl⟩ a1 S hf)
def f_X11_bestWith_17 (RD : Nat → Nat × Int32 × Int32 × Int32) (S : MS) : Option (Int32 × MS) :=
  cb (f_X11_error RD 1 S) fun r7 S5 =>
  some (r7, S5)
def f_X11_bestWith_114 (RD : Nat → Nat × Int32 × Int32 × Int32) (lp32 : Int32 → Int32 → Int32 → Int32 → Int32 → MS → Option (Int32 × MS)) (x1 : Int32) (x2 : Int32) (x3 : Int32) (x4 : Int32) (x5 : Int32) (S : MS) : Option (Int32 × MS) :=
  bI (x5 + 1) fun v22 =>
  lp32 x1 x2 x3 x4 v22 S
def f_X11_bestWith_107 (RD : Nat → Nat × Int32 × Int32 × Int32) (lp32 : Int32 → Int32 → Int32 → Int32 → Int32 → MS → Option (Int32 × MS)) (x1 : Int32) (x2 : Int32) (x5 : Int32) (x6 : Int32) (S : MS) : Option (Int32 × MS) :=
  f_X11_bestWith_114 RD lp32 x1 x2 x5 x6 x5 S
def f_X11_bestWith_86 (RD : Nat → Nat × Int32 × Int32 × Int32) (lp32 : Int32 → Int32 → Int32 → Int32 → Int32 → MS → Option (Int32 × MS)) (x1 : Int32) (x2 : Int32) (x3 : Int32) (x4 : Int32) (x5 : Int32) (x6 : Int32) (y0 : Int32) (S : MS) : Option (Int32 × MS) :=
  if (x4 < x6 : Prop) then
    f_X11_bestWith_107 RD lp32 x1 x2 x5 x6 S
  else
    if (x6 = x4 : Prop) then
      if (y0 = 0 : Prop) then
        f_X11_bestWith_114 RD lp32 x1 x2 x3 x4 x5 S
      else
        f_X11_bestWith_107 RD lp32 x1 x2 x5 x6 S
    else
      f_X11_bestWith_114 RD lp32 x1 x2 x3 x4 x5 S
def f_X11_bestWith_32 (RD : Nat → Nat × Int32 × Int32 × Int32) : Nat → Int32 → Int32 → Int32 → Int32 → Int32 → MS → Option (Int32 × MS)
  | 0 => fun _ _ _ _ _ _ => none
  | n + 1 => fun x1 x2 x3 x4 x5 S =>
    let lp32 := f_X11_bestWith_32 RD n
    if ((jshl 1 (S.2 6)) ≤ x5 : Prop) then
      if (x2 = 0 : Prop) then
        some (x3, S)
      else
        some (x4, S)
    else
      if (((jshr x5 x1) &&& 1) = 0 : Prop) then
        f_X11_bestWith_114 RD lp32 x1 x2 x3 x4 x5 S
      else
        cb (f_X4_crowdFloor RD x5 S) fun r15 S13 =>
        cs (f_J6_bitCount_0f7a4 x5) fun r16 =>
        cs (f_J6_bitCount_0f7a4 x3) fun r18 =>
        if (r18 ≤ r16 : Prop) then
          f_X11_bestWith_86 RD lp32 x1 x2 x3 x4 x5 r15 0 (sL S S13)
        else
          f_X11_bestWith_86 RD lp32 x1 x2 x3 x4 x5 r15 1 (sL S S13)
def f_X11_bestWith (RD : Nat → Nat × Int32 × Int32 × Int32) (a1 : Int32) (a2 : Int32) (S : MS) : Option (Int32 × MS) :=
  cb (f_X11_isRider RD a1 S) fun r3 S1 =>
  if (r3 = 0 : Prop) then
    f_X11_bestWith_17 RD S1
  else
    if (a2 < 0 : Prop) then
      f_X11_bestWith_17 RD S1
    else
      if (a2 ≤ 1 : Prop) then
        f_X11_bestWith_32 RD 100 a1 a2 0 (-2) 1 S1
      else
        f_X11_bestWith_17 RD S1
set_option maxRecDepth 100000 in
set_option maxHeartbeats 4000000 in
theorem t_X11_bestWith_17 {X : Cx} {ad Q : Nat → Nat} {kv : Value} {RD : Nat → Nat × Int32 × Int32 × Int32} (hro : ∀ z ∈ roL Q RD, z ∈ X.ro) (hRk : ∀ k, k < 6 → isRk (RD k).1) {PostX : Option Value → va_W → Prop} (hX : Ok X cX11_bestWith 8 RX11) (hq : Rq X 69 0 0 (some .int) PostX) {u : (Int32 × MS)} (hp : PostX (some (.int u.1)) (xW X.E ad Q kv u.2)) (S : MS) (hf : f_X11_bestWith_17 RD S = some u) : G X 8 0 0 17 [(0, .ref (ad 10))] [] (xW X.E ad Q kv S) := by
  unfold f_X11_bestWith_17 at hf
  refine g_aloadn hX 0 rfl rfl dX11_bestWith_17 ?_
  refine g_iconst hX (v := 1) (by decide) dX11_bestWith_18 ?_
  obtain ⟨r7, S5, h6, hf⟩ := cb_open hf
  refine k_X11_error hro hX hq (c_X11_error hRk h6) (by decide) (by decide) (by decide) (Nat.le_of_ble_eq_true rfl) dX11_bestWith_19 ?_
  obtain rfl := oi hf
  exact g_iret hX hq (by decide) (by decide) hp dX11_bestWith_22
set_option maxRecDepth 100000 in
set_option maxHeartbeats 4000000 in
theorem t_X11_bestWith_114 {X : Cx} {ad Q : Nat → Nat} {kv : Value} {RD : Nat → Nat × Int32 × Int32 × Int32} (hro : ∀ z ∈ roL Q RD, z ∈ X.ro) (hRk : ∀ k, k < 6 → isRk (RD k).1) {PostX : Option Value → va_W → Prop} (hX : Ok X cX11_bestWith 8 RX11) (hq : Rq X 69 0 0 (some .int) PostX) {u : (Int32 × MS)} (hp : PostX (some (.int u.1)) (xW X.E ad Q kv u.2)) {lp32 : Int32 → Int32 → Int32 → Int32 → Int32 → MS → Option (Int32 × MS)} (hlp32 : ∀ (x1 : Int32) (x2 : Int32) (x3 : Int32) (x4 : Int32) (x5 : Int32) (S : MS), lp32 x1 x2 x3 x4 x5 S = some u → G X 8 0 0 32 [(0, .ref (ad 10)), (1, .int x1), (2, .int x2), (3, .int x3), (4, .int x4), (5, .int x5)] [] (xW X.E ad Q kv S)) (x1 : Int32) (x2 : Int32) (x3 : Int32) (x4 : Int32) (x5 : Int32) (S : MS) (hf : f_X11_bestWith_114 RD lp32 x1 x2 x3 x4 x5 S = some u) : G X 8 0 0 114 [(0, .ref (ad 10)), (1, .int x1), (2, .int x2), (3, .int x3), (4, .int x4), (5, .int x5)] [] (xW X.E ad Q kv S) := by
  unfold f_X11_bestWith_114 at hf
  obtain ⟨v22, ev22, hf⟩ := bI_open hf
  refine g_iinc hX 5 (v := v22) [(5, .int v22), (0, .ref (ad 10)), (1, .int x1), (2, .int x2), (3, .int x3), (4, .int x4)] rfl (by rw [ev22]; rfl) (by decide) rfl dX11_bestWith_114 ?_
  refine g_goto hX 32 (by decide) dX11_bestWith_117 ?_
  refine g_lv [1, 2, 3, 4, 5, 0] rfl ?_
  exact hlp32 _ _ _ _ _ _ hf
set_option maxRecDepth 100000 in
set_option maxHeartbeats 4000000 in
theorem t_X11_bestWith_107 {X : Cx} {ad Q : Nat → Nat} {kv : Value} {RD : Nat → Nat × Int32 × Int32 × Int32} (hro : ∀ z ∈ roL Q RD, z ∈ X.ro) (hRk : ∀ k, k < 6 → isRk (RD k).1) {PostX : Option Value → va_W → Prop} (hX : Ok X cX11_bestWith 8 RX11) (hq : Rq X 69 0 0 (some .int) PostX) {u : (Int32 × MS)} (hp : PostX (some (.int u.1)) (xW X.E ad Q kv u.2)) {lp32 : Int32 → Int32 → Int32 → Int32 → Int32 → MS → Option (Int32 × MS)} (hlp32 : ∀ (x1 : Int32) (x2 : Int32) (x3 : Int32) (x4 : Int32) (x5 : Int32) (S : MS), lp32 x1 x2 x3 x4 x5 S = some u → G X 8 0 0 32 [(0, .ref (ad 10)), (1, .int x1), (2, .int x2), (3, .int x3), (4, .int x4), (5, .int x5)] [] (xW X.E ad Q kv S)) (x1 : Int32) (x2 : Int32) (x5 : Int32) (x6 : Int32) (S : MS) (hf : f_X11_bestWith_107 RD lp32 x1 x2 x5 x6 S = some u) : G X 8 0 0 107 [(0, .ref (ad 10)), (1, .int x1), (2, .int x2), (5, .int x5), (6, .int x6)] [] (xW X.E ad Q kv S) := by
  unfold f_X11_bestWith_107 at hf
  refine g_iload hX 3 rfl dX11_bestWith_107 ?_
  refine g_istoren hX [(3, .int x5), (0, .ref (ad 10)), (1, .int x1), (2, .int x2), (5, .int x5), (6, .int x6)] rfl (by decide) rfl dX11_bestWith_109 ?_
  refine g_iload hX 5 rfl dX11_bestWith_110 ?_
  refine g_istore hX [(4, .int x6), (3, .int x5), (0, .ref (ad 10)), (1, .int x1), (2, .int x2), (5, .int x5), (6, .int x6)] (by decide) rfl dX11_bestWith_112 ?_
  refine g_lv [2, 3, 4, 1, 0, 5] rfl ?_
  exact t_X11_bestWith_114 hro hRk hX hq hp hlp32 _ _ _ _ _ _ hf
set_option maxRecDepth 100000 in
set_option maxHeartbeats 4000000 in
theorem t_X11_bestWith_86 {X : Cx} {ad Q : Nat → Nat} {kv : Value} {RD : Nat → Nat × Int32 × Int32 × Int32} (hro : ∀ z ∈ roL Q RD, z ∈ X.ro) (hRk : ∀ k, k < 6 → isRk (RD k).1) {PostX : Option Value → va_W → Prop} (hX : Ok X cX11_bestWith 8 RX11) (hq : Rq X 69 0 0 (some .int) PostX) {u : (Int32 × MS)} (hp : PostX (some (.int u.1)) (xW X.E ad Q kv u.2)) {lp32 : Int32 → Int32 → Int32 → Int32 → Int32 → MS → Option (Int32 × MS)} (hlp32 : ∀ (x1 : Int32) (x2 : Int32) (x3 : Int32) (x4 : Int32) (x5 : Int32) (S : MS), lp32 x1 x2 x3 x4 x5 S = some u → G X 8 0 0 32 [(0, .ref (ad 10)), (1, .int x1), (2, .int x2), (3, .int x3), (4, .int x4), (5, .int x5)] [] (xW X.E ad Q kv S)) (x1 : Int32) (x2 : Int32) (x3 : Int32) (x4 : Int32) (x5 : Int32) (x6 : Int32) (y0 : Int32) (S : MS) (hf : f_X11_bestWith_86 RD lp32 x1 x2 x3 x4 x5 x6 y0 S = some u) : G X 8 0 0 86 [(0, .ref (ad 10)), (1, .int x1), (2, .int x2), (3, .int x3), (4, .int x4), (5, .int x5), (6, .int x6)] [.int y0] (xW X.E ad Q kv S) := by
  unfold f_X11_bestWith_86 at hf
  refine g_istore hX [(7, .int y0), (0, .ref (ad 10)), (1, .int x1), (2, .int x2), (3, .int x3), (4, .int x4), (5, .int x5), (6, .int x6)] (by decide) rfl dX11_bestWith_86 ?_
  refine g_iload hX 7 rfl dX11_bestWith_88 ?_
  refine g_iload hX 5 rfl dX11_bestWith_90 ?_
  refine g_icmp_gt hX 107 (by decide) dX11_bestWith_92 (fun c21 => ?_) (fun c21 => ?_)
  · have hf := ite_t c21 hf
    refine g_lv [1, 2, 3, 6, 7] rfl ?_
    exact t_X11_bestWith_107 hro hRk hX hq hp hlp32 _ _ _ _ _ hf
  · have hf := ite_f c21 hf
    refine g_iload hX 7 rfl dX11_bestWith_95 ?_
    refine g_iload hX 5 rfl dX11_bestWith_97 ?_
    refine g_icmp_ne hX 114 (by decide) dX11_bestWith_99 (fun c23 => ?_) (fun c23 => ?_)
    · have hf := ite_f c23 hf
      refine g_lv [1, 2, 3, 4, 5, 6] rfl ?_
      exact t_X11_bestWith_114 hro hRk hX hq hp hlp32 _ _ _ _ _ _ hf
    · have hf := ite_t c23 hf
      refine g_iload hX 0 rfl dX11_bestWith_102 ?_
      refine g_if_eq hX 114 (by decide) dX11_bestWith_104 (fun c24 => ?_) (fun c24 => ?_)
      · have hf := ite_t c24 hf
        refine g_lv [1, 2, 3, 4, 5, 6] rfl ?_
        exact t_X11_bestWith_114 hro hRk hX hq hp hlp32 _ _ _ _ _ _ hf
      · have hf := ite_f c24 hf
        refine g_lv [1, 2, 3, 6, 7] rfl ?_
        exact t_X11_bestWith_107 hro hRk hX hq hp hlp32 _ _ _ _ _ hf
set_option maxRecDepth 100000 in
set_option maxHeartbeats 4000000 in
theorem t_X11_bestWith_32 {X : Cx} {ad Q : Nat → Nat} {kv : Value} {RD : Nat → Nat × Int32 × Int32 × Int32} (hro : ∀ z ∈ roL Q RD, z ∈ X.ro) (hRk : ∀ k, k < 6 → isRk (RD k).1) {PostX : Option Value → va_W → Prop} (hX : Ok X cX11_bestWith 8 RX11) (hq : Rq X 69 0 0 (some .int) PostX) {u : (Int32 × MS)} (hp : PostX (some (.int u.1)) (xW X.E ad Q kv u.2)) : ∀ (n : Nat) (x1 : Int32) (x2 : Int32) (x3 : Int32) (x4 : Int32) (x5 : Int32) (S : MS), f_X11_bestWith_32 RD n x1 x2 x3 x4 x5 S = some u → G X 8 0 0 32 [(0, .ref (ad 10)), (1, .int x1), (2, .int x2), (3, .int x3), (4, .int x4), (5, .int x5)] [] (xW X.E ad Q kv S) := by
  intro n
  induction n with
  | zero => intro _ _ _ _ _ _ hf; unfold f_X11_bestWith_32 at hf; cases hf
  | succ n hlp32 =>
  intro x1 x2 x3 x4 x5 S hf
  unfold f_X11_bestWith_32 at hf
  refine g_iload hX 5 rfl dX11_bestWith_32 ?_
  refine g_iconst hX (v := 1) (by decide) dX11_bestWith_34 ?_
  refine g_aloadn hX 0 rfl rfl dX11_bestWith_35 ?_
  refine xg_lift hX dX11_bestWith_36 ?_
  refine xg_riderCount hX (v := S.2 6) rfl dX11_bestWith_39 ?_
  refine g_jshl hX dX11_bestWith_42 ?_
  refine g_icmp_ge hX 120 (by decide) dX11_bestWith_43 (fun c10 => ?_) (fun c10 => ?_)
  · have hf := ite_t c10 hf
    refine g_iloadn hX 2 rfl rfl dX11_bestWith_120 ?_
    refine g_if_ne hX 128 (by decide) dX11_bestWith_121 (fun c11 => ?_) (fun c11 => ?_)
    · have hf := ite_f c11 hf
      refine g_iload hX 4 rfl dX11_bestWith_128 ?_
      obtain rfl := oi hf
      exact g_iret hX hq (by decide) (by decide) hp dX11_bestWith_130
    · have hf := ite_t c11 hf
      refine g_iloadn hX 3 rfl rfl dX11_bestWith_124 ?_
      refine g_goto hX 130 (by decide) dX11_bestWith_125 ?_
      obtain rfl := oi hf
      exact g_iret hX hq (by decide) (by decide) hp dX11_bestWith_130
  · have hf := ite_f c10 hf
    refine g_iload hX 5 rfl dX11_bestWith_46 ?_
    refine g_iloadn hX 1 rfl rfl dX11_bestWith_48 ?_
    refine g_jshr hX dX11_bestWith_49 ?_
    refine g_iconst hX (v := 1) (by decide) dX11_bestWith_50 ?_
    refine g_iand hX dX11_bestWith_51 ?_
    refine g_if_ne hX 58 (by decide) dX11_bestWith_52 (fun c12 => ?_) (fun c12 => ?_)
    · have hf := ite_f c12 hf
      refine g_aloadn hX 0 rfl rfl dX11_bestWith_58 ?_
      refine xg_lift hX dX11_bestWith_59 ?_
      refine g_iload hX 5 rfl dX11_bestWith_62 ?_
      obtain ⟨r15, S13, h14, hf⟩ := cb_open hf
      refine k4_X4_crowdFloor hro hX hq (c_X4_crowdFloor h14) (by decide) (by decide) (by decide) (Nat.le_of_ble_eq_true rfl) dX11_bestWith_64 ?_
      refine g_istore hX [(6, .int r15), (0, .ref (ad 10)), (1, .int x1), (2, .int x2), (3, .int x3), (4, .int x4), (5, .int x5)] (by decide) rfl dX11_bestWith_67 ?_
      refine g_iload hX 6 rfl dX11_bestWith_69 ?_
      obtain ⟨r16, h17, hf⟩ := cs_open hf
      refine k_RX11_J6_bitCount_0f7a4 hX hq h17 (by decide) (by decide) (by decide) (Nat.le_of_ble_eq_true rfl) dX11_bestWith_71 ?_
      refine g_iloadn hX 4 rfl rfl dX11_bestWith_74 ?_
      obtain ⟨r18, h19, hf⟩ := cs_open hf
      refine k_RX11_J6_bitCount_0f7a4 hX hq h19 (by decide) (by decide) (by decide) (Nat.le_of_ble_eq_true rfl) dX11_bestWith_75 ?_
      refine g_icmp_ge hX 85 (by decide) dX11_bestWith_78 (fun c20 => ?_) (fun c20 => ?_)
      · have hf := ite_t c20 hf
        refine g_iconst hX (v := 0) (by decide) dX11_bestWith_85 ?_
        refine g_lv [1, 2, 3, 4, 5, 6, 0] rfl ?_
        exact t_X11_bestWith_86 hro hRk hX hq hp hlp32 _ _ _ _ _ _ _ _ hf
      · have hf := ite_f c20 hf
        refine g_iconst hX (v := 1) (by decide) dX11_bestWith_81 ?_
        refine g_goto hX 86 (by decide) dX11_bestWith_82 ?_
        refine g_lv [1, 2, 3, 4, 5, 6, 0] rfl ?_
        exact t_X11_bestWith_86 hro hRk hX hq hp hlp32 _ _ _ _ _ _ _ _ hf
    · have hf := ite_t c12 hf
      refine g_goto hX 114 (by decide) dX11_bestWith_55 ?_
      exact t_X11_bestWith_114 hro hRk hX hq hp hlp32 _ _ _ _ _ _ hf
set_option maxRecDepth 100000 in
set_option maxHeartbeats 4000000 in
theorem t_X11_bestWith_0 {X : Cx} {ad Q : Nat → Nat} {kv : Value} {RD : Nat → Nat × Int32 × Int32 × Int32} (hro : ∀ z ∈ roL Q RD, z ∈ X.ro) (hRk : ∀ k, k < 6 → isRk (RD k).1) {PostX : Option Value → va_W → Prop} (hX : Ok X cX11_bestWith 8 RX11) (hq : Rq X 69 0 0 (some .int) PostX) {u : (Int32 × MS)} (hp : PostX (some (.int u.1)) (xW X.E ad Q kv u.2)) (a1 : Int32) (a2 : Int32) (S : MS) (hf : f_X11_bestWith RD a1 a2 S = some u) : G X 8 0 0 0 [(0, .ref (ad 10)), (1, .int a1), (2, .int a2)] [] (xW X.E ad Q kv S) := by
  unfold f_X11_bestWith at hf
  refine g_aloadn hX 0 rfl rfl dX11_bestWith_0 ?_
  refine g_iloadn hX 1 rfl rfl dX11_bestWith_1 ?_
  obtain ⟨r3, S1, h2, hf⟩ := cb_open hf
  refine k_X11_isRider hro hX hq (c_X11_isRider hRk h2) (by decide) (by decide) (by decide) (Nat.le_of_ble_eq_true rfl) dX11_bestWith_2 ?_
  refine g_if_eq hX 17 (by decide) dX11_bestWith_5 (fun c4 => ?_) (fun c4 => ?_)
  · have hf := ite_t c4 hf
    refine g_lv [0] rfl ?_
    exact t_X11_bestWith_17 hro hRk hX hq hp _ hf
  · have hf := ite_f c4 hf
    refine g_iloadn hX 2 rfl rfl dX11_bestWith_8 ?_
    refine g_if_lt hX 17 (by decide) dX11_bestWith_9 (fun c8 => ?_) (fun c8 => ?_)
    · have hf := ite_t c8 hf
      refine g_lv [0] rfl ?_
      exact t_X11_bestWith_17 hro hRk hX hq hp _ hf
    · have hf := ite_f c8 hf
      refine g_iloadn hX 2 rfl rfl dX11_bestWith_12 ?_
      refine g_iconst hX (v := 1) (by decide) dX11_bestWith_13 ?_
      refine g_icmp_le hX 23 (by decide) dX11_bestWith_14 (fun c9 => ?_) (fun c9 => ?_)
      · have hf := ite_t c9 hf
        refine g_iconst hX (v := 0) (by decide) dX11_bestWith_23 ?_
        refine g_istoren hX [(3, .int 0), (0, .ref (ad 10)), (1, .int a1), (2, .int a2)] rfl (by decide) rfl dX11_bestWith_24 ?_
        refine g_bipush hX (v := (-2)) (by decide) dX11_bestWith_25 ?_
        refine g_istore hX [(4, .int (-2)), (3, .int 0), (0, .ref (ad 10)), (1, .int a1), (2, .int a2)] (by decide) rfl dX11_bestWith_27 ?_
        refine g_iconst hX (v := 1) (by decide) dX11_bestWith_29 ?_
        refine g_istore hX [(5, .int 1), (4, .int (-2)), (3, .int 0), (0, .ref (ad 10)), (1, .int a1), (2, .int a2)] (by decide) rfl dX11_bestWith_30 ?_
        refine g_lv [3, 4, 5, 2, 1, 0] rfl ?_
        exact t_X11_bestWith_32 hro hRk hX hq hp _ _ _ _ _ _ _ hf
      · have hf := ite_f c9 hf
        refine g_lv [0] rfl ?_
        exact t_X11_bestWith_17 hro hRk hX hq hp _ hf
theorem c_X11_bestWith {l : Launch} {E : En} {ad Q : Nat → Nat} {kv : Value} {RD : Nat → Nat × Int32 × Int32 × Int32} (hRk : ∀ k, k < 6 → isRk (RD k).1) {a1 : Int32} {a2 : Int32} {r : Int32} {S S2 : MS} (hf : f_X11_bestWith RD a1 a2 S = some (r, S2)) : CP l E yX11_bestWith cX11_bestWith 8 (some .int) 69 0 0 (roL Q RD) [.ref (ad 10), .int a1, .int a2] (xW E ad Q kv S) (fun rv w => rv = some (.int r) ∧ w = xW E ad Q kv S2) :=
  CP.of (lv := [(0, .ref (ad 10)), (1, .int a1), (2, .int a2)]) (by decide +kernel) (Nat.le_of_ble_eq_true rfl) rfl (fun X hl hE hro hX hq hn => by subst hl; subst hE; exact t_X11_bestWith_0 (fun z hz => by rw [hro]; exact hz) hRk hX hq ⟨rfl, rfl⟩ a1 a2 S hf)
def f_X11_shortestOf_72 (RD : Nat → Nat × Int32 × Int32 × Int32) (lp13 : Int32 → Int32 → Int32 → Int32 → Int32 → Int32 → Int32 → MS → Option (Int32 × MS)) (x1 : Int32) (x2 : Int32) (x3 : Int32) (x4 : Int32) (x5 : Int32) (x6 : Int32) (x7 : Int32) (S : MS) : Option (Int32 × MS) :=
  cs (f_X11_next x6) fun r9 =>
  bI (x7 + 1) fun v11 =>
  lp13 x1 x2 x3 x4 x5 r9 v11 S
def f_X11_shortestOf_13 (RD : Nat → Nat × Int32 × Int32 × Int32) : Nat → Int32 → Int32 → Int32 → Int32 → Int32 → Int32 → Int32 → MS → Option (Int32 × MS)
  | 0 => fun _ _ _ _ _ _ _ _ => none
  | n + 1 => fun x1 x2 x3 x4 x5 x6 x7 S =>
    let lp13 := f_X11_shortestOf_13 RD n
    if (6561 ≤ x7 : Prop) then
      if (0 ≤ x4 : Prop) then
        some (x4, S)
      else
        cb (f_X11_error RD 2 S) fun r5 S3 =>
        some (r5, S3)
    else
      cs (f_J6_bitCount_0f7a4 x6) fun r6 =>
      if (x5 ≤ r6 : Prop) then
        f_X11_shortestOf_72 RD lp13 x1 x2 x3 x4 x5 x6 x7 S
      else
        cs (f_X11_isWithin x6 x3) fun r12 =>
        if (r12 = 0 : Prop) then
          f_X11_shortestOf_72 RD lp13 x1 x2 x3 x4 x5 x6 x7 S
        else
          cb (f_X4_floor RD x1 x6 (S.2 0) S) fun r17 S15 =>
          if (r17 < x2 : Prop) then
            f_X11_shortestOf_72 RD lp13 x1 x2 x3 x4 x5 x6 x7 (sL S S15)
          else
            cs (f_J6_bitCount_0f7a4 x6) fun r19 =>
            f_X11_shortestOf_72 RD lp13 x1 x2 x3 x7 r19 x6 x7 (sL S S15)
def f_X11_shortestOf (RD : Nat → Nat × Int32 × Int32 × Int32) (a1 : Int32) (a2 : Int32) (a3 : Int32) (S : MS) : Option (Int32 × MS) :=
  f_X11_shortestOf_13 RD 7000 a1 a2 a3 (-1) 9 0 0 S
set_option maxRecDepth 100000 in
set_option maxHeartbeats 4000000 in
theorem t_X11_shortestOf_72 {X : Cx} {ad Q : Nat → Nat} {kv : Value} {RD : Nat → Nat × Int32 × Int32 × Int32} (hro : ∀ z ∈ roL Q RD, z ∈ X.ro) (hRk : ∀ k, k < 6 → isRk (RD k).1) {PostX : Option Value → va_W → Prop} (hX : Ok X cX11_shortestOf 8 RX11) (hq : Rq X 6 0 0 (some .int) PostX) {u : (Int32 × MS)} (hp : PostX (some (.int u.1)) (xW X.E ad Q kv u.2)) {lp13 : Int32 → Int32 → Int32 → Int32 → Int32 → Int32 → Int32 → MS → Option (Int32 × MS)} (hlp13 : ∀ (x1 : Int32) (x2 : Int32) (x3 : Int32) (x4 : Int32) (x5 : Int32) (x6 : Int32) (x7 : Int32) (S : MS), lp13 x1 x2 x3 x4 x5 x6 x7 S = some u → G X 8 0 0 13 [(0, .ref (ad 10)), (1, .int x1), (2, .int x2), (3, .int x3), (4, .int x4), (5, .int x5), (6, .int x6), (7, .int x7)] [] (xW X.E ad Q kv S)) (x1 : Int32) (x2 : Int32) (x3 : Int32) (x4 : Int32) (x5 : Int32) (x6 : Int32) (x7 : Int32) (S : MS) (hf : f_X11_shortestOf_72 RD lp13 x1 x2 x3 x4 x5 x6 x7 S = some u) : G X 8 0 0 72 [(0, .ref (ad 10)), (1, .int x1), (2, .int x2), (3, .int x3), (4, .int x4), (5, .int x5), (6, .int x6), (7, .int x7)] [] (xW X.E ad Q kv S) := by
  unfold f_X11_shortestOf_72 at hf
  refine g_iload hX 6 rfl dX11_shortestOf_72 ?_
  obtain ⟨r9, h10, hf⟩ := cs_open hf
  refine k_RX11_X11_next hX hq h10 (by decide) (by decide) (by decide) (Nat.le_of_ble_eq_true rfl) dX11_shortestOf_74 ?_
  refine g_istore hX [(6, .int r9), (0, .ref (ad 10)), (1, .int x1), (2, .int x2), (3, .int x3), (4, .int x4), (5, .int x5), (7, .int x7)] (by decide) rfl dX11_shortestOf_77 ?_
  obtain ⟨v11, ev11, hf⟩ := bI_open hf
  refine g_iinc hX 7 (v := v11) [(7, .int v11), (6, .int r9), (0, .ref (ad 10)), (1, .int x1), (2, .int x2), (3, .int x3), (4, .int x4), (5, .int x5)] rfl (by rw [ev11]; rfl) (by decide) rfl dX11_shortestOf_79 ?_
  refine g_goto hX 13 (by decide) dX11_shortestOf_82 ?_
  refine g_lv [2, 3, 4, 5, 6, 7, 1, 0] rfl ?_
  exact hlp13 _ _ _ _ _ _ _ _ hf
set_option maxRecDepth 100000 in
set_option maxHeartbeats 4000000 in
theorem t_X11_shortestOf_13 {X : Cx} {ad Q : Nat → Nat} {kv : Value} {RD : Nat → Nat × Int32 × Int32 × Int32} (hro : ∀ z ∈ roL Q RD, z ∈ X.ro) (hRk : ∀ k, k < 6 → isRk (RD k).1) {PostX : Option Value → va_W → Prop} (hX : Ok X cX11_shortestOf 8 RX11) (hq : Rq X 6 0 0 (some .int) PostX) {u : (Int32 × MS)} (hp : PostX (some (.int u.1)) (xW X.E ad Q kv u.2)) : ∀ (n : Nat) (x1 : Int32) (x2 : Int32) (x3 : Int32) (x4 : Int32) (x5 : Int32) (x6 : Int32) (x7 : Int32) (S : MS), f_X11_shortestOf_13 RD n x1 x2 x3 x4 x5 x6 x7 S = some u → G X 8 0 0 13 [(0, .ref (ad 10)), (1, .int x1), (2, .int x2), (3, .int x3), (4, .int x4), (5, .int x5), (6, .int x6), (7, .int x7)] [] (xW X.E ad Q kv S) := by
  intro n
  induction n with
  | zero => intro _ _ _ _ _ _ _ _ hf; unfold f_X11_shortestOf_13 at hf; cases hf
  | succ n hlp13 =>
  intro x1 x2 x3 x4 x5 x6 x7 S hf
  unfold f_X11_shortestOf_13 at hf
  refine g_iload hX 7 rfl dX11_shortestOf_13 ?_
  refine g_sipush hX (v := 6561) (by decide) dX11_shortestOf_15 ?_
  refine g_icmp_ge hX 85 (by decide) dX11_shortestOf_18 (fun c1 => ?_) (fun c1 => ?_)
  · have hf := ite_t c1 hf
    refine g_iload hX 4 rfl dX11_shortestOf_85 ?_
    refine g_if_ge hX 98 (by decide) dX11_shortestOf_87 (fun c2 => ?_) (fun c2 => ?_)
    · have hf := ite_t c2 hf
      refine g_iload hX 4 rfl dX11_shortestOf_98 ?_
      obtain rfl := oi hf
      exact g_iret hX hq (by decide) (by decide) hp dX11_shortestOf_100
    · have hf := ite_f c2 hf
      refine g_aloadn hX 0 rfl rfl dX11_shortestOf_90 ?_
      refine g_iconst hX (v := 2) (by decide) dX11_shortestOf_91 ?_
      obtain ⟨r5, S3, h4, hf⟩ := cb_open hf
      refine k_X11_error hro hX hq (c_X11_error hRk h4) (by decide) (by decide) (by decide) (Nat.le_of_ble_eq_true rfl) dX11_shortestOf_92 ?_
      refine g_goto hX 100 (by decide) dX11_shortestOf_95 ?_
      obtain rfl := oi hf
      exact g_iret hX hq (by decide) (by decide) hp dX11_shortestOf_100
  · have hf := ite_f c1 hf
    refine g_iload hX 6 rfl dX11_shortestOf_21 ?_
    obtain ⟨r6, h7, hf⟩ := cs_open hf
    refine k_RX11_J6_bitCount_0f7a4 hX hq h7 (by decide) (by decide) (by decide) (Nat.le_of_ble_eq_true rfl) dX11_shortestOf_23 ?_
    refine g_iload hX 5 rfl dX11_shortestOf_26 ?_
    refine g_icmp_ge hX 72 (by decide) dX11_shortestOf_28 (fun c8 => ?_) (fun c8 => ?_)
    · have hf := ite_t c8 hf
      exact t_X11_shortestOf_72 hro hRk hX hq hp hlp13 _ _ _ _ _ _ _ _ hf
    · have hf := ite_f c8 hf
      refine g_iload hX 6 rfl dX11_shortestOf_31 ?_
      refine g_iloadn hX 3 rfl rfl dX11_shortestOf_33 ?_
      obtain ⟨r12, h13, hf⟩ := cs_open hf
      refine k_RX11_X11_isWithin hX hq h13 (by decide) (by decide) (by decide) (Nat.le_of_ble_eq_true rfl) dX11_shortestOf_34 ?_
      refine g_if_eq hX 72 (by decide) dX11_shortestOf_37 (fun c14 => ?_) (fun c14 => ?_)
      · have hf := ite_t c14 hf
        exact t_X11_shortestOf_72 hro hRk hX hq hp hlp13 _ _ _ _ _ _ _ _ hf
      · have hf := ite_f c14 hf
        refine g_aloadn hX 0 rfl rfl dX11_shortestOf_40 ?_
        refine xg_lift hX dX11_shortestOf_41 ?_
        refine g_iloadn hX 1 rfl rfl dX11_shortestOf_44 ?_
        refine g_iload hX 6 rfl dX11_shortestOf_45 ?_
        refine g_aloadn hX 0 rfl rfl dX11_shortestOf_47 ?_
        refine xg_lift hX dX11_shortestOf_48 ?_
        refine xg_heard hX (v := S.2 0) rfl dX11_shortestOf_51 ?_
        obtain ⟨r17, S15, h16, hf⟩ := cb_open hf
        refine k4_X4_floor hro hX hq (c_X4_floor h16) (by decide) (by decide) (by decide) (Nat.le_of_ble_eq_true rfl) dX11_shortestOf_54 ?_
        refine g_iloadn hX 2 rfl rfl dX11_shortestOf_57 ?_
        refine g_icmp_lt hX 72 (by decide) dX11_shortestOf_58 (fun c18 => ?_) (fun c18 => ?_)
        · have hf := ite_t c18 hf
          exact t_X11_shortestOf_72 hro hRk hX hq hp hlp13 _ _ _ _ _ _ _ _ hf
        · have hf := ite_f c18 hf
          refine g_iload hX 7 rfl dX11_shortestOf_61 ?_
          refine g_istore hX [(4, .int x7), (0, .ref (ad 10)), (1, .int x1), (2, .int x2), (3, .int x3), (5, .int x5), (6, .int x6), (7, .int x7)] (by decide) rfl dX11_shortestOf_63 ?_
          refine g_iload hX 6 rfl dX11_shortestOf_65 ?_
          obtain ⟨r19, h20, hf⟩ := cs_open hf
          refine k_RX11_J6_bitCount_0f7a4 hX hq h20 (by decide) (by decide) (by decide) (Nat.le_of_ble_eq_true rfl) dX11_shortestOf_67 ?_
          refine g_istore hX [(5, .int r19), (4, .int x7), (0, .ref (ad 10)), (1, .int x1), (2, .int x2), (3, .int x3), (6, .int x6), (7, .int x7)] (by decide) rfl dX11_shortestOf_70 ?_
          refine g_lv [2, 3, 4, 5, 1, 0, 6, 7] rfl ?_
          exact t_X11_shortestOf_72 hro hRk hX hq hp hlp13 _ _ _ _ _ _ _ _ hf
set_option maxRecDepth 100000 in
set_option maxHeartbeats 4000000 in
theorem t_X11_shortestOf_0 {X : Cx} {ad Q : Nat → Nat} {kv : Value} {RD : Nat → Nat × Int32 × Int32 × Int32} (hro : ∀ z ∈ roL Q RD, z ∈ X.ro) (hRk : ∀ k, k < 6 → isRk (RD k).1) {PostX : Option Value → va_W → Prop} (hX : Ok X cX11_shortestOf 8 RX11) (hq : Rq X 6 0 0 (some .int) PostX) {u : (Int32 × MS)} (hp : PostX (some (.int u.1)) (xW X.E ad Q kv u.2)) (a1 : Int32) (a2 : Int32) (a3 : Int32) (S : MS) (hf : f_X11_shortestOf RD a1 a2 a3 S = some u) : G X 8 0 0 0 [(0, .ref (ad 10)), (1, .int a1), (2, .int a2), (3, .int a3)] [] (xW X.E ad Q kv S) := by
  unfold f_X11_shortestOf at hf
  refine g_iconst hX (v := (-1)) (by decide) dX11_shortestOf_0 ?_
  refine g_istore hX [(4, .int (-1)), (0, .ref (ad 10)), (1, .int a1), (2, .int a2), (3, .int a3)] (by decide) rfl dX11_shortestOf_1 ?_
  refine g_bipush hX (v := 9) (by decide) dX11_shortestOf_3 ?_
  refine g_istore hX [(5, .int 9), (4, .int (-1)), (0, .ref (ad 10)), (1, .int a1), (2, .int a2), (3, .int a3)] (by decide) rfl dX11_shortestOf_5 ?_
  refine g_iconst hX (v := 0) (by decide) dX11_shortestOf_7 ?_
  refine g_istore hX [(6, .int 0), (5, .int 9), (4, .int (-1)), (0, .ref (ad 10)), (1, .int a1), (2, .int a2), (3, .int a3)] (by decide) rfl dX11_shortestOf_8 ?_
  refine g_iconst hX (v := 0) (by decide) dX11_shortestOf_10 ?_
  refine g_istore hX [(7, .int 0), (6, .int 0), (5, .int 9), (4, .int (-1)), (0, .ref (ad 10)), (1, .int a1), (2, .int a2), (3, .int a3)] (by decide) rfl dX11_shortestOf_11 ?_
  refine g_lv [4, 5, 6, 7, 3, 2, 1, 0] rfl ?_
  exact t_X11_shortestOf_13 hro hRk hX hq hp _ _ _ _ _ _ _ _ _ hf
theorem c_X11_shortestOf {l : Launch} {E : En} {ad Q : Nat → Nat} {kv : Value} {RD : Nat → Nat × Int32 × Int32 × Int32} (hRk : ∀ k, k < 6 → isRk (RD k).1) {a1 : Int32} {a2 : Int32} {a3 : Int32} {r : Int32} {S S2 : MS} (hf : f_X11_shortestOf RD a1 a2 a3 S = some (r, S2)) : CP l E yX11_shortestOf cX11_shortestOf 8 (some .int) 6 0 0 (roL Q RD) [.ref (ad 10), .int a1, .int a2, .int a3] (xW E ad Q kv S) (fun rv w => rv = some (.int r) ∧ w = xW E ad Q kv S2) :=
  CP.of (lv := [(0, .ref (ad 10)), (1, .int a1), (2, .int a2), (3, .int a3)]) (by decide +kernel) (Nat.le_of_ble_eq_true rfl) rfl (fun X hl hE hro hX hq hn => by subst hl; subst hE; exact t_X11_shortestOf_0 (fun z hz => by rw [hro]; exact hz) hRk hX hq ⟨rfl, rfl⟩ a1 a2 a3 S hf)
theorem kw_RX11_X11_shortestOf : KwV RX11 188 RX11 yX11_shortestOf cX11_shortestOf 8 (some .int) 3 := ⟨mem_wsV wd_3_224 wd_3_226 wd_s_13 wd_1_1 wd_3_227, rfl, ⟨by decide +kernel, by decide +kernel, by decide +kernel⟩, by decide⟩
theorem k_X11_shortestOf {X : Cx} {cc : ByteArray} {nL ce sl pc : Nat} {lv : List (Nat × Value)} {st : List Value} {dX mcX msX : Nat} {retX : Option FieldType} {PostX : Option Value → va_W → Prop} {ad Q : Nat → Nat} {kv : Value} {RD : Nat → Nat × Int32 × Int32 × Int32} {S S2 : MS} {d : Nat} (hro : ∀ z ∈ roL Q RD, z ∈ X.ro) (hX : Ok X cc nL RX11) (hq : Rq X dX mcX msX retX PostX) {a1 : Int32} {a2 : Int32} {a3 : Int32} {r : Int32} (hM : CP X.l X.E yX11_shortestOf cX11_shortestOf 8 (some .int) d 0 0 (roL Q RD) [.ref (ad 10), .int a1, .int a2, .int a3] (xW X.E ad Q kv S) (fun rv w => rv = some (.int r) ∧ w = xW X.E ad Q kv S2)) (hd : d < dX) (hc : ce ≤ mcX) (hs : sl ≤ msX) (hcat : (st.map fun v => v.category).sum ≤ 8) (hdg : decode cc pc = .ok (.invokevirtual 188, 3)) (kk : G X nL ce sl (pc + 3) lv (.int r :: st) (xW X.E ad Q kv S2)) : G X nL ce sl pc lv (.int a3 :: .int a2 :: .int a1 :: .ref (ad 10) :: st) (xW X.E ad Q kv S) :=
  g_eqW (app1 _) (g_callV (pre := []) (mid := xW X.E ad Q kv S) (post := []) [.int a1, .int a2, .int a3] hX hq kw_RX11_X11_shortestOf hM hro hd hc hs rfl (Recv.of 10 11 rfl rfl) rfl hcat hdg (fun rv ws2 hp => by obtain ⟨rfl, rfl⟩ := hp; exact g_eqW (app1 _).symm kk))
def f_X11_shortest_15 (RD : Nat → Nat × Int32 × Int32 × Int32) (S : MS) : Option (Int32 × MS) :=
  cb (f_X11_error RD 1 S) fun r7 S5 =>
  some (r7, S5)
def f_X11_shortest (RD : Nat → Nat × Int32 × Int32 × Int32) (a1 : Int32) (a2 : Int32) (S : MS) : Option (Int32 × MS) :=
  cb (f_X11_isRider RD a1 S) fun r3 S1 =>
  if (r3 = 0 : Prop) then
    f_X11_shortest_15 RD S1
  else
    cs (f_X11_isGoal a2) fun r8 =>
    if (r8 = 0 : Prop) then
      f_X11_shortest_15 RD S1
    else
      cs (f_X11_bothWays 255) fun r11 =>
      cb (f_X11_shortestOf RD a1 a2 r11 S1) fun r15 S13 =>
      some (r15, S13)
set_option maxRecDepth 100000 in
set_option maxHeartbeats 4000000 in
theorem t_X11_shortest_15 {X : Cx} {ad Q : Nat → Nat} {kv : Value} {RD : Nat → Nat × Int32 × Int32 × Int32} (hro : ∀ z ∈ roL Q RD, z ∈ X.ro) (hRk : ∀ k, k < 6 → isRk (RD k).1) {PostX : Option Value → va_W → Prop} (hX : Ok X cX11_shortest 3 RX11) (hq : Rq X 7 0 0 (some .int) PostX) {u : (Int32 × MS)} (hp : PostX (some (.int u.1)) (xW X.E ad Q kv u.2)) (S : MS) (hf : f_X11_shortest_15 RD S = some u) : G X 3 0 0 15 [(0, .ref (ad 10))] [] (xW X.E ad Q kv S) := by
  unfold f_X11_shortest_15 at hf
  refine g_aloadn hX 0 rfl rfl dX11_shortest_15 ?_
  refine g_iconst hX (v := 1) (by decide) dX11_shortest_16 ?_
  obtain ⟨r7, S5, h6, hf⟩ := cb_open hf
  refine k_X11_error hro hX hq (c_X11_error hRk h6) (by decide) (by decide) (by decide) (Nat.le_of_ble_eq_true rfl) dX11_shortest_17 ?_
  obtain rfl := oi hf
  exact g_iret hX hq (by decide) (by decide) hp dX11_shortest_20
set_option maxRecDepth 100000 in
set_option maxHeartbeats 4000000 in
theorem t_X11_shortest_0 {X : Cx} {ad Q : Nat → Nat} {kv : Value} {RD : Nat → Nat × Int32 × Int32 × Int32} (hro : ∀ z ∈ roL Q RD, z ∈ X.ro) (hRk : ∀ k, k < 6 → isRk (RD k).1) {PostX : Option Value → va_W → Prop} (hX : Ok X cX11_shortest 3 RX11) (hq : Rq X 7 0 0 (some .int) PostX) {u : (Int32 × MS)} (hp : PostX (some (.int u.1)) (xW X.E ad Q kv u.2)) (a1 : Int32) (a2 : Int32) (S : MS) (hf : f_X11_shortest RD a1 a2 S = some u) : G X 3 0 0 0 [(0, .ref (ad 10)), (1, .int a1), (2, .int a2)] [] (xW X.E ad Q kv S) := by
  unfold f_X11_shortest at hf
  refine g_aloadn hX 0 rfl rfl dX11_shortest_0 ?_
  refine g_iloadn hX 1 rfl rfl dX11_shortest_1 ?_
  obtain ⟨r3, S1, h2, hf⟩ := cb_open hf
  refine k_X11_isRider hro hX hq (c_X11_isRider hRk h2) (by decide) (by decide) (by decide) (Nat.le_of_ble_eq_true rfl) dX11_shortest_2 ?_
  refine g_if_eq hX 15 (by decide) dX11_shortest_5 (fun c4 => ?_) (fun c4 => ?_)
  · have hf := ite_t c4 hf
    refine g_lv [0] rfl ?_
    exact t_X11_shortest_15 hro hRk hX hq hp _ hf
  · have hf := ite_f c4 hf
    refine g_iloadn hX 2 rfl rfl dX11_shortest_8 ?_
    obtain ⟨r8, h9, hf⟩ := cs_open hf
    refine k_RX11_X11_isGoal hX hq h9 (by decide) (by decide) (by decide) (Nat.le_of_ble_eq_true rfl) dX11_shortest_9 ?_
    refine g_if_ne hX 21 (by decide) dX11_shortest_12 (fun c10 => ?_) (fun c10 => ?_)
    · have hf := ite_f c10 hf
      refine g_aloadn hX 0 rfl rfl dX11_shortest_21 ?_
      refine g_iloadn hX 1 rfl rfl dX11_shortest_22 ?_
      refine g_iloadn hX 2 rfl rfl dX11_shortest_23 ?_
      refine g_sipush hX (v := 255) (by decide) dX11_shortest_24 ?_
      obtain ⟨r11, h12, hf⟩ := cs_open hf
      refine k_RX11_X11_bothWays hX hq h12 (by decide) (by decide) (by decide) (Nat.le_of_ble_eq_true rfl) dX11_shortest_27 ?_
      obtain ⟨r15, S13, h14, hf⟩ := cb_open hf
      refine k_X11_shortestOf hro hX hq (c_X11_shortestOf hRk h14) (by decide) (by decide) (by decide) (Nat.le_of_ble_eq_true rfl) dX11_shortest_30 ?_
      obtain rfl := oi hf
      exact g_iret hX hq (by decide) (by decide) hp dX11_shortest_33
    · have hf := ite_t c10 hf
      refine g_lv [0] rfl ?_
      exact t_X11_shortest_15 hro hRk hX hq hp _ hf
theorem c_X11_shortest {l : Launch} {E : En} {ad Q : Nat → Nat} {kv : Value} {RD : Nat → Nat × Int32 × Int32 × Int32} (hRk : ∀ k, k < 6 → isRk (RD k).1) {a1 : Int32} {a2 : Int32} {r : Int32} {S S2 : MS} (hf : f_X11_shortest RD a1 a2 S = some (r, S2)) : CP l E yX11_shortest cX11_shortest 3 (some .int) 7 0 0 (roL Q RD) [.ref (ad 10), .int a1, .int a2] (xW E ad Q kv S) (fun rv w => rv = some (.int r) ∧ w = xW E ad Q kv S2) :=
  CP.of (lv := [(0, .ref (ad 10)), (1, .int a1), (2, .int a2)]) (by decide +kernel) (Nat.le_of_ble_eq_true rfl) rfl (fun X hl hE hro hX hq hn => by subst hl; subst hE; exact t_X11_shortest_0 (fun z hz => by rw [hro]; exact hz) hRk hX hq ⟨rfl, rfl⟩ a1 a2 S hf)

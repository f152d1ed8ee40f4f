def f_X11_truest_15 (RD : Nat → Nat × Int32 × Int32 × Int32) (S : MS) : Option (Int32 × MS) :=
  cb (f_X11_error RD 1 S) fun r7 S5 =>
  some (r7, S5)
def f_X11_truest (RD : Nat → Nat × Int32 × Int32 × Int32) (a1 : Int32) (a2 : Int32) (S : MS) : Option (Int32 × MS) :=
  cb (f_X11_isRider RD a1 S) fun r3 S1 =>
  if (r3 = 0 : Prop) then
    f_X11_truest_15 RD S1
  else
    cs (f_X11_isGoal a2) fun r8 =>
    if (r8 = 0 : Prop) then
      f_X11_truest_15 RD S1
    else
      cs (f_X11_truth (S1.2 1)) fun r11 =>
      cb (f_X11_shortestOf RD a1 a2 r11 S1) fun r15 S13 =>
      some (r15, S13)
set_option maxRecDepth 100000 in
set_option maxHeartbeats 4000000 in
theorem t_X11_truest_15 {X : Cx} {ad Q : Nat → Nat} {kv : Value} {RD : Nat → Nat × Int32 × Int32 × Int32} (hro : ∀ z ∈ roL Q RD, z ∈ X.ro) (hRk : ∀ k, k < 6 → isRk (RD k).1) {PostX : Option Value → va_W → Prop} (hX : Ok X cX11_truest 3 RX11) (hq : Rq X 7 0 0 (some .int) PostX) {u : (Int32 × MS)} (hp : PostX (some (.int u.1)) (xW X.E ad Q kv u.2)) (S : MS) (hf : f_X11_truest_15 RD S = some u) : G X 3 0 0 15 [(0, .ref (ad 10))] [] (xW X.E ad Q kv S) := by
  unfold f_X11_truest_15 at hf
  refine g_aloadn hX 0 rfl rfl dX11_truest_15 ?_
  refine g_iconst hX (v := 1) (by decide) dX11_truest_16 ?_
  obtain ⟨r7, S5, h6, hf⟩ := cb_open hf
  refine k_X11_error hro hX hq (c_X11_error hRk h6) (by decide) (by decide) (by decide) (Nat.le_of_ble_eq_true rfl) dX11_truest_17 ?_
  obtain rfl := oi hf
  exact g_iret hX hq (by decide) (by decide) hp dX11_truest_20
set_option maxRecDepth 100000 in
set_option maxHeartbeats 4000000 in
theorem t_X11_truest_0 {X : Cx} {ad Q : Nat → Nat} {kv : Value} {RD : Nat → Nat × Int32 × Int32 × Int32} (hro : ∀ z ∈ roL Q RD, z ∈ X.ro) (hRk : ∀ k, k < 6 → isRk (RD k).1) {PostX : Option Value → va_W → Prop} (hX : Ok X cX11_truest 3 RX11) (hq : Rq X 7 0 0 (some .int) PostX) {u : (Int32 × MS)} (hp : PostX (some (.int u.1)) (xW X.E ad Q kv u.2)) (a1 : Int32) (a2 : Int32) (S : MS) (hf : f_X11_truest RD a1 a2 S = some u) : G X 3 0 0 0 [(0, .ref (ad 10)), (1, .int a1), (2, .int a2)] [] (xW X.E ad Q kv S) := by
  unfold f_X11_truest at hf
  refine g_aloadn hX 0 rfl rfl dX11_truest_0 ?_
  refine g_iloadn hX 1 rfl rfl dX11_truest_1 ?_
  obtain ⟨r3, S1, h2, hf⟩ := cb_open hf
  refine k_X11_isRider hro hX hq (c_X11_isRider hRk h2) (by decide) (by decide) (by decide) (Nat.le_of_ble_eq_true rfl) dX11_truest_2 ?_
  refine g_if_eq hX 15 (by decide) dX11_truest_5 (fun c4 => ?_) (fun c4 => ?_)
  · have hf := ite_t c4 hf
    refine g_lv [0] rfl ?_
    exact t_X11_truest_15 hro hRk hX hq hp _ hf
  · have hf := ite_f c4 hf
    refine g_iloadn hX 2 rfl rfl dX11_truest_8 ?_
    obtain ⟨r8, h9, hf⟩ := cs_open hf
    refine k_RX11_X11_isGoal hX hq h9 (by decide) (by decide) (by decide) (Nat.le_of_ble_eq_true rfl) dX11_truest_9 ?_
    refine g_if_ne hX 21 (by decide) dX11_truest_12 (fun c10 => ?_) (fun c10 => ?_)
    · have hf := ite_f c10 hf
      refine g_aloadn hX 0 rfl rfl dX11_truest_21 ?_
      refine g_iloadn hX 1 rfl rfl dX11_truest_22 ?_
      refine g_iloadn hX 2 rfl rfl dX11_truest_23 ?_
      refine g_aloadn hX 0 rfl rfl dX11_truest_24 ?_
      refine xg_lift hX dX11_truest_25 ?_
      refine xg_world hX (v := S1.2 1) rfl dX11_truest_28 ?_
      obtain ⟨r11, h12, hf⟩ := cs_open hf
      refine k_RX11_X11_truth hX hq h12 (by decide) (by decide) (by decide) (Nat.le_of_ble_eq_true rfl) dX11_truest_31 ?_
      obtain ⟨r15, S13, h14, hf⟩ := cb_open hf
      refine k_X11_shortestOf hro hX hq (c_X11_shortestOf hRk h14) (by decide) (by decide) (by decide) (Nat.le_of_ble_eq_true rfl) dX11_truest_34 ?_
      obtain rfl := oi hf
      exact g_iret hX hq (by decide) (by decide) hp dX11_truest_37
    · have hf := ite_t c10 hf
      refine g_lv [0] rfl ?_
      exact t_X11_truest_15 hro hRk hX hq hp _ hf
theorem c_X11_truest {l : Launch} {E : En} {ad Q : Nat → Nat} {kv : Value} {RD : Nat → Nat × Int32 × Int32 × Int32} (hRk : ∀ k, k < 6 → isRk (RD k).1) {a1 : Int32} {a2 : Int32} {r : Int32} {S S2 : MS} (hf : f_X11_truest RD a1 a2 S = some (r, S2)) : CP l E yX11_truest cX11_truest 3 (some .int) 7 0 0 (roL Q RD) [.ref (ad 10), .int a1, .int a2] (xW E ad Q kv S) (fun rv w => rv = some (.int r) ∧ w = xW E ad Q kv S2) :=
  CP.of (lv := [(0, .ref (ad 10)), (1, .int a1), (2, .int a2)]) (by decide +kernel) (Nat.le_of_ble_eq_true rfl) rfl (fun X hl hE hro hX hq hn => by subst hl; subst hE; exact t_X11_truest_0 (fun z hz => by rw [hro]; exact hz) hRk hX hq ⟨rfl, rfl⟩ a1 a2 S hf)
def f_X11_out_15 (RD : Nat → Nat × Int32 × Int32 × Int32) (S : MS) : Option (Int32 × MS) :=
  cb (f_X11_error RD 1 S) fun r7 S5 =>
  some (r7, S5)
def f_X11_out_114 (RD : Nat → Nat × Int32 × Int32 × Int32) (lp41 : Int32 → Int32 → Int32 → Int32 → Int32 → Int32 → MS → Option (Int32 × MS)) (x1 : Int32) (x2 : Int32) (x3 : Int32) (x4 : Int32) (x5 : Int32) (x6 : Int32) (S : MS) : Option (Int32 × MS) :=
  bI (x6 + 1) fun v26 =>
  lp41 x1 x2 x3 x4 x5 v26 S
def f_X11_out_41 (RD : Nat → Nat × Int32 × Int32 × Int32) : Nat → Int32 → Int32 → Int32 → Int32 → Int32 → Int32 → MS → Option (Int32 × MS)
  | 0 => fun _ _ _ _ _ _ _ => none
  | n + 1 => fun x1 x2 x3 x4 x5 x6 S =>
    let lp41 := f_X11_out_41 RD n
    if (255 < x6 : Prop) then
      if (0 ≤ x4 : Prop) then
        some (x4, S)
      else
        cb (f_X11_error RD 2 S) fun r17 S15 =>
        some (r17, S15)
    else
      cs (f_X11_bothWays x6) fun r18 =>
      bI (x3 &&& (r18 ^^^ (-1))) fun v20 =>
      cs (f_X11_factsOf x3) fun r21 =>
      cs (f_X11_isWithin x6 r21) fun r23 =>
      if (r23 = 0 : Prop) then
        f_X11_out_114 RD lp41 x1 x2 x3 x4 x5 x6 S
      else
        cs (f_J6_bitCount_0f7a4 x6) fun r27 =>
        if (x5 ≤ r27 : Prop) then
          f_X11_out_114 RD lp41 x1 x2 x3 x4 x5 x6 S
        else
          cb (f_X4_floor RD x1 v20 (S.2 0) S) fun r32 S30 =>
          if (r32 < x2 : Prop) then
            f_X11_out_114 RD lp41 x1 x2 x3 x4 x5 x6 (sL S S30)
          else
            cs (f_J6_bitCount_0f7a4 x6) fun r34 =>
            f_X11_out_114 RD lp41 x1 x2 x3 x6 r34 x6 (sL S S30)
def f_X11_out (RD : Nat → Nat × Int32 × Int32 × Int32) (a1 : Int32) (a2 : Int32) (S : MS) : Option (Int32 × MS) :=
  cb (f_X11_isRider RD a1 S) fun r3 S1 =>
  if (r3 = 0 : Prop) then
    f_X11_out_15 RD S1
  else
    cs (f_X11_isGoal a2) fun r8 =>
    if (r8 = 0 : Prop) then
      f_X11_out_15 RD S1
    else
      gix a1 6 fun k11 =>
      bI (S1.1 1 k11) fun v12 =>
      f_X11_out_41 RD 600 a1 a2 v12 (-1) 9 0 S1
set_option maxRecDepth 100000 in
set_option maxHeartbeats 4000000 in
theorem t_X11_out_15 {X : Cx} {ad Q : Nat → Nat} {kv : Value} {RD : Nat → Nat × Int32 × Int32 × Int32} (hro : ∀ z ∈ roL Q RD, z ∈ X.ro) (hRk : ∀ k, k < 6 → isRk (RD k).1) {PostX : Option Value → va_W → Prop} (hX : Ok X cX11_out 8 RX11) (hq : Rq X 6 0 0 (some .int) PostX) {u : (Int32 × MS)} (hp : PostX (some (.int u.1)) (xW X.E ad Q kv u.2)) (S : MS) (hf : f_X11_out_15 RD S = some u) : G X 8 0 0 15 [(0, .ref (ad 10))] [] (xW X.E ad Q kv S) := by
  unfold f_X11_out_15 at hf
  refine g_aloadn hX 0 rfl rfl dX11_out_15 ?_
  refine g_iconst hX (v := 1) (by decide) dX11_out_16 ?_
  obtain ⟨r7, S5, h6, hf⟩ := cb_open hf
  refine k_X11_error hro hX hq (c_X11_error hRk h6) (by decide) (by decide) (by decide) (Nat.le_of_ble_eq_true rfl) dX11_out_17 ?_
  obtain rfl := oi hf
  exact g_iret hX hq (by decide) (by decide) hp dX11_out_20
set_option maxRecDepth 100000 in
set_option maxHeartbeats 4000000 in
theorem t_X11_out_114 {X : Cx} {ad Q : Nat → Nat} {kv : Value} {RD : Nat → Nat × Int32 × Int32 × Int32} (hro : ∀ z ∈ roL Q RD, z ∈ X.ro) (hRk : ∀ k, k < 6 → isRk (RD k).1) {PostX : Option Value → va_W → Prop} (hX : Ok X cX11_out 8 RX11) (hq : Rq X 6 0 0 (some .int) PostX) {u : (Int32 × MS)} (hp : PostX (some (.int u.1)) (xW X.E ad Q kv u.2)) {lp41 : Int32 → Int32 → Int32 → Int32 → Int32 → Int32 → MS → Option (Int32 × MS)} (hlp41 : ∀ (x1 : Int32) (x2 : Int32) (x3 : Int32) (x4 : Int32) (x5 : Int32) (x6 : Int32) (S : MS), lp41 x1 x2 x3 x4 x5 x6 S = some u → G X 8 0 0 41 [(0, .ref (ad 10)), (1, .int x1), (2, .int x2), (3, .int x3), (4, .int x4), (5, .int x5), (6, .int x6)] [] (xW X.E ad Q kv S)) (x1 : Int32) (x2 : Int32) (x3 : Int32) (x4 : Int32) (x5 : Int32) (x6 : Int32) (S : MS) (hf : f_X11_out_114 RD lp41 x1 x2 x3 x4 x5 x6 S = some u) : G X 8 0 0 114 [(0, .ref (ad 10)), (1, .int x1), (2, .int x2), (3, .int x3), (4, .int x4), (5, .int x5), (6, .int x6)] [] (xW X.E ad Q kv S) := by
  unfold f_X11_out_114 at hf
  obtain ⟨v26, ev26, hf⟩ := bI_open hf
  refine g_iinc hX 6 (v := v26) [(6, .int v26), (0, .ref (ad 10)), (1, .int x1), (2, .int x2), (3, .int x3), (4, .int x4), (5, .int x5)] rfl (by rw [ev26]; rfl) (by decide) rfl dX11_out_114 ?_
  refine g_goto hX 41 (by decide) dX11_out_117 ?_
  refine g_lv [1, 2, 3, 4, 5, 6, 0] rfl ?_
  exact hlp41 _ _ _ _ _ _ _ hf
set_option maxRecDepth 100000 in
set_option maxHeartbeats 4000000 in
theorem t_X11_out_41 {X : Cx} {ad Q : Nat → Nat} {kv : Value} {RD : Nat → Nat × Int32 × Int32 × Int32} (hro : ∀ z ∈ roL Q RD, z ∈ X.ro) (hRk : ∀ k, k < 6 → isRk (RD k).1) {PostX : Option Value → va_W → Prop} (hX : Ok X cX11_out 8 RX11) (hq : Rq X 6 0 0 (some .int) PostX) {u : (Int32 × MS)} (hp : PostX (some (.int u.1)) (xW X.E ad Q kv u.2)) : ∀ (n : Nat) (x1 : Int32) (x2 : Int32) (x3 : Int32) (x4 : Int32) (x5 : Int32) (x6 : Int32) (S : MS), f_X11_out_41 RD n x1 x2 x3 x4 x5 x6 S = some u → G X 8 0 0 41 [(0, .ref (ad 10)), (1, .int x1), (2, .int x2), (3, .int x3), (4, .int x4), (5, .int x5), (6, .int x6)] [] (xW X.E ad Q kv S) := by
  intro n
  induction n with
  | zero => intro _ _ _ _ _ _ _ hf; unfold f_X11_out_41 at hf; cases hf
  | succ n hlp41 =>
  intro x1 x2 x3 x4 x5 x6 S hf
  unfold f_X11_out_41 at hf
  refine g_iload hX 6 rfl dX11_out_41 ?_
  refine g_sipush hX (v := 255) (by decide) dX11_out_43 ?_
  refine g_icmp_gt hX 120 (by decide) dX11_out_46 (fun c13 => ?_) (fun c13 => ?_)
  · have hf := ite_t c13 hf
    refine g_iload hX 4 rfl dX11_out_120 ?_
    refine g_if_ge hX 133 (by decide) dX11_out_122 (fun c14 => ?_) (fun c14 => ?_)
    · have hf := ite_t c14 hf
      refine g_iload hX 4 rfl dX11_out_133 ?_
      obtain rfl := oi hf
      exact g_iret hX hq (by decide) (by decide) hp dX11_out_135
    · have hf := ite_f c14 hf
      refine g_aloadn hX 0 rfl rfl dX11_out_125 ?_
      refine g_iconst hX (v := 2) (by decide) dX11_out_126 ?_
      obtain ⟨r17, S15, h16, hf⟩ := cb_open hf
      refine k_X11_error hro hX hq (c_X11_error hRk h16) (by decide) (by decide) (by decide) (Nat.le_of_ble_eq_true rfl) dX11_out_127 ?_
      refine g_goto hX 135 (by decide) dX11_out_130 ?_
      obtain rfl := oi hf
      exact g_iret hX hq (by decide) (by decide) hp dX11_out_135
  · have hf := ite_f c13 hf
    refine g_iloadn hX 3 rfl rfl dX11_out_49 ?_
    refine g_iload hX 6 rfl dX11_out_50 ?_
    obtain ⟨r18, h19, hf⟩ := cs_open hf
    refine k_RX11_X11_bothWays hX hq h19 (by decide) (by decide) (by decide) (Nat.le_of_ble_eq_true rfl) dX11_out_52 ?_
    refine g_iconst hX (v := (-1)) (by decide) dX11_out_55 ?_
    refine g_ixor hX dX11_out_56 ?_
    refine g_iand hX dX11_out_57 ?_
    obtain ⟨v20, ev20, hf⟩ := bI_open hf
    refine g_nm ev20 ?_
    refine g_istore hX [(7, .int v20), (0, .ref (ad 10)), (1, .int x1), (2, .int x2), (3, .int x3), (4, .int x4), (5, .int x5), (6, .int x6)] (by decide) rfl dX11_out_58 ?_
    refine g_iload hX 7 rfl dX11_out_60 ?_
    refine g_iloadn hX 4 rfl rfl dX11_out_62 ?_
    obtain ⟨r21, h22, hf⟩ := cs_open hf
    refine k_RX11_X11_factsOf hX hq h22 (by decide) (by decide) (by decide) (Nat.le_of_ble_eq_true rfl) dX11_out_63 ?_
    obtain ⟨r23, h24, hf⟩ := cs_open hf
    refine k_RX11_X11_isWithin hX hq h24 (by decide) (by decide) (by decide) (Nat.le_of_ble_eq_true rfl) dX11_out_66 ?_
    refine g_if_eq hX 114 (by decide) dX11_out_69 (fun c25 => ?_) (fun c25 => ?_)
    · have hf := ite_t c25 hf
      refine g_lv [1, 2, 3, 4, 5, 6, 7] rfl ?_
      exact t_X11_out_114 hro hRk hX hq hp hlp41 _ _ _ _ _ _ _ hf
    · have hf := ite_f c25 hf
      refine g_iload hX 7 rfl dX11_out_72 ?_
      obtain ⟨r27, h28, hf⟩ := cs_open hf
      refine k_RX11_J6_bitCount_0f7a4 hX hq h28 (by decide) (by decide) (by decide) (Nat.le_of_ble_eq_true rfl) dX11_out_74 ?_
      refine g_iload hX 6 rfl dX11_out_77 ?_
      refine g_icmp_ge hX 114 (by decide) dX11_out_79 (fun c29 => ?_) (fun c29 => ?_)
      · have hf := ite_t c29 hf
        refine g_lv [1, 2, 3, 4, 5, 6, 7] rfl ?_
        exact t_X11_out_114 hro hRk hX hq hp hlp41 _ _ _ _ _ _ _ hf
      · have hf := ite_f c29 hf
        refine g_aloadn hX 1 rfl rfl dX11_out_82 ?_
        refine xg_lift hX dX11_out_83 ?_
        refine g_iloadn hX 2 rfl rfl dX11_out_86 ?_
        refine g_iload hX 0 rfl dX11_out_87 ?_
        refine g_aloadn hX 1 rfl rfl dX11_out_89 ?_
        refine xg_lift hX dX11_out_90 ?_
        refine xg_heard hX (v := S.2 0) rfl dX11_out_93 ?_
        obtain ⟨r32, S30, h31, hf⟩ := cb_open hf
        refine k4_X4_floor hro hX hq (c_X4_floor h31) (by decide) (by decide) (by decide) (Nat.le_of_ble_eq_true rfl) dX11_out_96 ?_
        refine g_iloadn hX 3 rfl rfl dX11_out_99 ?_
        refine g_icmp_lt hX 114 (by decide) dX11_out_100 (fun c33 => ?_) (fun c33 => ?_)
        · have hf := ite_t c33 hf
          refine g_lv [1, 2, 3, 4, 5, 6, 7] rfl ?_
          exact t_X11_out_114 hro hRk hX hq hp hlp41 _ _ _ _ _ _ _ hf
        · have hf := ite_f c33 hf
          refine g_iload hX 7 rfl dX11_out_103 ?_
          refine g_istore hX [(4, .int x6), (7, .int v20), (0, .ref (ad 10)), (1, .int x1), (2, .int x2), (3, .int x3), (5, .int x5), (6, .int x6)] (by decide) rfl dX11_out_105 ?_
          refine g_iload hX 7 rfl dX11_out_107 ?_
          obtain ⟨r34, h35, hf⟩ := cs_open hf
          refine k_RX11_J6_bitCount_0f7a4 hX hq h35 (by decide) (by decide) (by decide) (Nat.le_of_ble_eq_true rfl) dX11_out_109 ?_
          refine g_istore hX [(5, .int r34), (4, .int x6), (7, .int v20), (0, .ref (ad 10)), (1, .int x1), (2, .int x2), (3, .int x3), (6, .int x6)] (by decide) rfl dX11_out_112 ?_
          refine g_lv [3, 4, 5, 6, 1, 0, 7] rfl ?_
          exact t_X11_out_114 hro hRk hX hq hp hlp41 _ _ _ _ _ _ _ hf
set_option maxRecDepth 100000 in
set_option maxHeartbeats 4000000 in
theorem t_X11_out_0 {X : Cx} {ad Q : Nat → Nat} {kv : Value} {RD : Nat → Nat × Int32 × Int32 × Int32} (hro : ∀ z ∈ roL Q RD, z ∈ X.ro) (hRk : ∀ k, k < 6 → isRk (RD k).1) {PostX : Option Value → va_W → Prop} (hX : Ok X cX11_out 8 RX11) (hq : Rq X 6 0 0 (some .int) PostX) {u : (Int32 × MS)} (hp : PostX (some (.int u.1)) (xW X.E ad Q kv u.2)) (a1 : Int32) (a2 : Int32) (S : MS) (hf : f_X11_out RD a1 a2 S = some u) : G X 8 0 0 0 [(0, .ref (ad 10)), (1, .int a1), (2, .int a2)] [] (xW X.E ad Q kv S) := by
  unfold f_X11_out at hf
  refine g_aloadn hX 0 rfl rfl dX11_out_0 ?_
  refine g_iloadn hX 1 rfl rfl dX11_out_1 ?_
  obtain ⟨r3, S1, h2, hf⟩ := cb_open hf
  refine k_X11_isRider hro hX hq (c_X11_isRider hRk h2) (by decide) (by decide) (by decide) (Nat.le_of_ble_eq_true rfl) dX11_out_2 ?_
  refine g_if_eq hX 15 (by decide) dX11_out_5 (fun c4 => ?_) (fun c4 => ?_)
  · have hf := ite_t c4 hf
    refine g_lv [0] rfl ?_
    exact t_X11_out_15 hro hRk hX hq hp _ hf
  · have hf := ite_f c4 hf
    refine g_iloadn hX 2 rfl rfl dX11_out_8 ?_
    obtain ⟨r8, h9, hf⟩ := cs_open hf
    refine k_RX11_X11_isGoal hX hq h9 (by decide) (by decide) (by decide) (Nat.le_of_ble_eq_true rfl) dX11_out_9 ?_
    refine g_if_ne hX 21 (by decide) dX11_out_12 (fun c10 => ?_) (fun c10 => ?_)
    · have hf := ite_f c10 hf
      refine g_aloadn hX 0 rfl rfl dX11_out_21 ?_
      refine xg_lift hX dX11_out_22 ?_
      refine xg_stories hX dX11_out_25 ?_
      refine g_iloadn hX 1 rfl rfl dX11_out_28 ?_
      obtain ⟨k11, jk11, ik11, hf⟩ := gix_open hf
      refine xl_stories hX ik11 k11 jk11 dX11_out_29 ?_
      obtain ⟨v12, ev12, hf⟩ := bI_open hf
      refine g_nm ev12 ?_
      refine g_istoren hX [(3, .int v12), (0, .ref (ad 10)), (1, .int a1), (2, .int a2)] rfl (by decide) rfl dX11_out_30 ?_
      refine g_iconst hX (v := (-1)) (by decide) dX11_out_31 ?_
      refine g_istore hX [(4, .int (-1)), (3, .int v12), (0, .ref (ad 10)), (1, .int a1), (2, .int a2)] (by decide) rfl dX11_out_32 ?_
      refine g_bipush hX (v := 9) (by decide) dX11_out_34 ?_
      refine g_istore hX [(5, .int 9), (4, .int (-1)), (3, .int v12), (0, .ref (ad 10)), (1, .int a1), (2, .int a2)] (by decide) rfl dX11_out_36 ?_
      refine g_iconst hX (v := 0) (by decide) dX11_out_38 ?_
      refine g_istore hX [(6, .int 0), (5, .int 9), (4, .int (-1)), (3, .int v12), (0, .ref (ad 10)), (1, .int a1), (2, .int a2)] (by decide) rfl dX11_out_39 ?_
      refine g_lv [4, 5, 6, 3, 2, 1, 0] rfl ?_
      exact t_X11_out_41 hro hRk hX hq hp _ _ _ _ _ _ _ _ hf
    · have hf := ite_t c10 hf
      refine g_lv [0] rfl ?_
      exact t_X11_out_15 hro hRk hX hq hp _ hf
theorem c_X11_out {l : Launch} {E : En} {ad Q : Nat → Nat} {kv : Value} {RD : Nat → Nat × Int32 × Int32 × Int32} (hRk : ∀ k, k < 6 → isRk (RD k).1) {a1 : Int32} {a2 : Int32} {r : Int32} {S S2 : MS} (hf : f_X11_out RD a1 a2 S = some (r, S2)) : CP l E yX11_out cX11_out 8 (some .int) 6 0 0 (roL Q RD) [.ref (ad 10), .int a1, .int a2] (xW E ad Q kv S) (fun rv w => rv = some (.int r) ∧ w = xW E ad Q kv S2) :=
  CP.of (lv := [(0, .ref (ad 10)), (1, .int a1), (2, .int a2)]) (by decide +kernel) (Nat.le_of_ble_eq_true rfl) rfl (fun X hl hE hro hX hq hn => by subst hl; subst hE; exact t_X11_out_0 (fun z hz => by rw [hro]; exact hz) hRk hX hq ⟨rfl, rfl⟩ a1 a2 S hf)
def f_X11_when_15 (RD : Nat → Nat × Int32 × Int32 × Int32) (S : MS) : Option (Int32 × MS) :=
  cb (f_X11_error RD 1 S) fun r7 S5 =>
  some (r7, S5)
def f_X11_when_32 (RD : Nat → Nat × Int32 × Int32 × Int32) : Nat → Int32 → Int32 → Int32 → Int32 → MS → Option (Int32 × MS)
  | 0 => fun _ _ _ _ _ => none
  | n + 1 => fun x1 x2 x3 x4 S =>
    let lp32 := f_X11_when_32 RD n
    if (60 < x4 : Prop) then
      cb (f_X11_error RD 2 S) fun r15 S13 =>
      some (r15, S13)
    else
      gix x1 6 fun k16 =>
      cb (f_X4_floor RD x1 (S.1 1 k16) x3 S) fun r19 S17 =>
      if (r19 < x2 : Prop) then
        cb (f_X4_afterDay RD x3 (sL S S17)) fun r23 S21 =>
        bI (x4 + 1) fun v24 =>
        lp32 x1 x2 r23 v24 (sL (sL S S17) S21)
      else
        some (x4, (sL S S17))
def f_X11_when (RD : Nat → Nat × Int32 × Int32 × Int32) (a1 : Int32) (a2 : Int32) (S : MS) : Option (Int32 × MS) :=
  cb (f_X11_isRider RD a1 S) fun r3 S1 =>
  if (r3 = 0 : Prop) then
    f_X11_when_15 RD S1
  else
    cs (f_X11_isGoal a2) fun r8 =>
    if (r8 = 0 : Prop) then
      f_X11_when_15 RD S1
    else
      bI (S1.2 0) fun v11 =>
      f_X11_when_32 RD 100 a1 a2 v11 0 S1
set_option maxRecDepth 100000 in
set_option maxHeartbeats 4000000 in
theorem t_X11_when_15 {X : Cx} {ad Q : Nat → Nat} {kv : Value} {RD : Nat → Nat × Int32 × Int32 × Int32} (hro : ∀ z ∈ roL Q RD, z ∈ X.ro) (hRk : ∀ k, k < 6 → isRk (RD k).1) {PostX : Option Value → va_W → Prop} (hX : Ok X cX11_when 5 RX11) (hq : Rq X 8 0 0 (some .int) PostX) {u : (Int32 × MS)} (hp : PostX (some (.int u.1)) (xW X.E ad Q kv u.2)) (S : MS) (hf : f_X11_when_15 RD S = some u) : G X 5 0 0 15 [(0, .ref (ad 10))] [] (xW X.E ad Q kv S) := by
  unfold f_X11_when_15 at hf
  refine g_aloadn hX 0 rfl rfl dX11_when_15 ?_
  refine g_iconst hX (v := 1) (by decide) dX11_when_16 ?_
  obtain ⟨r7, S5, h6, hf⟩ := cb_open hf
  refine k_X11_error hro hX hq (c_X11_error hRk h6) (by decide) (by decide) (by decide) (Nat.le_of_ble_eq_true rfl) dX11_when_17 ?_
  obtain rfl := oi hf
  exact g_iret hX hq (by decide) (by decide) hp dX11_when_20
set_option maxRecDepth 100000 in
set_option maxHeartbeats 4000000 in
theorem t_X11_when_32 {X : Cx} {ad Q : Nat → Nat} {kv : Value} {RD : Nat → Nat × Int32 × Int32 × Int32} (hro : ∀ z ∈ roL Q RD, z ∈ X.ro) (hRk : ∀ k, k < 6 → isRk (RD k).1) {PostX : Option Value → va_W → Prop} (hX : Ok X cX11_when 5 RX11) (hq : Rq X 8 0 0 (some .int) PostX) {u : (Int32 × MS)} (hp : PostX (some (.int u.1)) (xW X.E ad Q kv u.2)) : ∀ (n : Nat) (x1 : Int32) (x2 : Int32) (x3 : Int32) (x4 : Int32) (S : MS), f_X11_when_32 RD n x1 x2 x3 x4 S = some u → G X 5 0 0 32 [(0, .ref (ad 10)), (1, .int x1), (2, .int x2), (3, .int x3), (4, .int x4)] [] (xW X.E ad Q kv S) := by
  intro n
  induction n with
  | zero => intro _ _ _ _ _ hf; unfold f_X11_when_32 at hf; cases hf
  | succ n hlp32 =>
  intro x1 x2 x3 x4 S hf
  unfold f_X11_when_32 at hf
  refine g_iload hX 4 rfl dX11_when_32 ?_
  refine g_bipush hX (v := 60) (by decide) dX11_when_34 ?_
  refine g_icmp_gt hX 79 (by decide) dX11_when_36 (fun c12 => ?_) (fun c12 => ?_)
  · have hf := ite_t c12 hf
    refine g_aloadn hX 0 rfl rfl dX11_when_79 ?_
    refine g_iconst hX (v := 2) (by decide) dX11_when_80 ?_
    obtain ⟨r15, S13, h14, hf⟩ := cb_open hf
    refine k_X11_error hro hX hq (c_X11_error hRk h14) (by decide) (by decide) (by decide) (Nat.le_of_ble_eq_true rfl) dX11_when_81 ?_
    obtain rfl := oi hf
    exact g_iret hX hq (by decide) (by decide) hp dX11_when_84
  · have hf := ite_f c12 hf
    refine g_aloadn hX 0 rfl rfl dX11_when_39 ?_
    refine xg_lift hX dX11_when_40 ?_
    refine g_iloadn hX 1 rfl rfl dX11_when_43 ?_
    refine g_aloadn hX 0 rfl rfl dX11_when_44 ?_
    refine xg_lift hX dX11_when_45 ?_
    refine xg_stories hX dX11_when_48 ?_
    refine g_iloadn hX 1 rfl rfl dX11_when_51 ?_
    obtain ⟨k16, jk16, ik16, hf⟩ := gix_open hf
    refine xl_stories hX ik16 k16 jk16 dX11_when_52 ?_
    refine g_iloadn hX 3 rfl rfl dX11_when_53 ?_
    obtain ⟨r19, S17, h18, hf⟩ := cb_open hf
    refine k4_X4_floor hro hX hq (c_X4_floor h18) (by decide) (by decide) (by decide) (Nat.le_of_ble_eq_true rfl) dX11_when_54 ?_
    refine g_iloadn hX 2 rfl rfl dX11_when_57 ?_
    refine g_icmp_lt hX 64 (by decide) dX11_when_58 (fun c20 => ?_) (fun c20 => ?_)
    · have hf := ite_t c20 hf
      refine g_aloadn hX 0 rfl rfl dX11_when_64 ?_
      refine xg_lift hX dX11_when_65 ?_
      refine g_iloadn hX 3 rfl rfl dX11_when_68 ?_
      obtain ⟨r23, S21, h22, hf⟩ := cb_open hf
      refine k4_X4_afterDay hro hX hq (c_X4_afterDay h22) (by decide) (by decide) (by decide) (Nat.le_of_ble_eq_true rfl) dX11_when_69 ?_
      refine g_istoren hX [(3, .int r23), (0, .ref (ad 10)), (1, .int x1), (2, .int x2), (4, .int x4)] rfl (by decide) rfl dX11_when_72 ?_
      obtain ⟨v24, ev24, hf⟩ := bI_open hf
      refine g_iinc hX 4 (v := v24) [(4, .int v24), (3, .int r23), (0, .ref (ad 10)), (1, .int x1), (2, .int x2)] rfl (by rw [ev24]; rfl) (by decide) rfl dX11_when_73 ?_
      refine g_goto hX 32 (by decide) dX11_when_76 ?_
      refine g_lv [2, 3, 4, 1, 0] rfl ?_
      exact hlp32 _ _ _ _ _ hf
    · have hf := ite_f c20 hf
      refine g_iload hX 4 rfl dX11_when_61 ?_
      obtain rfl := oi hf
      exact g_iret hX hq (by decide) (by decide) hp dX11_when_63
set_option maxRecDepth 100000 in
set_option maxHeartbeats 4000000 in
theorem t_X11_when_0 {X : Cx} {ad Q : Nat → Nat} {kv : Value} {RD : Nat → Nat × Int32 × Int32 × Int32} (hro : ∀ z ∈ roL Q RD, z ∈ X.ro) (hRk : ∀ k, k < 6 → isRk (RD k).1) {PostX : Option Value → va_W → Prop} (hX : Ok X cX11_when 5 RX11) (hq : Rq X 8 0 0 (some .int) PostX) {u : (Int32 × MS)} (hp : PostX (some (.int u.1)) (xW X.E ad Q kv u.2)) (a1 : Int32) (a2 : Int32) (S : MS) (hf : f_X11_when RD a1 a2 S = some u) : G X 5 0 0 0 [(0, .ref (ad 10)), (1, .int a1), (2, .int a2)] [] (xW X.E ad Q kv S) := by
  unfold f_X11_when at hf
  refine g_aloadn hX 0 rfl rfl dX11_when_0 ?_
  refine g_iloadn hX 1 rfl rfl dX11_when_1 ?_
  obtain ⟨r3, S1, h2, hf⟩ := cb_open hf
  refine k_X11_isRider hro hX hq (c_X11_isRider hRk h2) (by decide) (by decide) (by decide) (Nat.le_of_ble_eq_true rfl) dX11_when_2 ?_
  refine g_if_eq hX 15 (by decide) dX11_when_5 (fun c4 => ?_) (fun c4 => ?_)
  · have hf := ite_t c4 hf
    refine g_lv [0] rfl ?_
    exact t_X11_when_15 hro hRk hX hq hp _ hf
  · have hf := ite_f c4 hf
    refine g_iloadn hX 2 rfl rfl dX11_when_8 ?_
    obtain ⟨r8, h9, hf⟩ := cs_open hf
    refine k_RX11_X11_isGoal hX hq h9 (by decide) (by decide) (by decide) (Nat.le_of_ble_eq_true rfl) dX11_when_9 ?_
    refine g_if_ne hX 21 (by decide) dX11_when_12 (fun c10 => ?_) (fun c10 => ?_)
    · have hf := ite_f c10 hf
      refine g_aloadn hX 0 rfl rfl dX11_when_21 ?_
      refine xg_lift hX dX11_when_22 ?_
      refine xg_heard hX (v := S1.2 0) rfl dX11_when_25 ?_
      obtain ⟨v11, ev11, hf⟩ := bI_open hf
      refine g_nm ev11 ?_
      refine g_istoren hX [(3, .int v11), (0, .ref (ad 10)), (1, .int a1), (2, .int a2)] rfl (by decide) rfl dX11_when_28 ?_
      refine g_iconst hX (v := 0) (by decide) dX11_when_29 ?_
      refine g_istore hX [(4, .int 0), (3, .int v11), (0, .ref (ad 10)), (1, .int a1), (2, .int a2)] (by decide) rfl dX11_when_30 ?_
      refine g_lv [2, 3, 4, 1, 0] rfl ?_
      exact t_X11_when_32 hro hRk hX hq hp _ _ _ _ _ _ hf
    · have hf := ite_t c10 hf
      refine g_lv [0] rfl ?_
      exact t_X11_when_15 hro hRk hX hq hp _ hf
theorem c_X11_when {l : Launch} {E : En} {ad Q : Nat → Nat} {kv : Value} {RD : Nat → Nat × Int32 × Int32 × Int32} (hRk : ∀ k, k < 6 → isRk (RD k).1) {a1 : Int32} {a2 : Int32} {r : Int32} {S S2 : MS} (hf : f_X11_when RD a1 a2 S = some (r, S2)) : CP l E yX11_when cX11_when 5 (some .int) 8 0 0 (roL Q RD) [.ref (ad 10), .int a1, .int a2] (xW E ad Q kv S) (fun rv w => rv = some (.int r) ∧ w = xW E ad Q kv S2) :=
  CP.of (lv := [(0, .ref (ad 10)), (1, .int a1), (2, .int a2)]) (by decide +kernel) (Nat.le_of_ble_eq_true rfl) rfl (fun X hl hE hro hX hq hn => by subst hl; subst hE; exact t_X11_when_0 (fun z hz => by rw [hro]; exact hz) hRk hX hq ⟨rfl, rfl⟩ a1 a2 S hf)
def f_X11_still_10 (RD : Nat → Nat × Int32 × Int32 × Int32) : Nat → Int32 → Int32 → MS → Option (Int32 × MS)
  | 0 => fun _ _ _ => none
  | n + 1 => fun x1 x2 S =>
    let lp10 := f_X11_still_10 RD n
    if (60 < x2 : Prop) then
      cb (f_X11_error RD 2 S) fun r5 S3 =>
      some (r5, S3)
    else
      cb (f_X4_afterDay RD x1 S) fun r8 S6 =>
      if (r8 = x1 : Prop) then
        some (x2, (sL S S6))
      else
        bI (x2 + 1) fun v10 =>
        lp10 r8 v10 (sL S S6)
def f_X11_still (RD : Nat → Nat × Int32 × Int32 × Int32) (S : MS) : Option (Int32 × MS) :=
  bI (S.2 0) fun v1 =>
  f_X11_still_10 RD 100 v1 0 S
set_option maxRecDepth 100000 in
set_option maxHeartbeats 4000000 in
theorem t_X11_still_10 {X : Cx} {ad Q : Nat → Nat} {kv : Value} {RD : Nat → Nat × Int32 × Int32 × Int32} (hro : ∀ z ∈ roL Q RD, z ∈ X.ro) (hRk : ∀ k, k < 6 → isRk (RD k).1) {PostX : Option Value → va_W → Prop} (hX : Ok X cX11_still 4 RX11) (hq : Rq X 8 0 0 (some .int) PostX) {u : (Int32 × MS)} (hp : PostX (some (.int u.1)) (xW X.E ad Q kv u.2)) : ∀ (n : Nat) (x1 : Int32) (x2 : Int32) (S : MS), f_X11_still_10 RD n x1 x2 S = some u → G X 4 0 0 10 [(0, .ref (ad 10)), (1, .int x1), (2, .int x2)] [] (xW X.E ad Q kv S) := by
  intro n
  induction n with
  | zero => intro _ _ _ hf; unfold f_X11_still_10 at hf; cases hf
  | succ n hlp10 =>
  intro x1 x2 S hf
  unfold f_X11_still_10 at hf
  refine g_iloadn hX 2 rfl rfl dX11_still_10 ?_
  refine g_bipush hX (v := 60) (by decide) dX11_still_11 ?_
  refine g_icmp_gt hX 40 (by decide) dX11_still_13 (fun c2 => ?_) (fun c2 => ?_)
  · have hf := ite_t c2 hf
    refine g_aloadn hX 0 rfl rfl dX11_still_40 ?_
    refine g_iconst hX (v := 2) (by decide) dX11_still_41 ?_
    obtain ⟨r5, S3, h4, hf⟩ := cb_open hf
    refine k_X11_error hro hX hq (c_X11_error hRk h4) (by decide) (by decide) (by decide) (Nat.le_of_ble_eq_true rfl) dX11_still_42 ?_
    obtain rfl := oi hf
    exact g_iret hX hq (by decide) (by decide) hp dX11_still_45
  · have hf := ite_f c2 hf
    refine g_aloadn hX 0 rfl rfl dX11_still_16 ?_
    refine xg_lift hX dX11_still_17 ?_
    refine g_iloadn hX 1 rfl rfl dX11_still_20 ?_
    obtain ⟨r8, S6, h7, hf⟩ := cb_open hf
    refine k4_X4_afterDay hro hX hq (c_X4_afterDay h7) (by decide) (by decide) (by decide) (Nat.le_of_ble_eq_true rfl) dX11_still_21 ?_
    refine g_istoren hX [(3, .int r8), (0, .ref (ad 10)), (1, .int x1), (2, .int x2)] rfl (by decide) rfl dX11_still_24 ?_
    refine g_iloadn hX 0 rfl rfl dX11_still_25 ?_
    refine g_iloadn hX 2 rfl rfl dX11_still_26 ?_
    refine g_icmp_ne hX 32 (by decide) dX11_still_27 (fun c9 => ?_) (fun c9 => ?_)
    · have hf := ite_f c9 hf
      refine g_iloadn hX 0 rfl rfl dX11_still_32 ?_
      refine g_istoren hX [(1, .int r8), (3, .int r8), (0, .ref (ad 10)), (2, .int x2)] rfl (by decide) rfl dX11_still_33 ?_
      obtain ⟨v10, ev10, hf⟩ := bI_open hf
      refine g_iinc hX 3 (v := v10) [(2, .int v10), (1, .int r8), (3, .int r8), (0, .ref (ad 10))] rfl (by rw [ev10]; rfl) (by decide) rfl dX11_still_34 ?_
      refine g_goto hX 10 (by decide) dX11_still_37 ?_
      refine g_lv [3, 1, 0] rfl ?_
      exact hlp10 _ _ _ hf
    · have hf := ite_t c9 hf
      refine g_iloadn hX 3 rfl rfl dX11_still_30 ?_
      obtain rfl := oi hf
      exact g_iret hX hq (by decide) (by decide) hp dX11_still_31
set_option maxRecDepth 100000 in
set_option maxHeartbeats 4000000 in
theorem t_X11_still_0 {X : Cx} {ad Q : Nat → Nat} {kv : Value} {RD : Nat → Nat × Int32 × Int32 × Int32} (hro : ∀ z ∈ roL Q RD, z ∈ X.ro) (hRk : ∀ k, k < 6 → isRk (RD k).1) {PostX : Option Value → va_W → Prop} (hX : Ok X cX11_still 4 RX11) (hq : Rq X 8 0 0 (some .int) PostX) {u : (Int32 × MS)} (hp : PostX (some (.int u.1)) (xW X.E ad Q kv u.2)) (S : MS) (hf : f_X11_still RD S = some u) : G X 4 0 0 0 [(0, .ref (ad 10))] [] (xW X.E ad Q kv S) := by
  unfold f_X11_still at hf
  refine g_aloadn hX 0 rfl rfl dX11_still_0 ?_
  refine xg_lift hX dX11_still_1 ?_
  refine xg_heard hX (v := S.2 0) rfl dX11_still_4 ?_
  obtain ⟨v1, ev1, hf⟩ := bI_open hf
  refine g_nm ev1 ?_
  refine g_istoren hX [(1, .int v1), (0, .ref (ad 10))] rfl (by decide) rfl dX11_still_7 ?_
  refine g_iconst hX (v := 0) (by decide) dX11_still_8 ?_
  refine g_istoren hX [(2, .int 0), (1, .int v1), (0, .ref (ad 10))] rfl (by decide) rfl dX11_still_9 ?_
  refine g_lv [2, 1, 0] rfl ?_
  exact t_X11_still_10 hro hRk hX hq hp _ _ _ _ hf
theorem c_X11_still {l : Launch} {E : En} {ad Q : Nat → Nat} {kv : Value} {RD : Nat → Nat × Int32 × Int32 × Int32} (hRk : ∀ k, k < 6 → isRk (RD k).1) {r : Int32} {S S2 : MS} (hf : f_X11_still RD S = some (r, S2)) : CP l E yX11_still cX11_still 4 (some .int) 8 0 0 (roL Q RD) [.ref (ad 10)] (xW E ad Q kv S) (fun rv w => rv = some (.int r) ∧ w = xW E ad Q kv S2) :=
  CP.of (lv := [(0, .ref (ad 10))]) (by decide +kernel) (Nat.le_of_ble_eq_true rfl) rfl (fun X hl hE hro hX hq hn => by subst hl; subst hE; exact t_X11_still_0 (fun z hz => by rw [hro]; exact hz) hRk hX hq ⟨rfl, rfl⟩ S hf)
def f_X11_then_10 (RD : Nat → Nat × Int32 × Int32 × Int32) (S : MS) : Option (Int32 × MS) :=
  cb (f_X11_error RD 1 S) fun r4 S2 =>
  some (r4, S2)
def f_X11_then_26 (RD : Nat → Nat × Int32 × Int32 × Int32) : Nat → Int32 → Int32 → Int32 → MS → Option (Int32 × MS)
  | 0 => fun _ _ _ _ => none
  | n + 1 => fun x1 x2 x3 S =>
    let lp26 := f_X11_then_26 RD n
    if (x1 ≤ x3 : Prop) then
      cs (f_X11_numberOf x2) fun r8 =>
      some (r8, S)
    else
      cb (f_X4_afterDay RD x2 S) fun r12 S10 =>
      bI (x3 + 1) fun v13 =>
      lp26 x1 r12 v13 (sL S S10)
def f_X11_then (RD : Nat → Nat × Int32 × Int32 × Int32) (a1 : Int32) (S : MS) : Option (Int32 × MS) :=
  if (a1 < 0 : Prop) then
    f_X11_then_10 RD S
  else
    if (a1 ≤ 60 : Prop) then
      bI (S.2 0) fun v6 =>
      f_X11_then_26 RD 100 a1 v6 0 S
    else
      f_X11_then_10 RD S
set_option maxRecDepth 100000 in
set_option maxHeartbeats 4000000 in
theorem t_X11_then_10 {X : Cx} {ad Q : Nat → Nat} {kv : Value} {RD : Nat → Nat × Int32 × Int32 × Int32} (hro : ∀ z ∈ roL Q RD, z ∈ X.ro) (hRk : ∀ k, k < 6 → isRk (RD k).1) {PostX : Option Value → va_W → Prop} (hX : Ok X cX11_then 4 RX11) (hq : Rq X 8 0 0 (some .int) PostX) {u : (Int32 × MS)} (hp : PostX (some (.int u.1)) (xW X.E ad Q kv u.2)) (S : MS) (hf : f_X11_then_10 RD S = some u) : G X 4 0 0 10 [(0, .ref (ad 10))] [] (xW X.E ad Q kv S) := by
  unfold f_X11_then_10 at hf
  refine g_aloadn hX 0 rfl rfl dX11_then_10 ?_
  refine g_iconst hX (v := 1) (by decide) dX11_then_11 ?_
  obtain ⟨r4, S2, h3, hf⟩ := cb_open hf
  refine k_X11_error hro hX hq (c_X11_error hRk h3) (by decide) (by decide) (by decide) (Nat.le_of_ble_eq_true rfl) dX11_then_12 ?_
  obtain rfl := oi hf
  exact g_iret hX hq (by decide) (by decide) hp dX11_then_15
set_option maxRecDepth 100000 in
set_option maxHeartbeats 4000000 in
theorem t_X11_then_26 {X : Cx} {ad Q : Nat → Nat} {kv : Value} {RD : Nat → Nat × Int32 × Int32 × Int32} (hro : ∀ z ∈ roL Q RD, z ∈ X.ro) (hRk : ∀ k, k < 6 → isRk (RD k).1) {PostX : Option Value → va_W → Prop} (hX : Ok X cX11_then 4 RX11) (hq : Rq X 8 0 0 (some .int) PostX) {u : (Int32 × MS)} (hp : PostX (some (.int u.1)) (xW X.E ad Q kv u.2)) : ∀ (n : Nat) (x1 : Int32) (x2 : Int32) (x3 : Int32) (S : MS), f_X11_then_26 RD n x1 x2 x3 S = some u → G X 4 0 0 26 [(0, .ref (ad 10)), (1, .int x1), (2, .int x2), (3, .int x3)] [] (xW X.E ad Q kv S) := by
  intro n
  induction n with
  | zero => intro _ _ _ _ hf; unfold f_X11_then_26 at hf; cases hf
  | succ n hlp26 =>
  intro x1 x2 x3 S hf
  unfold f_X11_then_26 at hf
  refine g_iloadn hX 3 rfl rfl dX11_then_26 ?_
  refine g_iloadn hX 1 rfl rfl dX11_then_27 ?_
  refine g_icmp_ge hX 46 (by decide) dX11_then_28 (fun c7 => ?_) (fun c7 => ?_)
  · have hf := ite_t c7 hf
    refine g_iloadn hX 2 rfl rfl dX11_then_46 ?_
    obtain ⟨r8, h9, hf⟩ := cs_open hf
    refine k_RX11_X11_numberOf hX hq h9 (by decide) (by decide) (by decide) (Nat.le_of_ble_eq_true rfl) dX11_then_47 ?_
    obtain rfl := oi hf
    exact g_iret hX hq (by decide) (by decide) hp dX11_then_50
  · have hf := ite_f c7 hf
    refine g_aloadn hX 0 rfl rfl dX11_then_31 ?_
    refine xg_lift hX dX11_then_32 ?_
    refine g_iloadn hX 2 rfl rfl dX11_then_35 ?_
    obtain ⟨r12, S10, h11, hf⟩ := cb_open hf
    refine k4_X4_afterDay hro hX hq (c_X4_afterDay h11) (by decide) (by decide) (by decide) (Nat.le_of_ble_eq_true rfl) dX11_then_36 ?_
    refine g_istoren hX [(2, .int r12), (0, .ref (ad 10)), (1, .int x1), (3, .int x3)] rfl (by decide) rfl dX11_then_39 ?_
    obtain ⟨v13, ev13, hf⟩ := bI_open hf
    refine g_iinc hX 3 (v := v13) [(3, .int v13), (2, .int r12), (0, .ref (ad 10)), (1, .int x1)] rfl (by rw [ev13]; rfl) (by decide) rfl dX11_then_40 ?_
    refine g_goto hX 26 (by decide) dX11_then_43 ?_
    refine g_lv [2, 3, 1, 0] rfl ?_
    exact hlp26 _ _ _ _ hf
set_option maxRecDepth 100000 in
set_option maxHeartbeats 4000000 in
theorem t_X11_then_0 {X : Cx} {ad Q : Nat → Nat} {kv : Value} {RD : Nat → Nat × Int32 × Int32 × Int32} (hro : ∀ z ∈ roL Q RD, z ∈ X.ro) (hRk : ∀ k, k < 6 → isRk (RD k).1) {PostX : Option Value → va_W → Prop} (hX : Ok X cX11_then 4 RX11) (hq : Rq X 8 0 0 (some .int) PostX) {u : (Int32 × MS)} (hp : PostX (some (.int u.1)) (xW X.E ad Q kv u.2)) (a1 : Int32) (S : MS) (hf : f_X11_then RD a1 S = some u) : G X 4 0 0 0 [(0, .ref (ad 10)), (1, .int a1)] [] (xW X.E ad Q kv S) := by
  unfold f_X11_then at hf
  refine g_iloadn hX 1 rfl rfl dX11_then_0 ?_
  refine g_if_lt hX 10 (by decide) dX11_then_1 (fun c1 => ?_) (fun c1 => ?_)
  · have hf := ite_t c1 hf
    refine g_lv [0] rfl ?_
    exact t_X11_then_10 hro hRk hX hq hp _ hf
  · have hf := ite_f c1 hf
    refine g_iloadn hX 1 rfl rfl dX11_then_4 ?_
    refine g_bipush hX (v := 60) (by decide) dX11_then_5 ?_
    refine g_icmp_le hX 16 (by decide) dX11_then_7 (fun c5 => ?_) (fun c5 => ?_)
    · have hf := ite_t c5 hf
      refine g_aloadn hX 0 rfl rfl dX11_then_16 ?_
      refine xg_lift hX dX11_then_17 ?_
      refine xg_heard hX (v := S.2 0) rfl dX11_then_20 ?_
      obtain ⟨v6, ev6, hf⟩ := bI_open hf
      refine g_nm ev6 ?_
      refine g_istoren hX [(2, .int v6), (0, .ref (ad 10)), (1, .int a1)] rfl (by decide) rfl dX11_then_23 ?_
      refine g_iconst hX (v := 0) (by decide) dX11_then_24 ?_
      refine g_istoren hX [(3, .int 0), (2, .int v6), (0, .ref (ad 10)), (1, .int a1)] rfl (by decide) rfl dX11_then_25 ?_
      refine g_lv [2, 3, 1, 0] rfl ?_
      exact t_X11_then_26 hro hRk hX hq hp _ _ _ _ _ hf
    · have hf := ite_f c5 hf
      refine g_lv [0] rfl ?_
      exact t_X11_then_10 hro hRk hX hq hp _ hf
theorem c_X11_then {l : Launch} {E : En} {ad Q : Nat → Nat} {kv : Value} {RD : Nat → Nat × Int32 × Int32 × Int32} (hRk : ∀ k, k < 6 → isRk (RD k).1) {a1 : Int32} {r : Int32} {S S2 : MS} (hf : f_X11_then RD a1 S = some (r, S2)) : CP l E yX11_then cX11_then 4 (some .int) 8 0 0 (roL Q RD) [.ref (ad 10), .int a1] (xW E ad Q kv S) (fun rv w => rv = some (.int r) ∧ w = xW E ad Q kv S2) :=
  CP.of (lv := [(0, .ref (ad 10)), (1, .int a1)]) (by decide +kernel) (Nat.le_of_ble_eq_true rfl) rfl (fun X hl hE hro hX hq hn => by subst hl; subst hE; exact t_X11_then_0 (fun z hz => by rw [hro]; exact hz) hRk hX hq ⟨rfl, rfl⟩ a1 S hf)
def f_X11_tellsFloors_25 (RD : Nat → Nat × Int32 × Int32 × Int32) (S : MS) : Option (Int32 × MS) :=
  some (0, S)
def f_X11_tellsFloors (RD : Nat → Nat × Int32 × Int32 × Int32) (p1 : Nat) (S : MS) : Option (Int32 × MS) :=
  gk p1 4 <|
  cb (f_X7_isMissing (hV p1 S)) fun r4 S2 =>
  if (r4 = 0 : Prop) then
    gk p1 4 <|
    if (((hJ p1 S S2).2 6) < ((hJ p1 S S2).2 (46 + p1)) : Prop) then
      f_X11_tellsFloors_25 RD (hJ p1 S S2)
    else
      some (1, (hJ p1 S S2))
  else
    f_X11_tellsFloors_25 RD (hJ p1 S S2)
set_option maxRecDepth 100000 in
set_option maxHeartbeats 4000000 in
theorem t_X11_tellsFloors_25 {X : Cx} {ad Q : Nat → Nat} {kv : Value} {RD : Nat → Nat × Int32 × Int32 × Int32} (hro : ∀ z ∈ roL Q RD, z ∈ X.ro) (hRk : ∀ k, k < 6 → isRk (RD k).1) {PostX : Option Value → va_W → Prop} (hX : Ok X cX11_tellsFloors 2 RX11) (hq : Rq X 1 0 0 (some .boolean) PostX) {u : (Int32 × MS)} (hp : PostX (some (.int u.1)) (xW X.E ad Q kv u.2)) (S : MS) (hf : f_X11_tellsFloors_25 RD S = some u) : G X 2 0 0 25 [(0, .ref (ad 10))] [] (xW X.E ad Q kv S) := by
  unfold f_X11_tellsFloors_25 at hf
  refine g_iconst hX (v := 0) (by decide) dX11_tellsFloors_25 ?_
  obtain rfl := oi hf
  exact g_zret hX hq (by decide) (by decide) (by rfl) hp dX11_tellsFloors_26
set_option maxRecDepth 100000 in
set_option maxHeartbeats 4000000 in
theorem t_X11_tellsFloors_0 {X : Cx} {ad Q : Nat → Nat} {kv : Value} {RD : Nat → Nat × Int32 × Int32 × Int32} (hro : ∀ z ∈ roL Q RD, z ∈ X.ro) (hRk : ∀ k, k < 6 → isRk (RD k).1) {PostX : Option Value → va_W → Prop} (hX : Ok X cX11_tellsFloors 2 RX11) (hq : Rq X 1 0 0 (some .boolean) PostX) {u : (Int32 × MS)} (hp : PostX (some (.int u.1)) (xW X.E ad Q kv u.2)) (p1 : Nat) (S : MS) (hf : f_X11_tellsFloors RD p1 S = some u) : G X 2 0 0 0 [(0, .ref (ad 10)), (1, .ref (ad (20 + p1)))] [] (xW X.E ad Q kv S) := by
  unfold f_X11_tellsFloors at hf
  refine g_aloadn hX 1 rfl rfl dX11_tellsFloors_0 ?_
  obtain ⟨h1, hf⟩ := gk_open hf
  obtain ⟨r4, S2, h3, hf⟩ := cb_open hf
  refine kx_X7_isMissing h1 hX hq h3 (by decide) (by decide) (by decide) (Nat.le_of_ble_eq_true rfl) dX11_tellsFloors_1 ?_
  refine g_if_ne hX 25 (by decide) dX11_tellsFloors_4 (fun c5 => ?_) (fun c5 => ?_)
  · have hf := ite_f c5 hf
    refine g_lv [0] rfl ?_
    exact t_X11_tellsFloors_25 hro hRk hX hq hp _ hf
  · have hf := ite_t c5 hf
    refine g_aloadn hX 1 rfl rfl dX11_tellsFloors_7 ?_
    obtain ⟨h6, hf⟩ := gk_open hf
    refine xg_slength hX h6 dX11_tellsFloors_8 ?_
    refine g_aloadn hX 0 rfl rfl dX11_tellsFloors_11 ?_
    refine xg_lift hX dX11_tellsFloors_12 ?_
    refine xg_riderCount hX (v := (hJ p1 S S2).2 6) rfl dX11_tellsFloors_15 ?_
    refine g_icmp_gt hX 25 (by decide) dX11_tellsFloors_18 (fun c7 => ?_) (fun c7 => ?_)
    · have hf := ite_t c7 hf
      refine g_lv [0] rfl ?_
      exact t_X11_tellsFloors_25 hro hRk hX hq hp _ hf
    · have hf := ite_f c7 hf
      refine g_iconst hX (v := 1) (by decide) dX11_tellsFloors_21 ?_
      refine g_goto hX 26 (by decide) dX11_tellsFloors_22 ?_
      obtain rfl := oi hf
      exact g_zret hX hq (by decide) (by decide) (by rfl) hp dX11_tellsFloors_26
theorem c_X11_tellsFloors {l : Launch} {E : En} {ad Q : Nat → Nat} {kv : Value} {RD : Nat → Nat × Int32 × Int32 × Int32} (hRk : ∀ k, k < 6 → isRk (RD k).1) {p1 : Nat} {r : Int32} {S S2 : MS} (hf : f_X11_tellsFloors RD p1 S = some (r, S2)) : CP l E yX11_tellsFloors cX11_tellsFloors 2 (some .boolean) 1 0 0 (roL Q RD) [.ref (ad 10), .ref (ad (20 + p1))] (xW E ad Q kv S) (fun rv w => rv = some (.int r) ∧ w = xW E ad Q kv S2) :=
  CP.of (lv := [(0, .ref (ad 10)), (1, .ref (ad (20 + p1)))]) (by decide +kernel) (Nat.le_of_ble_eq_true rfl) rfl (fun X hl hE hro hX hq hn => by subst hl; subst hE; exact t_X11_tellsFloors_0 (fun z hz => by rw [hro]; exact hz) hRk hX hq ⟨rfl, rfl⟩ p1 S hf)
theorem kw_RX11_X11_tellsFloors : KwV RX11 197 RX11 yX11_tellsFloors cX11_tellsFloors 2 (some .boolean) 1 := ⟨mem_wsV wd_4_18 wd_4_20 wd_s_14 wd_1_1 wd_4_21, rfl, ⟨by decide +kernel, by decide +kernel, by decide +kernel⟩, by decide⟩
theorem k_X11_tellsFloors {X : Cx} {cc : ByteArray} {nL ce sl pc : Nat} {lv : List (Nat × Value)} {st : List Value} {dX mcX msX : Nat} {retX : Option FieldType} {PostX : Option Value → va_W → Prop} {ad Q : Nat → Nat} {kv : Value} {RD : Nat → Nat × Int32 × Int32 × Int32} {S S2 : MS} {d : Nat} (hro : ∀ z ∈ roL Q RD, z ∈ X.ro) (hX : Ok X cc nL RX11) (hq : Rq X dX mcX msX retX PostX) {p1 : Nat} {r : Int32} (hM : CP X.l X.E yX11_tellsFloors cX11_tellsFloors 2 (some .boolean) d 0 0 (roL Q RD) [.ref (ad 10), .ref (ad (20 + p1))] (xW X.E ad Q kv S) (fun rv w => rv = some (.int r) ∧ w = xW X.E ad Q kv S2)) (hd : d < dX) (hc : ce ≤ mcX) (hs : sl ≤ msX) (hcat : (st.map fun v => v.category).sum ≤ 8) (hdg : decode cc pc = .ok (.invokevirtual 197, 3)) (kk : G X nL ce sl (pc + 3) lv (.int r :: st) (xW X.E ad Q kv S2)) : G X nL ce sl pc lv (.ref (ad (20 + p1)) :: .ref (ad 10) :: st) (xW X.E ad Q kv S) :=
  g_eqW (app1 _) (g_callV (pre := []) (mid := xW X.E ad Q kv S) (post := []) [.ref (ad (20 + p1))] hX hq kw_RX11_X11_tellsFloors hM hro hd hc hs rfl (Recv.of 10 11 rfl rfl) rfl hcat hdg (fun rv ws2 hp => by obtain ⟨rfl, rfl⟩ := hp; exact g_eqW (app1 _).symm kk))
def f_X11_believed_16 (RD : Nat → Nat × Int32 × Int32 × Int32) (S : MS) : Option (Int32 × MS) :=
  cb (f_X11_error RD 1 S) fun r6 S4 =>
  some (r6, S4)
def f_X11_believed_93 (RD : Nat → Nat × Int32 × Int32 × Int32) (lp55 : Int32 → Nat → Int32 → Int32 → Int32 → Int32 → MS → Option (Int32 × MS)) (x2 : Int32) (p3 : Nat) (x4 : Int32) (x5 : Int32) (x6 : Int32) (x7 : Int32) (S : MS) : Option (Int32 × MS) :=
  cs (f_X11_next x6) fun r25 =>
  bI (x7 + 1) fun v27 =>
  lp55 x2 p3 x4 x5 r25 v27 S
def f_X11_believed_91 (RD : Nat → Nat × Int32 × Int32 × Int32) (lp55 : Int32 → Nat → Int32 → Int32 → Int32 → Int32 → MS → Option (Int32 × MS)) (x2 : Int32) (p3 : Nat) (x4 : Int32) (x6 : Int32) (x7 : Int32) (y0 : Int32) (S : MS) : Option (Int32 × MS) :=
  f_X11_believed_93 RD lp55 x2 p3 x4 y0 x6 x7 S
def f_X11_believed_55 (RD : Nat → Nat × Int32 × Int32 × Int32) : Nat → Int32 → Nat → Int32 → Int32 → Int32 → Int32 → MS → Option (Int32 × MS)
  | 0 => fun _ _ _ _ _ _ _ => none
  | n + 1 => fun x2 p3 x4 x5 x6 x7 S =>
    let lp55 := f_X11_believed_55 RD n
    if (6561 ≤ x7 : Prop) then
      if (x2 = 0 : Prop) then
        some (x4, S)
      else
        if (0 ≤ x5 : Prop) then
          some (x5, S)
        else
          cb (f_X11_error RD 2 S) fun r19 S17 =>
          some (r19, S17)
    else
      gk p3 4 <|
      cb (f_X4_hasFloors RD (S.2 (46 + p3)) (S.1 (10 + p3)) x6 S) fun r21 S22 =>
      if (r21 = 0 : Prop) then
        f_X11_believed_93 RD lp55 x2 p3 x4 x5 x6 x7 (sL S S22)
      else
        bI (x4 + 1) fun v28 =>
        if (0 ≤ x5 : Prop) then
          f_X11_believed_91 RD lp55 x2 p3 v28 x6 x7 x5 (sL S S22)
        else
          f_X11_believed_91 RD lp55 x2 p3 v28 x6 x7 x7 (sL S S22)
def f_X11_believed (RD : Nat → Nat × Int32 × Int32 × Int32) (a1 : Int32) (a2 : Int32) (S : MS) : Option (Int32 × MS) :=
  cs (f_X11_isSheet a1) fun r1 =>
  if (r1 = 0 : Prop) then
    f_X11_believed_16 RD S
  else
    if (a2 < 0 : Prop) then
      f_X11_believed_16 RD S
    else
      if (a2 ≤ 1 : Prop) then
        gix a1 4 fun k9 =>
        cb (f_X11_tellsFloors RD k9 S) fun r12 S10 =>
        if (r12 = 0 : Prop) then
          cb (f_X11_error RD 2 S10) fun r32 S30 =>
          some (r32, S30)
        else
          f_X11_believed_55 RD 7000 a2 k9 0 (-1) 0 0 S10
      else
        f_X11_believed_16 RD S
set_option maxRecDepth 100000 in
set_option maxHeartbeats 4000000 in
theorem t_X11_believed_16 {X : Cx} {ad Q : Nat → Nat} {kv : Value} {RD : Nat → Nat × Int32 × Int32 × Int32} (hro : ∀ z ∈ roL Q RD, z ∈ X.ro) (hRk : ∀ k, k < 6 → isRk (RD k).1) {PostX : Option Value → va_W → Prop} (hX : Ok X cX11_believed 8 RX11) (hq : Rq X 7 0 0 (some .int) PostX) {u : (Int32 × MS)} (hp : PostX (some (.int u.1)) (xW X.E ad Q kv u.2)) (S : MS) (hf : f_X11_believed_16 RD S = some u) : G X 8 0 0 16 [(0, .ref (ad 10))] [] (xW X.E ad Q kv S) := by
  unfold f_X11_believed_16 at hf
  refine g_aloadn hX 0 rfl rfl dX11_believed_16 ?_
  refine g_iconst hX (v := 1) (by decide) dX11_believed_17 ?_
  obtain ⟨r6, S4, h5, hf⟩ := cb_open hf
  refine k_X11_error hro hX hq (c_X11_error hRk h5) (by decide) (by decide) (by decide) (Nat.le_of_ble_eq_true rfl) dX11_believed_18 ?_
  obtain rfl := oi hf
  exact g_iret hX hq (by decide) (by decide) hp dX11_believed_21
set_option maxRecDepth 100000 in
set_option maxHeartbeats 4000000 in
theorem t_X11_believed_93 {X : Cx} {ad Q : Nat → Nat} {kv : Value} {RD : Nat → Nat × Int32 × Int32 × Int32} (hro : ∀ z ∈ roL Q RD, z ∈ X.ro) (hRk : ∀ k, k < 6 → isRk (RD k).1) {PostX : Option Value → va_W → Prop} (hX : Ok X cX11_believed 8 RX11) (hq : Rq X 7 0 0 (some .int) PostX) {u : (Int32 × MS)} (hp : PostX (some (.int u.1)) (xW X.E ad Q kv u.2)) {lp55 : Int32 → Nat → Int32 → Int32 → Int32 → Int32 → MS → Option (Int32 × MS)} (hlp55 : ∀ (x2 : Int32) (p3 : Nat) (x4 : Int32) (x5 : Int32) (x6 : Int32) (x7 : Int32) (S : MS), lp55 x2 p3 x4 x5 x6 x7 S = some u → G X 8 0 0 55 [(0, .ref (ad 10)), (2, .int x2), (3, .ref (ad (20 + p3))), (4, .int x4), (5, .int x5), (6, .int x6), (7, .int x7)] [] (xW X.E ad Q kv S)) (x2 : Int32) (p3 : Nat) (x4 : Int32) (x5 : Int32) (x6 : Int32) (x7 : Int32) (S : MS) (hf : f_X11_believed_93 RD lp55 x2 p3 x4 x5 x6 x7 S = some u) : G X 8 0 0 93 [(0, .ref (ad 10)), (2, .int x2), (3, .ref (ad (20 + p3))), (4, .int x4), (5, .int x5), (6, .int x6), (7, .int x7)] [] (xW X.E ad Q kv S) := by
  unfold f_X11_believed_93 at hf
  refine g_iload hX 5 rfl dX11_believed_93 ?_
  obtain ⟨r25, h26, hf⟩ := cs_open hf
  refine k_RX11_X11_next hX hq h26 (by decide) (by decide) (by decide) (Nat.le_of_ble_eq_true rfl) dX11_believed_95 ?_
  refine g_istore hX [(6, .int r25), (0, .ref (ad 10)), (2, .int x2), (3, .ref (ad (20 + p3))), (4, .int x4), (5, .int x5), (7, .int x7)] (by decide) rfl dX11_believed_98 ?_
  obtain ⟨v27, ev27, hf⟩ := bI_open hf
  refine g_iinc hX 6 (v := v27) [(7, .int v27), (6, .int r25), (0, .ref (ad 10)), (2, .int x2), (3, .ref (ad (20 + p3))), (4, .int x4), (5, .int x5)] rfl (by rw [ev27]; rfl) (by decide) rfl dX11_believed_100 ?_
  refine g_goto hX 55 (by decide) dX11_believed_103 ?_
  refine g_lv [2, 3, 4, 5, 6, 1, 0] rfl ?_
  exact hlp55 _ _ _ _ _ _ _ hf
set_option maxRecDepth 100000 in
set_option maxHeartbeats 4000000 in
theorem t_X11_believed_91 {X : Cx} {ad Q : Nat → Nat} {kv : Value} {RD : Nat → Nat × Int32 × Int32 × Int32} (hro : ∀ z ∈ roL Q RD, z ∈ X.ro) (hRk : ∀ k, k < 6 → isRk (RD k).1) {PostX : Option Value → va_W → Prop} (hX : Ok X cX11_believed 8 RX11) (hq : Rq X 7 0 0 (some .int) PostX) {u : (Int32 × MS)} (hp : PostX (some (.int u.1)) (xW X.E ad Q kv u.2)) {lp55 : Int32 → Nat → Int32 → Int32 → Int32 → Int32 → MS → Option (Int32 × MS)} (hlp55 : ∀ (x2 : Int32) (p3 : Nat) (x4 : Int32) (x5 : Int32) (x6 : Int32) (x7 : Int32) (S : MS), lp55 x2 p3 x4 x5 x6 x7 S = some u → G X 8 0 0 55 [(0, .ref (ad 10)), (2, .int x2), (3, .ref (ad (20 + p3))), (4, .int x4), (5, .int x5), (6, .int x6), (7, .int x7)] [] (xW X.E ad Q kv S)) (x2 : Int32) (p3 : Nat) (x4 : Int32) (x6 : Int32) (x7 : Int32) (y0 : Int32) (S : MS) (hf : f_X11_believed_91 RD lp55 x2 p3 x4 x6 x7 y0 S = some u) : G X 8 0 0 91 [(0, .ref (ad 10)), (2, .int x2), (3, .ref (ad (20 + p3))), (4, .int x4), (6, .int x6), (7, .int x7)] [.int y0] (xW X.E ad Q kv S) := by
  unfold f_X11_believed_91 at hf
  refine g_istore hX [(5, .int y0), (0, .ref (ad 10)), (2, .int x2), (3, .ref (ad (20 + p3))), (4, .int x4), (6, .int x6), (7, .int x7)] (by decide) rfl dX11_believed_91 ?_
  refine g_lv [1, 2, 3, 4, 0, 5, 6] rfl ?_
  exact t_X11_believed_93 hro hRk hX hq hp hlp55 _ _ _ _ _ _ _ hf
set_option maxRecDepth 100000 in
set_option maxHeartbeats 4000000 in
theorem t_X11_believed_55 {X : Cx} {ad Q : Nat → Nat} {kv : Value} {RD : Nat → Nat × Int32 × Int32 × Int32} (hro : ∀ z ∈ roL Q RD, z ∈ X.ro) (hRk : ∀ k, k < 6 → isRk (RD k).1) {PostX : Option Value → va_W → Prop} (hX : Ok X cX11_believed 8 RX11) (hq : Rq X 7 0 0 (some .int) PostX) {u : (Int32 × MS)} (hp : PostX (some (.int u.1)) (xW X.E ad Q kv u.2)) : ∀ (n : Nat) (x2 : Int32) (p3 : Nat) (x4 : Int32) (x5 : Int32) (x6 : Int32) (x7 : Int32) (S : MS), f_X11_believed_55 RD n x2 p3 x4 x5 x6 x7 S = some u → G X 8 0 0 55 [(0, .ref (ad 10)), (2, .int x2), (3, .ref (ad (20 + p3))), (4, .int x4), (5, .int x5), (6, .int x6), (7, .int x7)] [] (xW X.E ad Q kv S) := by
  intro n
  induction n with
  | zero => intro _ _ _ _ _ _ _ hf; unfold f_X11_believed_55 at hf; cases hf
  | succ n hlp55 =>
  intro x2 p3 x4 x5 x6 x7 S hf
  unfold f_X11_believed_55 at hf
  refine g_iload hX 6 rfl dX11_believed_55 ?_
  refine g_sipush hX (v := 6561) (by decide) dX11_believed_57 ?_
  refine g_icmp_ge hX 106 (by decide) dX11_believed_60 (fun c14 => ?_) (fun c14 => ?_)
  · have hf := ite_t c14 hf
    refine g_iloadn hX 1 rfl rfl dX11_believed_106 ?_
    refine g_if_ne hX 113 (by decide) dX11_believed_107 (fun c15 => ?_) (fun c15 => ?_)
    · have hf := ite_f c15 hf
      refine g_iload hX 4 rfl dX11_believed_113 ?_
      refine g_if_ge hX 126 (by decide) dX11_believed_115 (fun c16 => ?_) (fun c16 => ?_)
      · have hf := ite_t c16 hf
        refine g_iload hX 4 rfl dX11_believed_126 ?_
        obtain rfl := oi hf
        exact g_iret hX hq (by decide) (by decide) hp dX11_believed_128
      · have hf := ite_f c16 hf
        refine g_aloadn hX 0 rfl rfl dX11_believed_118 ?_
        refine g_iconst hX (v := 2) (by decide) dX11_believed_119 ?_
        obtain ⟨r19, S17, h18, hf⟩ := cb_open hf
        refine k_X11_error hro hX hq (c_X11_error hRk h18) (by decide) (by decide) (by decide) (Nat.le_of_ble_eq_true rfl) dX11_believed_120 ?_
        refine g_goto hX 128 (by decide) dX11_believed_123 ?_
        obtain rfl := oi hf
        exact g_iret hX hq (by decide) (by decide) hp dX11_believed_128
    · have hf := ite_t c15 hf
      refine g_iload hX 3 rfl dX11_believed_110 ?_
      obtain rfl := oi hf
      exact g_iret hX hq (by decide) (by decide) hp dX11_believed_112
  · have hf := ite_f c14 hf
    refine g_aloadn hX 0 rfl rfl dX11_believed_63 ?_
    refine xg_lift hX dX11_believed_64 ?_
    refine g_aloadn hX 2 rfl rfl dX11_believed_67 ?_
    refine g_iload hX 5 rfl dX11_believed_68 ?_
    obtain ⟨h20, hf⟩ := gk_open hf
    obtain ⟨r21, S22, h23, hf⟩ := cb_open hf
    refine kx_hasFloors hro h20 hX hq h23 (by decide) (by decide) (by decide) (Nat.le_of_ble_eq_true rfl) dX11_believed_70 ?_
    refine g_if_eq hX 93 (by decide) dX11_believed_73 (fun c24 => ?_) (fun c24 => ?_)
    · have hf := ite_t c24 hf
      exact t_X11_believed_93 hro hRk hX hq hp hlp55 _ _ _ _ _ _ _ hf
    · have hf := ite_f c24 hf
      obtain ⟨v28, ev28, hf⟩ := bI_open hf
      refine g_iinc hX 3 (v := v28) [(4, .int v28), (0, .ref (ad 10)), (2, .int x2), (3, .ref (ad (20 + p3))), (5, .int x5), (6, .int x6), (7, .int x7)] rfl (by rw [ev28]; rfl) (by decide) rfl dX11_believed_76 ?_
      refine g_iload hX 4 rfl dX11_believed_79 ?_
      refine g_if_ge hX 89 (by decide) dX11_believed_81 (fun c29 => ?_) (fun c29 => ?_)
      · have hf := ite_t c29 hf
        refine g_iload hX 4 rfl dX11_believed_89 ?_
        refine g_lv [1, 2, 3, 0, 5, 6] rfl ?_
        exact t_X11_believed_91 hro hRk hX hq hp hlp55 _ _ _ _ _ _ _ hf
      · have hf := ite_f c29 hf
        refine g_iload hX 6 rfl dX11_believed_84 ?_
        refine g_goto hX 91 (by decide) dX11_believed_86 ?_
        refine g_lv [1, 2, 3, 0, 5, 6] rfl ?_
        exact t_X11_believed_91 hro hRk hX hq hp hlp55 _ _ _ _ _ _ _ hf
set_option maxRecDepth 100000 in
set_option maxHeartbeats 4000000 in
theorem t_X11_believed_0 {X : Cx} {ad Q : Nat → Nat} {kv : Value} {RD : Nat → Nat × Int32 × Int32 × Int32} (hro : ∀ z ∈ roL Q RD, z ∈ X.ro) (hRk : ∀ k, k < 6 → isRk (RD k).1) {PostX : Option Value → va_W → Prop} (hX : Ok X cX11_believed 8 RX11) (hq : Rq X 7 0 0 (some .int) PostX) {u : (Int32 × MS)} (hp : PostX (some (.int u.1)) (xW X.E ad Q kv u.2)) (a1 : Int32) (a2 : Int32) (S : MS) (hf : f_X11_believed RD a1 a2 S = some u) : G X 8 0 0 0 [(0, .ref (ad 10)), (1, .int a1), (2, .int a2)] [] (xW X.E ad Q kv S) := by
  unfold f_X11_believed at hf
  refine g_iloadn hX 1 rfl rfl dX11_believed_0 ?_
  obtain ⟨r1, h2, hf⟩ := cs_open hf
  refine k_RX11_X11_isSheet hX hq h2 (by decide) (by decide) (by decide) (Nat.le_of_ble_eq_true rfl) dX11_believed_1 ?_
  refine g_if_eq hX 16 (by decide) dX11_believed_4 (fun c3 => ?_) (fun c3 => ?_)
  · have hf := ite_t c3 hf
    refine g_lv [0] rfl ?_
    exact t_X11_believed_16 hro hRk hX hq hp _ hf
  · have hf := ite_f c3 hf
    refine g_iloadn hX 2 rfl rfl dX11_believed_7 ?_
    refine g_if_lt hX 16 (by decide) dX11_believed_8 (fun c7 => ?_) (fun c7 => ?_)
    · have hf := ite_t c7 hf
      refine g_lv [0] rfl ?_
      exact t_X11_believed_16 hro hRk hX hq hp _ hf
    · have hf := ite_f c7 hf
      refine g_iloadn hX 2 rfl rfl dX11_believed_11 ?_
      refine g_iconst hX (v := 1) (by decide) dX11_believed_12 ?_
      refine g_icmp_le hX 22 (by decide) dX11_believed_13 (fun c8 => ?_) (fun c8 => ?_)
      · have hf := ite_t c8 hf
        refine g_aloadn hX 0 rfl rfl dX11_believed_22 ?_
        refine xg_sheets hX dX11_believed_23 ?_
        refine g_iloadn hX 1 rfl rfl dX11_believed_26 ?_
        obtain ⟨k9, jk9, ik9, hf⟩ := gix_open hf
        refine xl_sheets hX ik9 k9 jk9 dX11_believed_27 ?_
        refine g_astoren hX [(3, .ref (ad (20 + k9))), (0, .ref (ad 10)), (1, .int a1), (2, .int a2)] rfl (by decide) rfl dX11_believed_28 ?_
        refine g_aloadn hX 1 rfl rfl dX11_believed_29 ?_
        refine g_aloadn hX 0 rfl rfl dX11_believed_30 ?_
        obtain ⟨r12, S10, h11, hf⟩ := cb_open hf
        refine k_X11_tellsFloors hro hX hq (c_X11_tellsFloors hRk h11) (by decide) (by decide) (by decide) (Nat.le_of_ble_eq_true rfl) dX11_believed_31 ?_
        refine g_if_ne hX 43 (by decide) dX11_believed_34 (fun c13 => ?_) (fun c13 => ?_)
        · have hf := ite_f c13 hf
          refine g_iconst hX (v := 0) (by decide) dX11_believed_43 ?_
          refine g_istore hX [(4, .int 0), (3, .ref (ad (20 + k9))), (0, .ref (ad 10)), (1, .int a1), (2, .int a2)] (by decide) rfl dX11_believed_44 ?_
          refine g_iconst hX (v := (-1)) (by decide) dX11_believed_46 ?_
          refine g_istore hX [(5, .int (-1)), (4, .int 0), (3, .ref (ad (20 + k9))), (0, .ref (ad 10)), (1, .int a1), (2, .int a2)] (by decide) rfl dX11_believed_47 ?_
          refine g_iconst hX (v := 0) (by decide) dX11_believed_49 ?_
          refine g_istore hX [(6, .int 0), (5, .int (-1)), (4, .int 0), (3, .ref (ad (20 + k9))), (0, .ref (ad 10)), (1, .int a1), (2, .int a2)] (by decide) rfl dX11_believed_50 ?_
          refine g_iconst hX (v := 0) (by decide) dX11_believed_52 ?_
          refine g_istore hX [(7, .int 0), (6, .int 0), (5, .int (-1)), (4, .int 0), (3, .ref (ad (20 + k9))), (0, .ref (ad 10)), (1, .int a1), (2, .int a2)] (by decide) rfl dX11_believed_53 ?_
          refine g_lv [5, 7, 4, 3, 2, 1, 0] rfl ?_
          exact t_X11_believed_55 hro hRk hX hq hp _ _ _ _ _ _ _ _ hf
        · have hf := ite_t c13 hf
          refine g_aloadn hX 1 rfl rfl dX11_believed_37 ?_
          refine g_iconst hX (v := 2) (by decide) dX11_believed_38 ?_
          obtain ⟨r32, S30, h31, hf⟩ := cb_open hf
          refine k_X11_error hro hX hq (c_X11_error hRk h31) (by decide) (by decide) (by decide) (Nat.le_of_ble_eq_true rfl) dX11_believed_39 ?_
          obtain rfl := oi hf
          exact g_iret hX hq (by decide) (by decide) hp dX11_believed_42
      · have hf := ite_f c8 hf
        refine g_lv [0] rfl ?_
        exact t_X11_believed_16 hro hRk hX hq hp _ hf
theorem c_X11_believed {l : Launch} {E : En} {ad Q : Nat → Nat} {kv : Value} {RD : Nat → Nat × Int32 × Int32 × Int32} (hRk : ∀ k, k < 6 → isRk (RD k).1) {a1 : Int32} {a2 : Int32} {r : Int32} {S S2 : MS} (hf : f_X11_believed RD a1 a2 S = some (r, S2)) : CP l E yX11_believed cX11_believed 8 (some .int) 7 0 0 (roL Q RD) [.ref (ad 10), .int a1, .int a2] (xW E ad Q kv S) (fun rv w => rv = some (.int r) ∧ w = xW E ad Q kv S2) :=
  CP.of (lv := [(0, .ref (ad 10)), (1, .int a1), (2, .int a2)]) (by decide +kernel) (Nat.le_of_ble_eq_true rfl) rfl (fun X hl hE hro hX hq hn => by subst hl; subst hE; exact t_X11_believed_0 (fun z hz => by rw [hro]; exact hz) hRk hX hq ⟨rfl, rfl⟩ a1 a2 S hf)
def f_X11_unlikeFloors_93 (RD : Nat → Nat × Int32 × Int32 × Int32) (x7 : Int32) (S : MS) : Option (Int32 × MS) :=
  cs (f_J6_bitCount_0f7a4 x7) fun r7 =>
  some (r7, S)
def f_X11_unlikeFloors_67 (RD : Nat → Nat × Int32 × Int32 × Int32) (x1 : Int32) (x3 : Int32) (x5 : Int32) (x6 : Int32) (x7 : Int32) (S : MS) : Option (Int32 × MS) :=
  if ((x3 &&& x6) = 0 : Prop) then
    f_X11_unlikeFloors_93 RD x7 S
  else
    cb (f_X4_floor RD x1 x5 x6 S) fun r11 S9 =>
    bI (x7 ||| (jshl 2 r11)) fun v12 =>
    f_X11_unlikeFloors_93 RD v12 (sL S S9)
def f_X11_unlikeFloors_41 (RD : Nat → Nat × Int32 × Int32 × Int32) (x1 : Int32) (x3 : Int32) (x5 : Int32) (x6 : Int32) (x7 : Int32) (S : MS) : Option (Int32 × MS) :=
  if ((x3 &&& x5) = 0 : Prop) then
    f_X11_unlikeFloors_67 RD x1 x3 x5 x6 x7 S
  else
    cb (f_X4_floor RD x1 x5 x5 S) fun r15 S13 =>
    bI (x7 ||| (jshl 2 r15)) fun v16 =>
    f_X11_unlikeFloors_67 RD x1 x3 x5 x6 v16 (sL S S13)
def f_X11_unlikeFloors (RD : Nat → Nat × Int32 × Int32 × Int32) (a1 : Int32) (a2 : Int32) (a3 : Int32) (a4 : Int32) (S : MS) : Option (Int32 × MS) :=
  bI (jshl 1 a2) fun v1 =>
  cs (f_X11_turned v1) fun r2 =>
  if ((a4 &&& v1) = 0 : Prop) then
    f_X11_unlikeFloors_41 RD a1 a3 v1 r2 0 S
  else
    cb (f_X4_floor RD a1 v1 0 S) fun r19 S17 =>
    bI (0 ||| (jshl 2 r19)) fun v20 =>
    f_X11_unlikeFloors_41 RD a1 a3 v1 r2 v20 (sL S S17)
set_option maxRecDepth 100000 in
set_option maxHeartbeats 4000000 in
theorem t_X11_unlikeFloors_93 {X : Cx} {ad Q : Nat → Nat} {kv : Value} {RD : Nat → Nat × Int32 × Int32 × Int32} (hro : ∀ z ∈ roL Q RD, z ∈ X.ro) (hRk : ∀ k, k < 6 → isRk (RD k).1) {PostX : Option Value → va_W → Prop} (hX : Ok X cX11_unlikeFloors 8 RX11) (hq : Rq X 6 0 0 (some .int) PostX) {u : (Int32 × MS)} (hp : PostX (some (.int u.1)) (xW X.E ad Q kv u.2)) (x7 : Int32) (S : MS) (hf : f_X11_unlikeFloors_93 RD x7 S = some u) : G X 8 0 0 93 [(0, .ref (ad 10)), (7, .int x7)] [] (xW X.E ad Q kv S) := by
  unfold f_X11_unlikeFloors_93 at hf
  refine g_iload hX 1 rfl dX11_unlikeFloors_93 ?_
  obtain ⟨r7, h8, hf⟩ := cs_open hf
  refine k_RX11_J6_bitCount_0f7a4 hX hq h8 (by decide) (by decide) (by decide) (Nat.le_of_ble_eq_true rfl) dX11_unlikeFloors_95 ?_
  obtain rfl := oi hf
  exact g_iret hX hq (by decide) (by decide) hp dX11_unlikeFloors_98
set_option maxRecDepth 100000 in
set_option maxHeartbeats 4000000 in
theorem t_X11_unlikeFloors_67 {X : Cx} {ad Q : Nat → Nat} {kv : Value} {RD : Nat → Nat × Int32 × Int32 × Int32} (hro : ∀ z ∈ roL Q RD, z ∈ X.ro) (hRk : ∀ k, k < 6 → isRk (RD k).1) {PostX : Option Value → va_W → Prop} (hX : Ok X cX11_unlikeFloors 8 RX11) (hq : Rq X 6 0 0 (some .int) PostX) {u : (Int32 × MS)} (hp : PostX (some (.int u.1)) (xW X.E ad Q kv u.2)) (x1 : Int32) (x3 : Int32) (x5 : Int32) (x6 : Int32) (x7 : Int32) (S : MS) (hf : f_X11_unlikeFloors_67 RD x1 x3 x5 x6 x7 S = some u) : G X 8 0 0 67 [(0, .ref (ad 10)), (1, .int x1), (3, .int x3), (5, .int x5), (6, .int x6), (7, .int x7)] [] (xW X.E ad Q kv S) := by
  unfold f_X11_unlikeFloors_67 at hf
  refine g_iloadn hX 2 rfl rfl dX11_unlikeFloors_67 ?_
  refine g_iload hX 4 rfl dX11_unlikeFloors_68 ?_
  refine g_iand hX dX11_unlikeFloors_70 ?_
  refine g_if_eq hX 93 (by decide) dX11_unlikeFloors_71 (fun c6 => ?_) (fun c6 => ?_)
  · have hf := ite_t c6 hf
    refine g_lv [0, 5] rfl ?_
    exact t_X11_unlikeFloors_93 hro hRk hX hq hp _ _ hf
  · have hf := ite_f c6 hf
    refine g_iload hX 5 rfl dX11_unlikeFloors_74 ?_
    refine g_iconst hX (v := 2) (by decide) dX11_unlikeFloors_76 ?_
    refine g_aloadn hX 0 rfl rfl dX11_unlikeFloors_77 ?_
    refine xg_lift hX dX11_unlikeFloors_78 ?_
    refine g_iloadn hX 1 rfl rfl dX11_unlikeFloors_81 ?_
    refine g_iload hX 3 rfl dX11_unlikeFloors_82 ?_
    refine g_iload hX 4 rfl dX11_unlikeFloors_84 ?_
    obtain ⟨r11, S9, h10, hf⟩ := cb_open hf
    refine k4_X4_floor hro hX hq (c_X4_floor h10) (by decide) (by decide) (by decide) (Nat.le_of_ble_eq_true rfl) dX11_unlikeFloors_86 ?_
    refine g_jshl hX dX11_unlikeFloors_89 ?_
    refine g_ior hX dX11_unlikeFloors_90 ?_
    obtain ⟨v12, ev12, hf⟩ := bI_open hf
    refine g_nm ev12 ?_
    refine g_istore hX [(7, .int v12), (0, .ref (ad 10)), (1, .int x1), (3, .int x3), (5, .int x5), (6, .int x6)] (by decide) rfl dX11_unlikeFloors_91 ?_
    refine g_lv [1, 0] rfl ?_
    exact t_X11_unlikeFloors_93 hro hRk hX hq hp _ _ hf
set_option maxRecDepth 100000 in
set_option maxHeartbeats 4000000 in
theorem t_X11_unlikeFloors_41 {X : Cx} {ad Q : Nat → Nat} {kv : Value} {RD : Nat → Nat × Int32 × Int32 × Int32} (hro : ∀ z ∈ roL Q RD, z ∈ X.ro) (hRk : ∀ k, k < 6 → isRk (RD k).1) {PostX : Option Value → va_W → Prop} (hX : Ok X cX11_unlikeFloors 8 RX11) (hq : Rq X 6 0 0 (some .int) PostX) {u : (Int32 × MS)} (hp : PostX (some (.int u.1)) (xW X.E ad Q kv u.2)) (x1 : Int32) (x3 : Int32) (x5 : Int32) (x6 : Int32) (x7 : Int32) (S : MS) (hf : f_X11_unlikeFloors_41 RD x1 x3 x5 x6 x7 S = some u) : G X 8 0 0 41 [(0, .ref (ad 10)), (1, .int x1), (3, .int x3), (5, .int x5), (6, .int x6), (7, .int x7)] [] (xW X.E ad Q kv S) := by
  unfold f_X11_unlikeFloors_41 at hf
  refine g_iloadn hX 2 rfl rfl dX11_unlikeFloors_41 ?_
  refine g_iload hX 3 rfl dX11_unlikeFloors_42 ?_
  refine g_iand hX dX11_unlikeFloors_44 ?_
  refine g_if_eq hX 67 (by decide) dX11_unlikeFloors_45 (fun c5 => ?_) (fun c5 => ?_)
  · have hf := ite_t c5 hf
    exact t_X11_unlikeFloors_67 hro hRk hX hq hp _ _ _ _ _ _ hf
  · have hf := ite_f c5 hf
    refine g_iload hX 5 rfl dX11_unlikeFloors_48 ?_
    refine g_iconst hX (v := 2) (by decide) dX11_unlikeFloors_50 ?_
    refine g_aloadn hX 0 rfl rfl dX11_unlikeFloors_51 ?_
    refine xg_lift hX dX11_unlikeFloors_52 ?_
    refine g_iloadn hX 1 rfl rfl dX11_unlikeFloors_55 ?_
    refine g_iload hX 3 rfl dX11_unlikeFloors_56 ?_
    refine g_iload hX 3 rfl dX11_unlikeFloors_58 ?_
    obtain ⟨r15, S13, h14, hf⟩ := cb_open hf
    refine k4_X4_floor hro hX hq (c_X4_floor h14) (by decide) (by decide) (by decide) (Nat.le_of_ble_eq_true rfl) dX11_unlikeFloors_60 ?_
    refine g_jshl hX dX11_unlikeFloors_63 ?_
    refine g_ior hX dX11_unlikeFloors_64 ?_
    obtain ⟨v16, ev16, hf⟩ := bI_open hf
    refine g_nm ev16 ?_
    refine g_istore hX [(7, .int v16), (0, .ref (ad 10)), (1, .int x1), (3, .int x3), (5, .int x5), (6, .int x6)] (by decide) rfl dX11_unlikeFloors_65 ?_
    refine g_lv [1, 2, 3, 4, 5, 0] rfl ?_
    exact t_X11_unlikeFloors_67 hro hRk hX hq hp _ _ _ _ _ _ hf
set_option maxRecDepth 100000 in
set_option maxHeartbeats 4000000 in
theorem t_X11_unlikeFloors_0 {X : Cx} {ad Q : Nat → Nat} {kv : Value} {RD : Nat → Nat × Int32 × Int32 × Int32} (hro : ∀ z ∈ roL Q RD, z ∈ X.ro) (hRk : ∀ k, k < 6 → isRk (RD k).1) {PostX : Option Value → va_W → Prop} (hX : Ok X cX11_unlikeFloors 8 RX11) (hq : Rq X 6 0 0 (some .int) PostX) {u : (Int32 × MS)} (hp : PostX (some (.int u.1)) (xW X.E ad Q kv u.2)) (a1 : Int32) (a2 : Int32) (a3 : Int32) (a4 : Int32) (S : MS) (hf : f_X11_unlikeFloors RD a1 a2 a3 a4 S = some u) : G X 8 0 0 0 [(0, .ref (ad 10)), (1, .int a1), (2, .int a2), (3, .int a3), (4, .int a4)] [] (xW X.E ad Q kv S) := by
  unfold f_X11_unlikeFloors at hf
  refine g_iconst hX (v := 1) (by decide) dX11_unlikeFloors_0 ?_
  refine g_iloadn hX 2 rfl rfl dX11_unlikeFloors_1 ?_
  refine g_jshl hX dX11_unlikeFloors_2 ?_
  obtain ⟨v1, ev1, hf⟩ := bI_open hf
  refine g_nm ev1 ?_
  refine g_istore hX [(5, .int v1), (0, .ref (ad 10)), (1, .int a1), (2, .int a2), (3, .int a3), (4, .int a4)] (by decide) rfl dX11_unlikeFloors_3 ?_
  refine g_iload hX 0 rfl dX11_unlikeFloors_5 ?_
  obtain ⟨r2, h3, hf⟩ := cs_open hf
  refine k_RX11_X11_turned hX hq h3 (by decide) (by decide) (by decide) (Nat.le_of_ble_eq_true rfl) dX11_unlikeFloors_7 ?_
  refine g_istore hX [(6, .int r2), (5, .int v1), (0, .ref (ad 10)), (1, .int a1), (2, .int a2), (3, .int a3), (4, .int a4)] (by decide) rfl dX11_unlikeFloors_10 ?_
  refine g_iconst hX (v := 0) (by decide) dX11_unlikeFloors_12 ?_
  refine g_istore hX [(7, .int 0), (6, .int r2), (5, .int v1), (0, .ref (ad 10)), (1, .int a1), (2, .int a2), (3, .int a3), (4, .int a4)] (by decide) rfl dX11_unlikeFloors_13 ?_
  refine g_iload hX 7 rfl dX11_unlikeFloors_15 ?_
  refine g_iload hX 2 rfl dX11_unlikeFloors_17 ?_
  refine g_iand hX dX11_unlikeFloors_19 ?_
  refine g_if_eq hX 41 (by decide) dX11_unlikeFloors_20 (fun c4 => ?_) (fun c4 => ?_)
  · have hf := ite_t c4 hf
    refine g_lv [3, 4, 6, 2, 1, 0] rfl ?_
    exact t_X11_unlikeFloors_41 hro hRk hX hq hp _ _ _ _ _ _ hf
  · have hf := ite_f c4 hf
    refine g_iload hX 0 rfl dX11_unlikeFloors_23 ?_
    refine g_iconst hX (v := 2) (by decide) dX11_unlikeFloors_25 ?_
    refine g_aloadn hX 3 rfl rfl dX11_unlikeFloors_26 ?_
    refine xg_lift hX dX11_unlikeFloors_27 ?_
    refine g_iloadn hX 4 rfl rfl dX11_unlikeFloors_30 ?_
    refine g_iload hX 2 rfl dX11_unlikeFloors_31 ?_
    refine g_iconst hX (v := 0) (by decide) dX11_unlikeFloors_33 ?_
    obtain ⟨r19, S17, h18, hf⟩ := cb_open hf
    refine k4_X4_floor hro hX hq (c_X4_floor h18) (by decide) (by decide) (by decide) (Nat.le_of_ble_eq_true rfl) dX11_unlikeFloors_34 ?_
    refine g_jshl hX dX11_unlikeFloors_37 ?_
    refine g_ior hX dX11_unlikeFloors_38 ?_
    obtain ⟨v20, ev20, hf⟩ := bI_open hf
    refine g_nm ev20 ?_
    refine g_istore hX [(7, .int v20), (6, .int r2), (5, .int v1), (0, .ref (ad 10)), (1, .int a1), (2, .int a2), (3, .int a3), (4, .int a4)] (by decide) rfl dX11_unlikeFloors_39 ?_
    refine g_lv [3, 4, 6, 2, 1, 0] rfl ?_
    exact t_X11_unlikeFloors_41 hro hRk hX hq hp _ _ _ _ _ _ hf
theorem c_X11_unlikeFloors {l : Launch} {E : En} {ad Q : Nat → Nat} {kv : Value} {RD : Nat → Nat × Int32 × Int32 × Int32} (hRk : ∀ k, k < 6 → isRk (RD k).1) {a1 : Int32} {a2 : Int32} {a3 : Int32} {a4 : Int32} {r : Int32} {S S2 : MS} (hf : f_X11_unlikeFloors RD a1 a2 a3 a4 S = some (r, S2)) : CP l E yX11_unlikeFloors cX11_unlikeFloors 8 (some .int) 6 0 0 (roL Q RD) [.ref (ad 10), .int a1, .int a2, .int a3, .int a4] (xW E ad Q kv S) (fun rv w => rv = some (.int r) ∧ w = xW E ad Q kv S2) :=
  CP.of (lv := [(0, .ref (ad 10)), (1, .int a1), (2, .int a2), (3, .int a3), (4, .int a4)]) (by decide +kernel) (Nat.le_of_ble_eq_true rfl) rfl (fun X hl hE hro hX hq hn => by subst hl; subst hE; exact t_X11_unlikeFloors_0 (fun z hz => by rw [hro]; exact hz) hRk hX hq ⟨rfl, rfl⟩ a1 a2 a3 a4 S hf)
theorem kw_RX11_X11_unlikeFloors : KwV RX11 275 RX11 yX11_unlikeFloors cX11_unlikeFloors 8 (some .int) 4 := ⟨mem_wsV wd_4_38 wd_4_40 wd_s_16 wd_1_1 wd_4_41, rfl, ⟨by decide +kernel, by decide +kernel, by decide +kernel⟩, by decide⟩
theorem k_X11_unlikeFloors {X : Cx} {cc : ByteArray} {nL ce sl pc : Nat} {lv : List (Nat × Value)} {st : List Value} {dX mcX msX : Nat} {retX : Option FieldType} {PostX : Option Value → va_W → Prop} {ad Q : Nat → Nat} {kv : Value} {RD : Nat → Nat × Int32 × Int32 × Int32} {S S2 : MS} {d : Nat} (hro : ∀ z ∈ roL Q RD, z ∈ X.ro) (hX : Ok X cc nL RX11) (hq : Rq X dX mcX msX retX PostX) {a1 : Int32} {a2 : Int32} {a3 : Int32} {a4 : Int32} {r : Int32} (hM : CP X.l X.E yX11_unlikeFloors cX11_unlikeFloors 8 (some .int) d 0 0 (roL Q RD) [.ref (ad 10), .int a1, .int a2, .int a3, .int a4] (xW X.E ad Q kv S) (fun rv w => rv = some (.int r) ∧ w = xW X.E ad Q kv S2)) (hd : d < dX) (hc : ce ≤ mcX) (hs : sl ≤ msX) (hcat : (st.map fun v => v.category).sum ≤ 8) (hdg : decode cc pc = .ok (.invokevirtual 275, 3)) (kk : G X nL ce sl (pc + 3) lv (.int r :: st) (xW X.E ad Q kv S2)) : G X nL ce sl pc lv (.int a4 :: .int a3 :: .int a2 :: .int a1 :: .ref (ad 10) :: st) (xW X.E ad Q kv S) :=
  g_eqW (app1 _) (g_callV (pre := []) (mid := xW X.E ad Q kv S) (post := []) [.int a1, .int a2, .int a3, .int a4] hX hq kw_RX11_X11_unlikeFloors hM hro hd hc hs rfl (Recv.of 10 11 rfl rfl) rfl hcat hdg (fun rv ws2 hp => by obtain ⟨rfl, rfl⟩ := hp; exact g_eqW (app1 _).symm kk))
def f_X11_bestWord_42 (RD : Nat → Nat × Int32 × Int32 × Int32) (lp9 : Int32 → Int32 → Int32 → Int32 → Int32 → Int32 → Int32 → MS → Option (Int32 × MS)) (x1 : Int32) (x2 : Int32) (x3 : Int32) (x4 : Int32) (x5 : Int32) (x6 : Int32) (x7 : Int32) (S : MS) : Option (Int32 × MS) :=
  bI (x7 + 1) fun v7 =>
  lp9 x1 x2 x3 x4 x5 x6 v7 S
def f_X11_bestWord_9 (RD : Nat → Nat × Int32 × Int32 × Int32) : Nat → Int32 → Int32 → Int32 → Int32 → Int32 → Int32 → Int32 → MS → Option (Int32 × MS)
  | 0 => fun _ _ _ _ _ _ _ _ => none
  | n + 1 => fun x1 x2 x3 x4 x5 x6 x7 S =>
    let lp9 := f_X11_bestWord_9 RD n
    if (8 ≤ x7 : Prop) then
      if (x4 = 0 : Prop) then
        some (x5, S)
      else
        some (x6, S)
    else
      cb (f_X11_unlikeFloors RD x1 x7 x2 x3 S) fun r5 S3 =>
      if (r5 ≤ x6 : Prop) then
        f_X11_bestWord_42 RD lp9 x1 x2 x3 x4 x5 x6 x7 S3
      else
        f_X11_bestWord_42 RD lp9 x1 x2 x3 x4 x7 r5 x7 S3
def f_X11_bestWord (RD : Nat → Nat × Int32 × Int32 × Int32) (a1 : Int32) (a2 : Int32) (a3 : Int32) (a4 : Int32) (S : MS) : Option (Int32 × MS) :=
  f_X11_bestWord_9 RD 100 a1 a2 a3 a4 0 0 0 S
set_option maxRecDepth 100000 in
set_option maxHeartbeats 4000000 in
theorem t_X11_bestWord_42 {X : Cx} {ad Q : Nat → Nat} {kv : Value} {RD : Nat → Nat × Int32 × Int32 × Int32} (hro : ∀ z ∈ roL Q RD, z ∈ X.ro) (hRk : ∀ k, k < 6 → isRk (RD k).1) {PostX : Option Value → va_W → Prop} (hX : Ok X cX11_bestWord 9 RX11) (hq : Rq X 7 0 0 (some .int) PostX) {u : (Int32 × MS)} (hp : PostX (some (.int u.1)) (xW X.E ad Q kv u.2)) {lp9 : Int32 → Int32 → Int32 → Int32 → Int32 → Int32 → Int32 → MS → Option (Int32 × MS)} (hlp9 : ∀ (x1 : Int32) (x2 : Int32) (x3 : Int32) (x4 : Int32) (x5 : Int32) (x6 : Int32) (x7 : Int32) (S : MS), lp9 x1 x2 x3 x4 x5 x6 x7 S = some u → G X 9 0 0 9 [(0, .ref (ad 10)), (1, .int x1), (2, .int x2), (3, .int x3), (4, .int x4), (5, .int x5), (6, .int x6), (7, .int x7)] [] (xW X.E ad Q kv S)) (x1 : Int32) (x2 : Int32) (x3 : Int32) (x4 : Int32) (x5 : Int32) (x6 : Int32) (x7 : Int32) (S : MS) (hf : f_X11_bestWord_42 RD lp9 x1 x2 x3 x4 x5 x6 x7 S = some u) : G X 9 0 0 42 [(0, .ref (ad 10)), (1, .int x1), (2, .int x2), (3, .int x3), (4, .int x4), (5, .int x5), (6, .int x6), (7, .int x7)] [] (xW X.E ad Q kv S) := by
  unfold f_X11_bestWord_42 at hf
  obtain ⟨v7, ev7, hf⟩ := bI_open hf
  refine g_iinc hX 7 (v := v7) [(7, .int v7), (0, .ref (ad 10)), (1, .int x1), (2, .int x2), (3, .int x3), (4, .int x4), (5, .int x5), (6, .int x6)] rfl (by rw [ev7]; rfl) (by decide) rfl dX11_bestWord_42 ?_
  refine g_goto hX 9 (by decide) dX11_bestWord_45 ?_
  refine g_lv [1, 2, 3, 4, 5, 6, 7, 0] rfl ?_
  exact hlp9 _ _ _ _ _ _ _ _ hf
set_option maxRecDepth 100000 in
set_option maxHeartbeats 4000000 in
theorem t_X11_bestWord_9 {X : Cx} {ad Q : Nat → Nat} {kv : Value} {RD : Nat → Nat × Int32 × Int32 × Int32} (hro : ∀ z ∈ roL Q RD, z ∈ X.ro) (hRk : ∀ k, k < 6 → isRk (RD k).1) {PostX : Option Value → va_W → Prop} (hX : Ok X cX11_bestWord 9 RX11) (hq : Rq X 7 0 0 (some .int) PostX) {u : (Int32 × MS)} (hp : PostX (some (.int u.1)) (xW X.E ad Q kv u.2)) : ∀ (n : Nat) (x1 : Int32) (x2 : Int32) (x3 : Int32) (x4 : Int32) (x5 : Int32) (x6 : Int32) (x7 : Int32) (S : MS), f_X11_bestWord_9 RD n x1 x2 x3 x4 x5 x6 x7 S = some u → G X 9 0 0 9 [(0, .ref (ad 10)), (1, .int x1), (2, .int x2), (3, .int x3), (4, .int x4), (5, .int x5), (6, .int x6), (7, .int x7)] [] (xW X.E ad Q kv S) := by
  intro n
  induction n with
  | zero => intro _ _ _ _ _ _ _ _ hf; unfold f_X11_bestWord_9 at hf; cases hf
  | succ n hlp9 =>
  intro x1 x2 x3 x4 x5 x6 x7 S hf
  unfold f_X11_bestWord_9 at hf
  refine g_iload hX 7 rfl dX11_bestWord_9 ?_
  refine g_bipush hX (v := 8) (by decide) dX11_bestWord_11 ?_
  refine g_icmp_ge hX 48 (by decide) dX11_bestWord_13 (fun c1 => ?_) (fun c1 => ?_)
  · have hf := ite_t c1 hf
    refine g_iload hX 4 rfl dX11_bestWord_48 ?_
    refine g_if_ne hX 58 (by decide) dX11_bestWord_50 (fun c2 => ?_) (fun c2 => ?_)
    · have hf := ite_f c2 hf
      refine g_iload hX 6 rfl dX11_bestWord_58 ?_
      obtain rfl := oi hf
      exact g_iret hX hq (by decide) (by decide) hp dX11_bestWord_60
    · have hf := ite_t c2 hf
      refine g_iload hX 5 rfl dX11_bestWord_53 ?_
      refine g_goto hX 60 (by decide) dX11_bestWord_55 ?_
      obtain rfl := oi hf
      exact g_iret hX hq (by decide) (by decide) hp dX11_bestWord_60
  · have hf := ite_f c1 hf
    refine g_aloadn hX 0 rfl rfl dX11_bestWord_16 ?_
    refine g_iloadn hX 1 rfl rfl dX11_bestWord_17 ?_
    refine g_iload hX 7 rfl dX11_bestWord_18 ?_
    refine g_iloadn hX 2 rfl rfl dX11_bestWord_20 ?_
    refine g_iloadn hX 3 rfl rfl dX11_bestWord_21 ?_
    obtain ⟨r5, S3, h4, hf⟩ := cb_open hf
    refine k_X11_unlikeFloors hro hX hq (c_X11_unlikeFloors hRk h4) (by decide) (by decide) (by decide) (Nat.le_of_ble_eq_true rfl) dX11_bestWord_22 ?_
    refine g_istore hX [(8, .int r5), (0, .ref (ad 10)), (1, .int x1), (2, .int x2), (3, .int x3), (4, .int x4), (5, .int x5), (6, .int x6), (7, .int x7)] (by decide) rfl dX11_bestWord_25 ?_
    refine g_iload hX 0 rfl dX11_bestWord_27 ?_
    refine g_iload hX 7 rfl dX11_bestWord_29 ?_
    refine g_icmp_le hX 42 (by decide) dX11_bestWord_31 (fun c6 => ?_) (fun c6 => ?_)
    · have hf := ite_t c6 hf
      refine g_lv [1, 2, 3, 4, 5, 6, 7, 8] rfl ?_
      exact t_X11_bestWord_42 hro hRk hX hq hp hlp9 _ _ _ _ _ _ _ _ hf
    · have hf := ite_f c6 hf
      refine g_iload hX 8 rfl dX11_bestWord_34 ?_
      refine g_istore hX [(5, .int x7), (8, .int r5), (0, .ref (ad 10)), (1, .int x1), (2, .int x2), (3, .int x3), (4, .int x4), (6, .int x6), (7, .int x7)] (by decide) rfl dX11_bestWord_36 ?_
      refine g_iload hX 1 rfl dX11_bestWord_38 ?_
      refine g_istore hX [(6, .int r5), (5, .int x7), (8, .int r5), (0, .ref (ad 10)), (1, .int x1), (2, .int x2), (3, .int x3), (4, .int x4), (7, .int x7)] (by decide) rfl dX11_bestWord_40 ?_
      refine g_lv [3, 4, 5, 6, 7, 1, 0, 8] rfl ?_
      exact t_X11_bestWord_42 hro hRk hX hq hp hlp9 _ _ _ _ _ _ _ _ hf
set_option maxRecDepth 100000 in
set_option maxHeartbeats 4000000 in
theorem t_X11_bestWord_0 {X : Cx} {ad Q : Nat → Nat} {kv : Value} {RD : Nat → Nat × Int32 × Int32 × Int32} (hro : ∀ z ∈ roL Q RD, z ∈ X.ro) (hRk : ∀ k, k < 6 → isRk (RD k).1) {PostX : Option Value → va_W → Prop} (hX : Ok X cX11_bestWord 9 RX11) (hq : Rq X 7 0 0 (some .int) PostX) {u : (Int32 × MS)} (hp : PostX (some (.int u.1)) (xW X.E ad Q kv u.2)) (a1 : Int32) (a2 : Int32) (a3 : Int32) (a4 : Int32) (S : MS) (hf : f_X11_bestWord RD a1 a2 a3 a4 S = some u) : G X 9 0 0 0 [(0, .ref (ad 10)), (1, .int a1), (2, .int a2), (3, .int a3), (4, .int a4)] [] (xW X.E ad Q kv S) := by
  unfold f_X11_bestWord at hf
  refine g_iconst hX (v := 0) (by decide) dX11_bestWord_0 ?_
  refine g_istore hX [(5, .int 0), (0, .ref (ad 10)), (1, .int a1), (2, .int a2), (3, .int a3), (4, .int a4)] (by decide) rfl dX11_bestWord_1 ?_
  refine g_iconst hX (v := 0) (by decide) dX11_bestWord_3 ?_
  refine g_istore hX [(6, .int 0), (5, .int 0), (0, .ref (ad 10)), (1, .int a1), (2, .int a2), (3, .int a3), (4, .int a4)] (by decide) rfl dX11_bestWord_4 ?_
  refine g_iconst hX (v := 0) (by decide) dX11_bestWord_6 ?_
  refine g_istore hX [(7, .int 0), (6, .int 0), (5, .int 0), (0, .ref (ad 10)), (1, .int a1), (2, .int a2), (3, .int a3), (4, .int a4)] (by decide) rfl dX11_bestWord_7 ?_
  refine g_lv [3, 4, 5, 6, 7, 2, 1, 0] rfl ?_
  exact t_X11_bestWord_9 hro hRk hX hq hp _ _ _ _ _ _ _ _ _ hf
theorem c_X11_bestWord {l : Launch} {E : En} {ad Q : Nat → Nat} {kv : Value} {RD : Nat → Nat × Int32 × Int32 × Int32} (hRk : ∀ k, k < 6 → isRk (RD k).1) {a1 : Int32} {a2 : Int32} {a3 : Int32} {a4 : Int32} {r : Int32} {S S2 : MS} (hf : f_X11_bestWord RD a1 a2 a3 a4 S = some (r, S2)) : CP l E yX11_bestWord cX11_bestWord 9 (some .int) 7 0 0 (roL Q RD) [.ref (ad 10), .int a1, .int a2, .int a3, .int a4] (xW E ad Q kv S) (fun rv w => rv = some (.int r) ∧ w = xW E ad Q kv S2) :=
  CP.of (lv := [(0, .ref (ad 10)), (1, .int a1), (2, .int a2), (3, .int a3), (4, .int a4)]) (by decide +kernel) (Nat.le_of_ble_eq_true rfl) rfl (fun X hl hE hro hX hq hn => by subst hl; subst hE; exact t_X11_bestWord_0 (fun z hz => by rw [hro]; exact hz) hRk hX hq ⟨rfl, rfl⟩ a1 a2 a3 a4 S hf)
theorem kw_RX11_X11_bestWord : KwV RX11 208 RX11 yX11_bestWord cX11_bestWord 9 (some .int) 4 := ⟨mem_wsV wd_4_34 wd_4_36 wd_s_15 wd_1_1 wd_4_37, rfl, ⟨by decide +kernel, by decide +kernel, by decide +kernel⟩, by decide⟩
theorem k_X11_bestWord {X : Cx} {cc : ByteArray} {nL ce sl pc : Nat} {lv : List (Nat × Value)} {st : List Value} {dX mcX msX : Nat} {retX : Option FieldType} {PostX : Option Value → va_W → Prop} {ad Q : Nat → Nat} {kv : Value} {RD : Nat → Nat × Int32 × Int32 × Int32} {S S2 : MS} {d : Nat} (hro : ∀ z ∈ roL Q RD, z ∈ X.ro) (hX : Ok X cc nL RX11) (hq : Rq X dX mcX msX retX PostX) {a1 : Int32} {a2 : Int32} {a3 : Int32} {a4 : Int32} {r : Int32} (hM : CP X.l X.E yX11_bestWord cX11_bestWord 9 (some .int) d 0 0 (roL Q RD) [.ref (ad 10), .int a1, .int a2, .int a3, .int a4] (xW X.E ad Q kv S) (fun rv w => rv = some (.int r) ∧ w = xW X.E ad Q kv S2)) (hd : d < dX) (hc : ce ≤ mcX) (hs : sl ≤ msX) (hcat : (st.map fun v => v.category).sum ≤ 8) (hdg : decode cc pc = .ok (.invokevirtual 208, 3)) (kk : G X nL ce sl (pc + 3) lv (.int r :: st) (xW X.E ad Q kv S2)) : G X nL ce sl pc lv (.int a4 :: .int a3 :: .int a2 :: .int a1 :: .ref (ad 10) :: st) (xW X.E ad Q kv S) :=
  g_eqW (app1 _) (g_callV (pre := []) (mid := xW X.E ad Q kv S) (post := []) [.int a1, .int a2, .int a3, .int a4] hX hq kw_RX11_X11_bestWord hM hro hd hc hs rfl (Recv.of 10 11 rfl rfl) rfl hcat hdg (fun rv ws2 hp => by obtain ⟨rfl, rfl⟩ := hp; exact g_eqW (app1 _).symm kk))
def f_X11_word_24 (RD : Nat → Nat × Int32 × Int32 × Int32) (S : MS) : Option (Int32 × MS) :=
  cb (f_X11_error RD 1 S) fun r6 S4 =>
  some (r6, S4)
def f_X11_word_110 (RD : Nat → Nat × Int32 × Int32 × Int32) (lp65 : Int32 → Int32 → Nat → Int32 → Int32 → Int32 → Int32 → MS → Option (Int32 × MS)) (x2 : Int32) (x3 : Int32) (p4 : Nat) (x5 : Int32) (x6 : Int32) (x7 : Int32) (x8 : Int32) (S : MS) : Option (Int32 × MS) :=
  cs (f_X11_next x7) fun r32 =>
  bI (x8 + 1) fun v34 =>
  lp65 x2 x3 p4 x5 x6 r32 v34 S
def f_X11_word_139 (RD : Nat → Nat × Int32 × Int32 × Int32) (x2 : Int32) (x3 : Int32) (x5 : Int32) (x6 : Int32) (S : MS) : Option (Int32 × MS) :=
  cb (f_X11_bestWord RD x2 x5 x6 x3 S) fun r22 S20 =>
  some (r22, S20)
def f_X11_word_65 (RD : Nat → Nat × Int32 × Int32 × Int32) : Nat → Int32 → Int32 → Nat → Int32 → Int32 → Int32 → Int32 → MS → Option (Int32 × MS)
  | 0 => fun _ _ _ _ _ _ _ _ => none
  | n + 1 => fun x2 x3 p4 x5 x6 x7 x8 S =>
    let lp65 := f_X11_word_65 RD n
    if (6561 ≤ x8 : Prop) then
      if (x5 = 0 : Prop) then
        if (x6 = 0 : Prop) then
          cb (f_X11_error RD 2 S) fun r26 S24 =>
          some (r26, S24)
        else
          f_X11_word_139 RD x2 x3 x5 x6 S
      else
        f_X11_word_139 RD x2 x3 x5 x6 S
    else
      gk p4 4 <|
      cb (f_X4_hasFloors RD (S.2 (46 + p4)) (S.1 (10 + p4)) x7 S) fun r28 S29 =>
      if (r28 = 0 : Prop) then
        f_X11_word_110 RD lp65 x2 x3 p4 x5 x6 x7 x8 (sL S S29)
      else
        bI (x5 ||| x7) fun v35 =>
        cs (f_X11_factsOf x7) fun r36 =>
        bI (x6 ||| (255 &&& (r36 ^^^ (-1)))) fun v38 =>
        f_X11_word_110 RD lp65 x2 x3 p4 v35 v38 x7 x8 (sL S S29)
def f_X11_word (RD : Nat → Nat × Int32 × Int32 × Int32) (a1 : Int32) (a2 : Int32) (a3 : Int32) (S : MS) : Option (Int32 × MS) :=
  cs (f_X11_isSheet a1) fun r1 =>
  if (r1 = 0 : Prop) then
    f_X11_word_24 RD S
  else
    cb (f_X11_isRider RD a2 S) fun r9 S7 =>
    if (r9 = 0 : Prop) then
      f_X11_word_24 RD S7
    else
      if (a3 < 0 : Prop) then
        f_X11_word_24 RD S7
      else
        if (a3 ≤ 1 : Prop) then
          gix a1 4 fun k13 =>
          cb (f_X11_tellsFloors RD k13 S7) fun r16 S14 =>
          if (r16 = 0 : Prop) then
            cb (f_X11_error RD 2 S14) fun r41 S39 =>
            some (r41, S39)
          else
            f_X11_word_65 RD 7000 a2 a3 k13 0 0 0 0 S14
        else
          f_X11_word_24 RD S7
set_option maxRecDepth 100000 in
set_option maxHeartbeats 4000000 in
theorem t_X11_word_24 {X : Cx} {ad Q : Nat → Nat} {kv : Value} {RD : Nat → Nat × Int32 × Int32 × Int32} (hro : ∀ z ∈ roL Q RD, z ∈ X.ro) (hRk : ∀ k, k < 6 → isRk (RD k).1) {PostX : Option Value → va_W → Prop} (hX : Ok X cX11_word 9 RX11) (hq : Rq X 8 0 0 (some .int) PostX) {u : (Int32 × MS)} (hp : PostX (some (.int u.1)) (xW X.E ad Q kv u.2)) (S : MS) (hf : f_X11_word_24 RD S = some u) : G X 9 0 0 24 [(0, .ref (ad 10))] [] (xW X.E ad Q kv S) := by
  unfold f_X11_word_24 at hf
  refine g_aloadn hX 0 rfl rfl dX11_word_24 ?_
  refine g_iconst hX (v := 1) (by decide) dX11_word_25 ?_
  obtain ⟨r6, S4, h5, hf⟩ := cb_open hf
  refine k_X11_error hro hX hq (c_X11_error hRk h5) (by decide) (by decide) (by decide) (Nat.le_of_ble_eq_true rfl) dX11_word_26 ?_
  obtain rfl := oi hf
  exact g_iret hX hq (by decide) (by decide) hp dX11_word_29
set_option maxRecDepth 100000 in
set_option maxHeartbeats 4000000 in
theorem t_X11_word_110 {X : Cx} {ad Q : Nat → Nat} {kv : Value} {RD : Nat → Nat × Int32 × Int32 × Int32} (hro : ∀ z ∈ roL Q RD, z ∈ X.ro) (hRk : ∀ k, k < 6 → isRk (RD k).1) {PostX : Option Value → va_W → Prop} (hX : Ok X cX11_word 9 RX11) (hq : Rq X 8 0 0 (some .int) PostX) {u : (Int32 × MS)} (hp : PostX (some (.int u.1)) (xW X.E ad Q kv u.2)) {lp65 : Int32 → Int32 → Nat → Int32 → Int32 → Int32 → Int32 → MS → Option (Int32 × MS)} (hlp65 : ∀ (x2 : Int32) (x3 : Int32) (p4 : Nat) (x5 : Int32) (x6 : Int32) (x7 : Int32) (x8 : Int32) (S : MS), lp65 x2 x3 p4 x5 x6 x7 x8 S = some u → G X 9 0 0 65 [(0, .ref (ad 10)), (2, .int x2), (3, .int x3), (4, .ref (ad (20 + p4))), (5, .int x5), (6, .int x6), (7, .int x7), (8, .int x8)] [] (xW X.E ad Q kv S)) (x2 : Int32) (x3 : Int32) (p4 : Nat) (x5 : Int32) (x6 : Int32) (x7 : Int32) (x8 : Int32) (S : MS) (hf : f_X11_word_110 RD lp65 x2 x3 p4 x5 x6 x7 x8 S = some u) : G X 9 0 0 110 [(0, .ref (ad 10)), (2, .int x2), (3, .int x3), (4, .ref (ad (20 + p4))), (5, .int x5), (6, .int x6), (7, .int x7), (8, .int x8)] [] (xW X.E ad Q kv S) := by
  unfold f_X11_word_110 at hf
  refine g_iload hX 6 rfl dX11_word_110 ?_
  obtain ⟨r32, h33, hf⟩ := cs_open hf
  refine k_RX11_X11_next hX hq h33 (by decide) (by decide) (by decide) (Nat.le_of_ble_eq_true rfl) dX11_word_112 ?_
  refine g_istore hX [(7, .int r32), (0, .ref (ad 10)), (2, .int x2), (3, .int x3), (4, .ref (ad (20 + p4))), (5, .int x5), (6, .int x6), (8, .int x8)] (by decide) rfl dX11_word_115 ?_
  obtain ⟨v34, ev34, hf⟩ := bI_open hf
  refine g_iinc hX 7 (v := v34) [(8, .int v34), (7, .int r32), (0, .ref (ad 10)), (2, .int x2), (3, .int x3), (4, .ref (ad (20 + p4))), (5, .int x5), (6, .int x6)] rfl (by rw [ev34]; rfl) (by decide) rfl dX11_word_117 ?_
  refine g_goto hX 65 (by decide) dX11_word_120 ?_
  refine g_lv [2, 3, 4, 5, 6, 7, 1, 0] rfl ?_
  exact hlp65 _ _ _ _ _ _ _ _ hf
set_option maxRecDepth 100000 in
set_option maxHeartbeats 4000000 in
theorem t_X11_word_139 {X : Cx} {ad Q : Nat → Nat} {kv : Value} {RD : Nat → Nat × Int32 × Int32 × Int32} (hro : ∀ z ∈ roL Q RD, z ∈ X.ro) (hRk : ∀ k, k < 6 → isRk (RD k).1) {PostX : Option Value → va_W → Prop} (hX : Ok X cX11_word 9 RX11) (hq : Rq X 8 0 0 (some .int) PostX) {u : (Int32 × MS)} (hp : PostX (some (.int u.1)) (xW X.E ad Q kv u.2)) (x2 : Int32) (x3 : Int32) (x5 : Int32) (x6 : Int32) (S : MS) (hf : f_X11_word_139 RD x2 x3 x5 x6 S = some u) : G X 9 0 0 139 [(0, .ref (ad 10)), (2, .int x2), (3, .int x3), (5, .int x5), (6, .int x6)] [] (xW X.E ad Q kv S) := by
  unfold f_X11_word_139 at hf
  refine g_aloadn hX 0 rfl rfl dX11_word_139 ?_
  refine g_iloadn hX 1 rfl rfl dX11_word_140 ?_
  refine g_iload hX 3 rfl dX11_word_141 ?_
  refine g_iload hX 4 rfl dX11_word_143 ?_
  refine g_iloadn hX 2 rfl rfl dX11_word_145 ?_
  obtain ⟨r22, S20, h21, hf⟩ := cb_open hf
  refine k_X11_bestWord hro hX hq (c_X11_bestWord hRk h21) (by decide) (by decide) (by decide) (Nat.le_of_ble_eq_true rfl) dX11_word_146 ?_
  obtain rfl := oi hf
  exact g_iret hX hq (by decide) (by decide) hp dX11_word_149
set_option maxRecDepth 100000 in
set_option maxHeartbeats 4000000 in
theorem t_X11_word_65 {X : Cx} {ad Q : Nat → Nat} {kv : Value} {RD : Nat → Nat × Int32 × Int32 × Int32} (hro : ∀ z ∈ roL Q RD, z ∈ X.ro) (hRk : ∀ k, k < 6 → isRk (RD k).1) {PostX : Option Value → va_W → Prop} (hX : Ok X cX11_word 9 RX11) (hq : Rq X 8 0 0 (some .int) PostX) {u : (Int32 × MS)} (hp : PostX (some (.int u.1)) (xW X.E ad Q kv u.2)) : ∀ (n : Nat) (x2 : Int32) (x3 : Int32) (p4 : Nat) (x5 : Int32) (x6 : Int32) (x7 : Int32) (x8 : Int32) (S : MS), f_X11_word_65 RD n x2 x3 p4 x5 x6 x7 x8 S = some u → G X 9 0 0 65 [(0, .ref (ad 10)), (2, .int x2), (3, .int x3), (4, .ref (ad (20 + p4))), (5, .int x5), (6, .int x6), (7, .int x7), (8, .int x8)] [] (xW X.E ad Q kv S) := by
  intro n
  induction n with
  | zero => intro _ _ _ _ _ _ _ _ hf; unfold f_X11_word_65 at hf; cases hf
  | succ n hlp65 =>
  intro x2 x3 p4 x5 x6 x7 x8 S hf
  unfold f_X11_word_65 at hf
  refine g_iload hX 7 rfl dX11_word_65 ?_
  refine g_sipush hX (v := 6561) (by decide) dX11_word_67 ?_
  refine g_icmp_ge hX 123 (by decide) dX11_word_70 (fun c18 => ?_) (fun c18 => ?_)
  · have hf := ite_t c18 hf
    refine g_iload hX 4 rfl dX11_word_123 ?_
    refine g_if_ne hX 139 (by decide) dX11_word_125 (fun c19 => ?_) (fun c19 => ?_)
    · have hf := ite_f c19 hf
      refine g_lv [0, 1, 2, 4, 5] rfl ?_
      exact t_X11_word_139 hro hRk hX hq hp _ _ _ _ _ hf
    · have hf := ite_t c19 hf
      refine g_iload hX 5 rfl dX11_word_128 ?_
      refine g_if_ne hX 139 (by decide) dX11_word_130 (fun c23 => ?_) (fun c23 => ?_)
      · have hf := ite_f c23 hf
        refine g_lv [0, 1, 2, 4, 5] rfl ?_
        exact t_X11_word_139 hro hRk hX hq hp _ _ _ _ _ hf
      · have hf := ite_t c23 hf
        refine g_aloadn hX 0 rfl rfl dX11_word_133 ?_
        refine g_iconst hX (v := 2) (by decide) dX11_word_134 ?_
        obtain ⟨r26, S24, h25, hf⟩ := cb_open hf
        refine k_X11_error hro hX hq (c_X11_error hRk h25) (by decide) (by decide) (by decide) (Nat.le_of_ble_eq_true rfl) dX11_word_135 ?_
        obtain rfl := oi hf
        exact g_iret hX hq (by decide) (by decide) hp dX11_word_138
  · have hf := ite_f c18 hf
    refine g_aloadn hX 0 rfl rfl dX11_word_73 ?_
    refine xg_lift hX dX11_word_74 ?_
    refine g_aload hX 3 rfl dX11_word_77 ?_
    refine g_iload hX 6 rfl dX11_word_79 ?_
    obtain ⟨h27, hf⟩ := gk_open hf
    obtain ⟨r28, S29, h30, hf⟩ := cb_open hf
    refine kx_hasFloors hro h27 hX hq h30 (by decide) (by decide) (by decide) (Nat.le_of_ble_eq_true rfl) dX11_word_81 ?_
    refine g_if_eq hX 110 (by decide) dX11_word_84 (fun c31 => ?_) (fun c31 => ?_)
    · have hf := ite_t c31 hf
      exact t_X11_word_110 hro hRk hX hq hp hlp65 _ _ _ _ _ _ _ _ hf
    · have hf := ite_f c31 hf
      refine g_iload hX 4 rfl dX11_word_87 ?_
      refine g_iload hX 6 rfl dX11_word_89 ?_
      refine g_ior hX dX11_word_91 ?_
      obtain ⟨v35, ev35, hf⟩ := bI_open hf
      refine g_nm ev35 ?_
      refine g_istore hX [(5, .int v35), (0, .ref (ad 10)), (2, .int x2), (3, .int x3), (4, .ref (ad (20 + p4))), (6, .int x6), (7, .int x7), (8, .int x8)] (by decide) rfl dX11_word_92 ?_
      refine g_iload hX 5 rfl dX11_word_94 ?_
      refine g_sipush hX (v := 255) (by decide) dX11_word_96 ?_
      refine g_iload hX 6 rfl dX11_word_99 ?_
      obtain ⟨r36, h37, hf⟩ := cs_open hf
      refine k_RX11_X11_factsOf hX hq h37 (by decide) (by decide) (by decide) (Nat.le_of_ble_eq_true rfl) dX11_word_101 ?_
      refine g_iconst hX (v := (-1)) (by decide) dX11_word_104 ?_
      refine g_ixor hX dX11_word_105 ?_
      refine g_iand hX dX11_word_106 ?_
      refine g_ior hX dX11_word_107 ?_
      obtain ⟨v38, ev38, hf⟩ := bI_open hf
      refine g_nm ev38 ?_
      refine g_istore hX [(6, .int v38), (5, .int v35), (0, .ref (ad 10)), (2, .int x2), (3, .int x3), (4, .ref (ad (20 + p4))), (7, .int x7), (8, .int x8)] (by decide) rfl dX11_word_108 ?_
      refine g_lv [2, 3, 4, 5, 1, 0, 6, 7] rfl ?_
      exact t_X11_word_110 hro hRk hX hq hp hlp65 _ _ _ _ _ _ _ _ hf
set_option maxRecDepth 100000 in
set_option maxHeartbeats 4000000 in
theorem t_X11_word_0 {X : Cx} {ad Q : Nat → Nat} {kv : Value} {RD : Nat → Nat × Int32 × Int32 × Int32} (hro : ∀ z ∈ roL Q RD, z ∈ X.ro) (hRk : ∀ k, k < 6 → isRk (RD k).1) {PostX : Option Value → va_W → Prop} (hX : Ok X cX11_word 9 RX11) (hq : Rq X 8 0 0 (some .int) PostX) {u : (Int32 × MS)} (hp : PostX (some (.int u.1)) (xW X.E ad Q kv u.2)) (a1 : Int32) (a2 : Int32) (a3 : Int32) (S : MS) (hf : f_X11_word RD a1 a2 a3 S = some u) : G X 9 0 0 0 [(0, .ref (ad 10)), (1, .int a1), (2, .int a2), (3, .int a3)] [] (xW X.E ad Q kv S) := by
  unfold f_X11_word at hf
  refine g_iloadn hX 1 rfl rfl dX11_word_0 ?_
  obtain ⟨r1, h2, hf⟩ := cs_open hf
  refine k_RX11_X11_isSheet hX hq h2 (by decide) (by decide) (by decide) (Nat.le_of_ble_eq_true rfl) dX11_word_1 ?_
  refine g_if_eq hX 24 (by decide) dX11_word_4 (fun c3 => ?_) (fun c3 => ?_)
  · have hf := ite_t c3 hf
    refine g_lv [0] rfl ?_
    exact t_X11_word_24 hro hRk hX hq hp _ hf
  · have hf := ite_f c3 hf
    refine g_aloadn hX 0 rfl rfl dX11_word_7 ?_
    refine g_iloadn hX 2 rfl rfl dX11_word_8 ?_
    obtain ⟨r9, S7, h8, hf⟩ := cb_open hf
    refine k_X11_isRider hro hX hq (c_X11_isRider hRk h8) (by decide) (by decide) (by decide) (Nat.le_of_ble_eq_true rfl) dX11_word_9 ?_
    refine g_if_eq hX 24 (by decide) dX11_word_12 (fun c10 => ?_) (fun c10 => ?_)
    · have hf := ite_t c10 hf
      refine g_lv [0] rfl ?_
      exact t_X11_word_24 hro hRk hX hq hp _ hf
    · have hf := ite_f c10 hf
      refine g_iloadn hX 3 rfl rfl dX11_word_15 ?_
      refine g_if_lt hX 24 (by decide) dX11_word_16 (fun c11 => ?_) (fun c11 => ?_)
      · have hf := ite_t c11 hf
        refine g_lv [0] rfl ?_
        exact t_X11_word_24 hro hRk hX hq hp _ hf
      · have hf := ite_f c11 hf
        refine g_iloadn hX 3 rfl rfl dX11_word_19 ?_
        refine g_iconst hX (v := 1) (by decide) dX11_word_20 ?_
        refine g_icmp_le hX 30 (by decide) dX11_word_21 (fun c12 => ?_) (fun c12 => ?_)
        · have hf := ite_t c12 hf
          refine g_aloadn hX 0 rfl rfl dX11_word_30 ?_
          refine xg_sheets hX dX11_word_31 ?_
          refine g_iloadn hX 1 rfl rfl dX11_word_34 ?_
          obtain ⟨k13, jk13, ik13, hf⟩ := gix_open hf
          refine xl_sheets hX ik13 k13 jk13 dX11_word_35 ?_
          refine g_astore hX [(4, .ref (ad (20 + k13))), (0, .ref (ad 10)), (1, .int a1), (2, .int a2), (3, .int a3)] (by decide) rfl dX11_word_36 ?_
          refine g_aloadn hX 1 rfl rfl dX11_word_38 ?_
          refine g_aload hX 0 rfl dX11_word_39 ?_
          obtain ⟨r16, S14, h15, hf⟩ := cb_open hf
          refine k_X11_tellsFloors hro hX hq (c_X11_tellsFloors hRk h15) (by decide) (by decide) (by decide) (Nat.le_of_ble_eq_true rfl) dX11_word_41 ?_
          refine g_if_ne hX 53 (by decide) dX11_word_44 (fun c17 => ?_) (fun c17 => ?_)
          · have hf := ite_f c17 hf
            refine g_iconst hX (v := 0) (by decide) dX11_word_53 ?_
            refine g_istore hX [(5, .int 0), (4, .ref (ad (20 + k13))), (0, .ref (ad 10)), (1, .int a1), (2, .int a2), (3, .int a3)] (by decide) rfl dX11_word_54 ?_
            refine g_iconst hX (v := 0) (by decide) dX11_word_56 ?_
            refine g_istore hX [(6, .int 0), (5, .int 0), (4, .ref (ad (20 + k13))), (0, .ref (ad 10)), (1, .int a1), (2, .int a2), (3, .int a3)] (by decide) rfl dX11_word_57 ?_
            refine g_iconst hX (v := 0) (by decide) dX11_word_59 ?_
            refine g_istore hX [(7, .int 0), (6, .int 0), (5, .int 0), (4, .ref (ad (20 + k13))), (0, .ref (ad 10)), (1, .int a1), (2, .int a2), (3, .int a3)] (by decide) rfl dX11_word_60 ?_
            refine g_iconst hX (v := 0) (by decide) dX11_word_62 ?_
            refine g_istore hX [(8, .int 0), (7, .int 0), (6, .int 0), (5, .int 0), (4, .ref (ad (20 + k13))), (0, .ref (ad 10)), (1, .int a1), (2, .int a2), (3, .int a3)] (by decide) rfl dX11_word_63 ?_
            refine g_lv [5, 7, 8, 4, 3, 2, 1, 0] rfl ?_
            exact t_X11_word_65 hro hRk hX hq hp _ _ _ _ _ _ _ _ _ hf
          · have hf := ite_t c17 hf
            refine g_aloadn hX 1 rfl rfl dX11_word_47 ?_
            refine g_iconst hX (v := 2) (by decide) dX11_word_48 ?_
            obtain ⟨r41, S39, h40, hf⟩ := cb_open hf
            refine k_X11_error hro hX hq (c_X11_error hRk h40) (by decide) (by decide) (by decide) (Nat.le_of_ble_eq_true rfl) dX11_word_49 ?_
            obtain rfl := oi hf
            exact g_iret hX hq (by decide) (by decide) hp dX11_word_52
        · have hf := ite_f c12 hf
          refine g_lv [0] rfl ?_
          exact t_X11_word_24 hro hRk hX hq hp _ hf
theorem c_X11_word {l : Launch} {E : En} {ad Q : Nat → Nat} {kv : Value} {RD : Nat → Nat × Int32 × Int32 × Int32} (hRk : ∀ k, k < 6 → isRk (RD k).1) {a1 : Int32} {a2 : Int32} {a3 : Int32} {r : Int32} {S S2 : MS} (hf : f_X11_word RD a1 a2 a3 S = some (r, S2)) : CP l E yX11_word cX11_word 9 (some .int) 8 0 0 (roL Q RD) [.ref (ad 10), .int a1, .int a2, .int a3] (xW E ad Q kv S) (fun rv w => rv = some (.int r) ∧ w = xW E ad Q kv S2) :=
  CP.of (lv := [(0, .ref (ad 10)), (1, .int a1), (2, .int a2), (3, .int a3)]) (by decide +kernel) (Nat.le_of_ble_eq_true rfl) rfl (fun X hl hE hro hX hq hn => by subst hl; subst hE; exact t_X11_word_0 (fun z hz => by rw [hro]; exact hz) hRk hX hq ⟨rfl, rfl⟩ a1 a2 a3 S hf)
def f_X11_seed (RD : Nat → Nat × Int32 × Int32 × Int32) (a1 : Int32) (S : MS) : Option (Int32 × MS) :=
  bI (S.2 5) fun v1 =>
  some (v1, (sF S 5 a1))
set_option maxRecDepth 100000 in
set_option maxHeartbeats 4000000 in
theorem t_X11_seed_0 {X : Cx} {ad Q : Nat → Nat} {kv : Value} {RD : Nat → Nat × Int32 × Int32 × Int32} (hro : ∀ z ∈ roL Q RD, z ∈ X.ro) (hRk : ∀ k, k < 6 → isRk (RD k).1) {PostX : Option Value → va_W → Prop} (hX : Ok X cX11_seed 3 RX11) (hq : Rq X 0 0 0 (some .int) PostX) {u : (Int32 × MS)} (hp : PostX (some (.int u.1)) (xW X.E ad Q kv u.2)) (a1 : Int32) (S : MS) (hf : f_X11_seed RD a1 S = some u) : G X 3 0 0 0 [(0, .ref (ad 10)), (1, .int a1)] [] (xW X.E ad Q kv S) := by
  unfold f_X11_seed at hf
  refine g_aloadn hX 0 rfl rfl dX11_seed_0 ?_
  refine xg_lift hX dX11_seed_1 ?_
  refine xg_z hX (v := S.2 5) rfl dX11_seed_4 ?_
  obtain ⟨v1, ev1, hf⟩ := bI_open hf
  refine g_nm ev1 ?_
  refine g_istoren hX [(2, .int v1), (0, .ref (ad 10)), (1, .int a1)] rfl (by decide) rfl dX11_seed_7 ?_
  refine g_aloadn hX 1 rfl rfl dX11_seed_8 ?_
  refine xg_lift hX dX11_seed_9 ?_
  refine g_iloadn hX 2 rfl rfl dX11_seed_12 ?_
  refine xp_z hX dX11_seed_13 ?_
  refine g_iloadn hX 0 rfl rfl dX11_seed_16 ?_
  obtain rfl := oi hf
  exact g_iret hX hq (by decide) (by decide) hp dX11_seed_17
theorem c_X11_seed {l : Launch} {E : En} {ad Q : Nat → Nat} {kv : Value} {RD : Nat → Nat × Int32 × Int32 × Int32} (hRk : ∀ k, k < 6 → isRk (RD k).1) {a1 : Int32} {r : Int32} {S S2 : MS} (hf : f_X11_seed RD a1 S = some (r, S2)) : CP l E yX11_seed cX11_seed 3 (some .int) 0 0 0 (roL Q RD) [.ref (ad 10), .int a1] (xW E ad Q kv S) (fun rv w => rv = some (.int r) ∧ w = xW E ad Q kv S2) :=
  CP.of (lv := [(0, .ref (ad 10)), (1, .int a1)]) (by decide +kernel) (Nat.le_of_ble_eq_true rfl) rfl (fun X hl hE hro hX hq hn => by subst hl; subst hE; exact t_X11_seed_0 (fun z hz => by rw [hro]; exact hz) hRk hX hq ⟨rfl, rfl⟩ a1 S hf)

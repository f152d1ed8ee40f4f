def f_X12_believed_16 (S : MS) : Option (Int32 × MS) :=
  cb (f_X12_errs (-1000000001) S) fun r6 S4 =>
  some (r6, S4)
def f_X12_believed_47 (S : MS) : Option (Int32 × MS) :=
  cb (f_X12_errs (-1000000002) S) fun r14 S12 =>
  some (r14, S12)
def f_X12_believed_113 (lp74 : Int32 → Int32 → Int32 → Int32 → Int32 → MS → Option (Int32 × MS)) (x1 : Int32) (x2 : Int32) (x3 : Int32) (x4 : Int32) (x5 : Int32) (S : MS) : Option (Int32 × MS) :=
  bI (x5 + 1) fun v31 =>
  lp74 x1 x2 x3 x4 v31 S
def f_X12_believed_108 (lp74 : Int32 → Int32 → Int32 → Int32 → Int32 → MS → Option (Int32 × MS)) (x1 : Int32) (x2 : Int32) (x3 : Int32) (x5 : Int32) (y0 : Int32) (S : MS) : Option (Int32 × MS) :=
  bI (x3 + 1) fun v33 =>
  f_X12_believed_113 lp74 x1 x2 v33 y0 x5 S
def f_X12_believed_147 (x2 : Int32) (x3 : Int32) (x4 : Int32) (S : MS) : Option (Int32 × MS) :=
  if (x2 = 0 : Prop) then
    some (x3, S)
  else
    some (x4, S)
def f_X12_believed_74 : Nat → Int32 → Int32 → Int32 → Int32 → Int32 → MS → Option (Int32 × MS)
  | 0 => fun _ _ _ _ _ _ => none
  | n + 1 => fun x1 x2 x3 x4 x5 S =>
    let lp74 := f_X12_believed_74 n
    if (6561 ≤ x5 : Prop) then
      if (x2 = 1 : Prop) then
        if (x3 = 0 : Prop) then
          cb (f_X12_errs (-1000000002) (sM S 3 1)) fun r23 S21 =>
          some (r23, S21)
        else
          f_X12_believed_147 x2 x3 x4 (sM S 3 1)
      else
        f_X12_believed_147 x2 x3 x4 (sM S 3 1)
    else
      cb (f_X12_hearsAll x5 S) fun _ S24 =>
      cb (f_X12_areSo x1 S24) fun r29 S27 =>
      if (r29 = 0 : Prop) then
        f_X12_believed_113 lp74 x1 x2 x3 x4 x5 S27
      else
        if (0 ≤ x4 : Prop) then
          f_X12_believed_108 lp74 x1 x2 x3 x5 x4 S27
        else
          f_X12_believed_108 lp74 x1 x2 x3 x5 x5 S27
def f_X12_believed (a1 : Int32) (a2 : Int32) (S : MS) : Option (Int32 × MS) :=
  cs (f_X12_isSheet a1) fun r1 =>
  if (r1 = 0 : Prop) then
    f_X12_believed_16 S
  else
    cs (f_X12_in a2 0 1) fun r7 =>
    if (r7 = 0 : Prop) then
      f_X12_believed_16 S
    else
      gix a1 4 fun k10 =>
      if ((S.1 7 k10) = 0 : Prop) then
        f_X12_believed_47 S
      else
        gix a1 4 fun k15 =>
        if ((S.1 8 k15) ≤ (S.1 1 3) : Prop) then
          f_X12_believed_74 7000 a1 a2 0 (-1) 0 (sM S 1 3)
        else
          f_X12_believed_47 S
set_option maxRecDepth 100000 in
set_option maxHeartbeats 4000000 in
theorem t_X12_believed_16 {X : Cx} {ad : Nat → Nat} {PostX : Option Value → va_W → Prop} (hX : Ok X cX12_believed 6 RX12) (hq : Rq X 72 0 0 (some .int) PostX) {u : (Int32 × MS)} (hp : PostX (some (.int u.1)) (mW X.E ad u.2)) (S : MS) (hf : f_X12_believed_16 S = some u) : G X 6 0 0 16 [(0, .ref (ad 0))] [] (mW X.E ad S) := by
  unfold f_X12_believed_16 at hf
  refine g_aloadn hX 0 rfl rfl dX12_believed_16 ?_
  refine g_ldc hX (v := (-1000000001)) wd_5_74 dX12_believed_17 ?_
  obtain ⟨r6, S4, h5, hf⟩ := cb_open hf
  refine k_X12_errs hX hq (c_X12_errs h5) (by decide) (by decide) (by decide) (Nat.le_of_ble_eq_true rfl) dX12_believed_19 ?_
  obtain rfl := oi hf
  exact g_iret hX hq (by decide) (by decide) hp dX12_believed_22
set_option maxRecDepth 100000 in
set_option maxHeartbeats 4000000 in
theorem t_X12_believed_47 {X : Cx} {ad : Nat → Nat} {PostX : Option Value → va_W → Prop} (hX : Ok X cX12_believed 6 RX12) (hq : Rq X 72 0 0 (some .int) PostX) {u : (Int32 × MS)} (hp : PostX (some (.int u.1)) (mW X.E ad u.2)) (S : MS) (hf : f_X12_believed_47 S = some u) : G X 6 0 0 47 [(0, .ref (ad 0))] [] (mW X.E ad S) := by
  unfold f_X12_believed_47 at hf
  refine g_aloadn hX 0 rfl rfl dX12_believed_47 ?_
  refine g_ldc hX (v := (-1000000002)) wd_6_48 dX12_believed_48 ?_
  obtain ⟨r14, S12, h13, hf⟩ := cb_open hf
  refine k_X12_errs hX hq (c_X12_errs h13) (by decide) (by decide) (by decide) (Nat.le_of_ble_eq_true rfl) dX12_believed_50 ?_
  obtain rfl := oi hf
  exact g_iret hX hq (by decide) (by decide) hp dX12_believed_53
set_option maxRecDepth 100000 in
set_option maxHeartbeats 4000000 in
theorem t_X12_believed_113 {X : Cx} {ad : Nat → Nat} {PostX : Option Value → va_W → Prop} (hX : Ok X cX12_believed 6 RX12) (hq : Rq X 72 0 0 (some .int) PostX) {u : (Int32 × MS)} (hp : PostX (some (.int u.1)) (mW X.E ad u.2)) {lp74 : Int32 → Int32 → Int32 → Int32 → Int32 → MS → Option (Int32 × MS)} (hlp74 : ∀ (x1 : Int32) (x2 : Int32) (x3 : Int32) (x4 : Int32) (x5 : Int32) (S : MS), lp74 x1 x2 x3 x4 x5 S = some u → G X 6 0 0 74 [(0, .ref (ad 0)), (1, .int x1), (2, .int x2), (3, .int x3), (4, .int x4), (5, .int x5)] [] (mW X.E ad S)) (x1 : Int32) (x2 : Int32) (x3 : Int32) (x4 : Int32) (x5 : Int32) (S : MS) (hf : f_X12_believed_113 lp74 x1 x2 x3 x4 x5 S = some u) : G X 6 0 0 113 [(0, .ref (ad 0)), (1, .int x1), (2, .int x2), (3, .int x3), (4, .int x4), (5, .int x5)] [] (mW X.E ad S) := by
  unfold f_X12_believed_113 at hf
  obtain ⟨v31, ev31, hf⟩ := bI_open hf
  refine g_iinc hX 5 (v := v31) [(5, .int v31), (0, .ref (ad 0)), (1, .int x1), (2, .int x2), (3, .int x3), (4, .int x4)] rfl (by rw [ev31]; rfl) (by decide) rfl dX12_believed_113 ?_
  refine g_goto hX 74 (by decide) dX12_believed_116 ?_
  refine g_lv [1, 2, 3, 4, 5, 0] rfl ?_
  exact hlp74 _ _ _ _ _ _ hf
set_option maxRecDepth 100000 in
set_option maxHeartbeats 4000000 in
theorem t_X12_believed_108 {X : Cx} {ad : Nat → Nat} {PostX : Option Value → va_W → Prop} (hX : Ok X cX12_believed 6 RX12) (hq : Rq X 72 0 0 (some .int) PostX) {u : (Int32 × MS)} (hp : PostX (some (.int u.1)) (mW X.E ad u.2)) {lp74 : Int32 → Int32 → Int32 → Int32 → Int32 → MS → Option (Int32 × MS)} (hlp74 : ∀ (x1 : Int32) (x2 : Int32) (x3 : Int32) (x4 : Int32) (x5 : Int32) (S : MS), lp74 x1 x2 x3 x4 x5 S = some u → G X 6 0 0 74 [(0, .ref (ad 0)), (1, .int x1), (2, .int x2), (3, .int x3), (4, .int x4), (5, .int x5)] [] (mW X.E ad S)) (x1 : Int32) (x2 : Int32) (x3 : Int32) (x5 : Int32) (y0 : Int32) (S : MS) (hf : f_X12_believed_108 lp74 x1 x2 x3 x5 y0 S = some u) : G X 6 0 0 108 [(0, .ref (ad 0)), (1, .int x1), (2, .int x2), (3, .int x3), (5, .int x5)] [.int y0] (mW X.E ad S) := by
  unfold f_X12_believed_108 at hf
  refine g_istore hX [(4, .int y0), (0, .ref (ad 0)), (1, .int x1), (2, .int x2), (3, .int x3), (5, .int x5)] (by decide) rfl dX12_believed_108 ?_
  obtain ⟨v33, ev33, hf⟩ := bI_open hf
  refine g_iinc hX 4 (v := v33) [(3, .int v33), (4, .int y0), (0, .ref (ad 0)), (1, .int x1), (2, .int x2), (5, .int x5)] rfl (by rw [ev33]; rfl) (by decide) rfl dX12_believed_110 ?_
  refine g_lv [2, 3, 4, 0, 1, 5] rfl ?_
  exact t_X12_believed_113 hX hq hp hlp74 _ _ _ _ _ _ hf
set_option maxRecDepth 100000 in
set_option maxHeartbeats 4000000 in
theorem t_X12_believed_147 {X : Cx} {ad : Nat → Nat} {PostX : Option Value → va_W → Prop} (hX : Ok X cX12_believed 6 RX12) (hq : Rq X 72 0 0 (some .int) PostX) {u : (Int32 × MS)} (hp : PostX (some (.int u.1)) (mW X.E ad u.2)) (x2 : Int32) (x3 : Int32) (x4 : Int32) (S : MS) (hf : f_X12_believed_147 x2 x3 x4 S = some u) : G X 6 0 0 147 [(0, .ref (ad 0)), (2, .int x2), (3, .int x3), (4, .int x4)] [] (mW X.E ad S) := by
  unfold f_X12_believed_147 at hf
  refine g_iloadn hX 1 rfl rfl dX12_believed_147 ?_
  refine g_if_ne hX 155 (by decide) dX12_believed_148 (fun c19 => ?_) (fun c19 => ?_)
  · have hf := ite_f c19 hf
    refine g_iload hX 3 rfl dX12_believed_155 ?_
    obtain rfl := oi hf
    exact g_iret hX hq (by decide) (by decide) hp dX12_believed_157
  · have hf := ite_t c19 hf
    refine g_iloadn hX 2 rfl rfl dX12_believed_151 ?_
    refine g_goto hX 157 (by decide) dX12_believed_152 ?_
    obtain rfl := oi hf
    exact g_iret hX hq (by decide) (by decide) hp dX12_believed_157
set_option maxRecDepth 100000 in
set_option maxHeartbeats 4000000 in
theorem t_X12_believed_74 {X : Cx} {ad : Nat → Nat} {PostX : Option Value → va_W → Prop} (hX : Ok X cX12_believed 6 RX12) (hq : Rq X 72 0 0 (some .int) PostX) {u : (Int32 × MS)} (hp : PostX (some (.int u.1)) (mW X.E ad u.2)) : ∀ (n : Nat) (x1 : Int32) (x2 : Int32) (x3 : Int32) (x4 : Int32) (x5 : Int32) (S : MS), f_X12_believed_74 n x1 x2 x3 x4 x5 S = some u → G X 6 0 0 74 [(0, .ref (ad 0)), (1, .int x1), (2, .int x2), (3, .int x3), (4, .int x4), (5, .int x5)] [] (mW X.E ad S) := by
  intro n
  induction n with
  | zero => intro _ _ _ _ _ _ hf; unfold f_X12_believed_74 at hf; cases hf
  | succ n hlp74 =>
  intro x1 x2 x3 x4 x5 S hf
  unfold f_X12_believed_74 at hf
  refine g_iload hX 5 rfl dX12_believed_74 ?_
  refine g_sipush hX (v := 6561) (by decide) dX12_believed_76 ?_
  refine g_icmp_ge hX 119 (by decide) dX12_believed_79 (fun c17 => ?_) (fun c17 => ?_)
  · have hf := ite_t c17 hf
    refine g_aloadn hX 0 rfl rfl dX12_believed_119 ?_
    refine g_aloadn hX 0 rfl rfl dX12_believed_120 ?_
    refine mg_tried hX dX12_believed_121 ?_
    refine g_aloadn hX 0 rfl rfl dX12_believed_124 ?_
    refine mg_row hX dX12_believed_125 ?_
    refine k_moveAll_3_1 hX hq (by decide) (by decide) (by decide) (Nat.le_of_ble_eq_true rfl) dX12_believed_128 ?_
    refine g_iloadn hX 2 rfl rfl dX12_believed_131 ?_
    refine g_iconst hX (v := 1) (by decide) dX12_believed_132 ?_
    refine g_icmp_ne hX 147 (by decide) dX12_believed_133 (fun c18 => ?_) (fun c18 => ?_)
    · have hf := ite_f c18 hf
      refine g_lv [0, 2, 3, 4] rfl ?_
      exact t_X12_believed_147 hX hq hp _ _ _ _ hf
    · have hf := ite_t c18 hf
      refine g_iloadn hX 3 rfl rfl dX12_believed_136 ?_
      refine g_if_ne hX 147 (by decide) dX12_believed_137 (fun c20 => ?_) (fun c20 => ?_)
      · have hf := ite_f c20 hf
        refine g_lv [0, 2, 3, 4] rfl ?_
        exact t_X12_believed_147 hX hq hp _ _ _ _ hf
      · have hf := ite_t c20 hf
        refine g_aloadn hX 0 rfl rfl dX12_believed_140 ?_
        refine g_ldc hX (v := (-1000000002)) wd_6_48 dX12_believed_141 ?_
        obtain ⟨r23, S21, h22, hf⟩ := cb_open hf
        refine k_X12_errs hX hq (c_X12_errs h22) (by decide) (by decide) (by decide) (Nat.le_of_ble_eq_true rfl) dX12_believed_143 ?_
        obtain rfl := oi hf
        exact g_iret hX hq (by decide) (by decide) hp dX12_believed_146
  · have hf := ite_f c17 hf
    refine g_aloadn hX 0 rfl rfl dX12_believed_82 ?_
    refine g_iload hX 5 rfl dX12_believed_83 ?_
    obtain ⟨z26, S24, h25, hf⟩ := cb_open hf
    refine k_X12_hearsAll hX hq (c_X12_hearsAll h25) (by decide) (by decide) (by decide) (Nat.le_of_ble_eq_true rfl) dX12_believed_85 ?_
    refine g_aloadn hX 0 rfl rfl dX12_believed_88 ?_
    refine g_iloadn hX 1 rfl rfl dX12_believed_89 ?_
    obtain ⟨r29, S27, h28, hf⟩ := cb_open hf
    refine k_X12_areSo hX hq (c_X12_areSo h28) (by decide) (by decide) (by decide) (Nat.le_of_ble_eq_true rfl) dX12_believed_90 ?_
    refine g_if_eq hX 113 (by decide) dX12_believed_93 (fun c30 => ?_) (fun c30 => ?_)
    · have hf := ite_t c30 hf
      exact t_X12_believed_113 hX hq hp hlp74 _ _ _ _ _ _ hf
    · have hf := ite_f c30 hf
      refine g_iload hX 4 rfl dX12_believed_96 ?_
      refine g_if_ge hX 106 (by decide) dX12_believed_98 (fun c32 => ?_) (fun c32 => ?_)
      · have hf := ite_t c32 hf
        refine g_iload hX 4 rfl dX12_believed_106 ?_
        refine g_lv [0, 1, 2, 3, 5] rfl ?_
        exact t_X12_believed_108 hX hq hp hlp74 _ _ _ _ _ _ hf
      · have hf := ite_f c32 hf
        refine g_iload hX 5 rfl dX12_believed_101 ?_
        refine g_goto hX 108 (by decide) dX12_believed_103 ?_
        refine g_lv [0, 1, 2, 3, 5] rfl ?_
        exact t_X12_believed_108 hX hq hp hlp74 _ _ _ _ _ _ hf
set_option maxRecDepth 100000 in
set_option maxHeartbeats 4000000 in
theorem t_X12_believed_0 {X : Cx} {ad : Nat → Nat} {PostX : Option Value → va_W → Prop} (hX : Ok X cX12_believed 6 RX12) (hq : Rq X 72 0 0 (some .int) PostX) {u : (Int32 × MS)} (hp : PostX (some (.int u.1)) (mW X.E ad u.2)) (a1 : Int32) (a2 : Int32) (S : MS) (hf : f_X12_believed a1 a2 S = some u) : G X 6 0 0 0 [(0, .ref (ad 0)), (1, .int a1), (2, .int a2)] [] (mW X.E ad S) := by
  unfold f_X12_believed at hf
  refine g_iloadn hX 1 rfl rfl dX12_believed_0 ?_
  obtain ⟨r1, h2, hf⟩ := cs_open hf
  refine k_RX12_X12_isSheet hX hq h2 (by decide) (by decide) (by decide) (Nat.le_of_ble_eq_true rfl) dX12_believed_1 ?_
  refine g_if_eq hX 16 (by decide) dX12_believed_4 (fun c3 => ?_) (fun c3 => ?_)
  · have hf := ite_t c3 hf
    refine g_lv [0] rfl ?_
    exact t_X12_believed_16 hX hq hp _ hf
  · have hf := ite_f c3 hf
    refine g_iloadn hX 2 rfl rfl dX12_believed_7 ?_
    refine g_iconst hX (v := 0) (by decide) dX12_believed_8 ?_
    refine g_iconst hX (v := 1) (by decide) dX12_believed_9 ?_
    obtain ⟨r7, h8, hf⟩ := cs_open hf
    refine k_RX12_X12_in hX hq h8 (by decide) (by decide) (by decide) (Nat.le_of_ble_eq_true rfl) dX12_believed_10 ?_
    refine g_if_ne hX 23 (by decide) dX12_believed_13 (fun c9 => ?_) (fun c9 => ?_)
    · have hf := ite_f c9 hf
      refine g_aloadn hX 0 rfl rfl dX12_believed_23 ?_
      refine mg_bitsOf hX dX12_believed_24 ?_
      refine g_iloadn hX 1 rfl rfl dX12_believed_27 ?_
      obtain ⟨k10, jk10, ik10, hf⟩ := gix_open hf
      refine ml_bitsOf hX ik10 k10 jk10 (v := S.1 7 k10) rfl dX12_believed_28 ?_
      refine g_if_eq hX 47 (by decide) dX12_believed_29 (fun c11 => ?_) (fun c11 => ?_)
      · have hf := ite_t c11 hf
        refine g_lv [0] rfl ?_
        exact t_X12_believed_47 hX hq hp _ hf
      · have hf := ite_f c11 hf
        refine g_aloadn hX 0 rfl rfl dX12_believed_32 ?_
        refine mg_sizeOf hX dX12_believed_33 ?_
        refine g_iloadn hX 1 rfl rfl dX12_believed_36 ?_
        obtain ⟨k15, jk15, ik15, hf⟩ := gix_open hf
        refine ml_sizeOf hX ik15 k15 jk15 (v := S.1 8 k15) rfl dX12_believed_37 ?_
        refine g_aloadn hX 0 rfl rfl dX12_believed_38 ?_
        refine mg_row hX dX12_believed_39 ?_
        refine g_iconst hX (v := 3) (by decide) dX12_believed_42 ?_
        refine ml_row hX (vpc (by decide)) 3 (by decide) (v := S.1 1 3) rfl dX12_believed_43 ?_
        refine g_icmp_le hX 54 (by decide) dX12_believed_44 (fun c16 => ?_) (fun c16 => ?_)
        · have hf := ite_t c16 hf
          refine g_aloadn hX 0 rfl rfl dX12_believed_54 ?_
          refine g_aloadn hX 0 rfl rfl dX12_believed_55 ?_
          refine mg_row hX dX12_believed_56 ?_
          refine g_aloadn hX 0 rfl rfl dX12_believed_59 ?_
          refine mg_tried hX dX12_believed_60 ?_
          refine k_moveAll_1_3 hX hq (by decide) (by decide) (by decide) (Nat.le_of_ble_eq_true rfl) dX12_believed_63 ?_
          refine g_iconst hX (v := 0) (by decide) dX12_believed_66 ?_
          refine g_istoren hX [(3, .int 0), (0, .ref (ad 0)), (1, .int a1), (2, .int a2)] rfl (by decide) rfl dX12_believed_67 ?_
          refine g_iconst hX (v := (-1)) (by decide) dX12_believed_68 ?_
          refine g_istore hX [(4, .int (-1)), (3, .int 0), (0, .ref (ad 0)), (1, .int a1), (2, .int a2)] (by decide) rfl dX12_believed_69 ?_
          refine g_iconst hX (v := 0) (by decide) dX12_believed_71 ?_
          refine g_istore hX [(5, .int 0), (4, .int (-1)), (3, .int 0), (0, .ref (ad 0)), (1, .int a1), (2, .int a2)] (by decide) rfl dX12_believed_72 ?_
          refine g_lv [3, 4, 5, 2, 1, 0] rfl ?_
          exact t_X12_believed_74 hX hq hp _ _ _ _ _ _ _ hf
        · have hf := ite_f c16 hf
          refine g_lv [0] rfl ?_
          exact t_X12_believed_47 hX hq hp _ hf
    · have hf := ite_t c9 hf
      refine g_lv [0] rfl ?_
      exact t_X12_believed_16 hX hq hp _ hf
theorem c_X12_believed {l : Launch} {E : En} {ad : Nat → Nat} {a1 : Int32} {a2 : Int32} {r : Int32} {S S2 : MS} (hf : f_X12_believed a1 a2 S = some (r, S2)) : CP l E yX12_believed cX12_believed 6 (some .int) 72 0 0 [] [.ref (ad 0), .int a1, .int a2] (mW E ad S) (fun rv w => rv = some (.int r) ∧ w = mW E ad S2) :=
  CP.of (lv := [(0, .ref (ad 0)), (1, .int a1), (2, .int a2)]) (by decide +kernel) (Nat.le_of_ble_eq_true rfl) rfl (fun X hl hE hro hX hq hn => by subst hl; subst hE; exact t_X12_believed_0 hX hq ⟨rfl, rfl⟩ a1 a2 S hf)
def f_X12_word_24 (S : MS) : Option (Int32 × MS) :=
  cb (f_X12_errs (-1000000001) S) fun r6 S4 =>
  some (r6, S4)
def f_X12_word_55 (S : MS) : Option (Int32 × MS) :=
  cb (f_X12_errs (-1000000002) S) fun r18 S16 =>
  some (r18, S16)
def f_X12_word_163 (lp101 : Int32 → Int32 → Int32 → Int32 → MS → Option (Int32 × MS)) (x1 : Int32) (x2 : Int32) (x3 : Int32) (x4 : Int32) (S : MS) : Option (Int32 × MS) :=
  bI (x4 + 1) fun v45 =>
  lp101 x1 x2 x3 v45 S
def f_X12_word_126 (lp101 : Int32 → Int32 → Int32 → Int32 → MS → Option (Int32 × MS)) : Nat → Int32 → Int32 → Int32 → Int32 → Int32 → MS → Option (Int32 × MS)
  | 0 => fun _ _ _ _ _ _ => none
  | n + 1 => fun x1 x2 x3 x4 x5 S =>
    let lp126 := f_X12_word_126 lp101 n
    if (8 ≤ x5 : Prop) then
      f_X12_word_163 lp101 x1 x2 x3 x4 S
    else
      gix x5 8 fun k47 =>
      gix x5 8 fun k48 =>
      cb (f_X12_floorBy x2 (S.1 5 k48) S) fun r51 S49 =>
      bI ((S.1 11 k47) ||| (jshl 1 r51)) fun v52 =>
      gix x5 8 fun k53 =>
      bI (x5 + 1) fun v54 =>
      lp126 x1 x2 x3 x4 v54 (sA S49 11 k53 v52)
def f_X12_word_265 (lp190 : Int32 → Int32 → Int32 → Int32 → MS → Option (Int32 × MS)) (x3 : Int32) (x4 : Int32) (x6 : Int32) (y0 : Int32) (S : MS) : Option (Int32 × MS) :=
  bI (x6 + 1) fun v37 =>
  lp190 x3 x4 y0 v37 S
def f_X12_word_249 (lp190 : Int32 → Int32 → Int32 → Int32 → MS → Option (Int32 × MS)) (x3 : Int32) (x5 : Int32) (x6 : Int32) (x7 : Int32) (y0 : Int32) (S : MS) : Option (Int32 × MS) :=
  if (x7 ≤ x5 : Prop) then
    f_X12_word_265 lp190 x3 y0 x6 x5 S
  else
    f_X12_word_265 lp190 x3 y0 x6 x7 S
def f_X12_word_190 : Nat → Int32 → Int32 → Int32 → Int32 → MS → Option (Int32 × MS)
  | 0 => fun _ _ _ _ _ => none
  | n + 1 => fun x3 x4 x5 x6 S =>
    let lp190 := f_X12_word_190 n
    if (8 ≤ x6 : Prop) then
      if (0 ≤ x4 : Prop) then
        if (x3 = 0 : Prop) then
          some (x4, S)
        else
          some (x5, S)
      else
        cb (f_X12_errs (-1000000002) S) fun r28 S26 =>
        some (r28, S26)
    else
      gix x6 8 fun k29 =>
      cs (f_X12_bits (S.1 11 k29)) fun r30 =>
      gix x6 8 fun k32 =>
      gix x6 8 fun k33 =>
      bI ((r30 + ((jshr (S.1 11 k32) 8) &&& 1)) + ((jshr (S.1 11 k33) 9) &&& 1)) fun v34 =>
      if (v34 ≤ x5 : Prop) then
        f_X12_word_249 lp190 x3 x5 x6 v34 x4 S
      else
        f_X12_word_249 lp190 x3 x5 x6 v34 x6 S
def f_X12_word_101 : Nat → Int32 → Int32 → Int32 → Int32 → MS → Option (Int32 × MS)
  | 0 => fun _ _ _ _ _ => none
  | n + 1 => fun x1 x2 x3 x4 S =>
    let lp101 := f_X12_word_101 n
    if (6561 ≤ x4 : Prop) then
      f_X12_word_190 7000 x3 (-1) 0 0 (sM S 3 1)
    else
      cb (f_X12_hearsAll x4 S) fun _ S38 =>
      cb (f_X12_areSo x1 S38) fun r43 S41 =>
      if (r43 = 0 : Prop) then
        f_X12_word_163 lp101 x1 x2 x3 x4 S41
      else
        f_X12_word_126 lp101 7000 x1 x2 x3 x4 0 S41
def f_X12_word_65 : Nat → Int32 → Int32 → Int32 → Int32 → MS → Option (Int32 × MS)
  | 0 => fun _ _ _ _ _ => none
  | n + 1 => fun x1 x2 x3 x4 S =>
    let lp65 := f_X12_word_65 n
    if (8 ≤ x4 : Prop) then
      f_X12_word_101 7000 x1 x2 x3 0 (sM S 1 3)
    else
      gix x4 8 fun k55 =>
      bI (x4 + 1) fun v56 =>
      lp65 x1 x2 x3 v56 (sA S 11 k55 0)
def f_X12_word (a1 : Int32) (a2 : Int32) (a3 : Int32) (S : MS) : Option (Int32 × MS) :=
  cs (f_X12_isSheet a1) fun r1 =>
  if (r1 = 0 : Prop) then
    f_X12_word_24 S
  else
    cb (f_X12_isRider a2 S) fun r9 S7 =>
    if (r9 = 0 : Prop) then
      f_X12_word_24 S7
    else
      cs (f_X12_in a3 0 1) fun r11 =>
      if (r11 = 0 : Prop) then
        f_X12_word_24 S7
      else
        gix a1 4 fun k14 =>
        if ((S7.1 7 k14) = 0 : Prop) then
          f_X12_word_55 S7
        else
          gix a1 4 fun k19 =>
          if ((S7.1 8 k19) ≤ (S7.1 1 3) : Prop) then
            f_X12_word_65 7000 a1 a2 a3 0 S7
          else
            f_X12_word_55 S7
set_option maxRecDepth 100000 in
set_option maxHeartbeats 4000000 in
theorem t_X12_word_24 {X : Cx} {ad : Nat → Nat} {PostX : Option Value → va_W → Prop} (hX : Ok X cX12_word 8 RX12) (hq : Rq X 72 0 0 (some .int) PostX) {u : (Int32 × MS)} (hp : PostX (some (.int u.1)) (mW X.E ad u.2)) (S : MS) (hf : f_X12_word_24 S = some u) : G X 8 0 0 24 [(0, .ref (ad 0))] [] (mW X.E ad S) := by
  unfold f_X12_word_24 at hf
  refine g_aloadn hX 0 rfl rfl dX12_word_24 ?_
  refine g_ldc hX (v := (-1000000001)) wd_5_74 dX12_word_25 ?_
  obtain ⟨r6, S4, h5, hf⟩ := cb_open hf
  refine k_X12_errs hX hq (c_X12_errs h5) (by decide) (by decide) (by decide) (Nat.le_of_ble_eq_true rfl) dX12_word_27 ?_
  obtain rfl := oi hf
  exact g_iret hX hq (by decide) (by decide) hp dX12_word_30
set_option maxRecDepth 100000 in
set_option maxHeartbeats 4000000 in
theorem t_X12_word_55 {X : Cx} {ad : Nat → Nat} {PostX : Option Value → va_W → Prop} (hX : Ok X cX12_word 8 RX12) (hq : Rq X 72 0 0 (some .int) PostX) {u : (Int32 × MS)} (hp : PostX (some (.int u.1)) (mW X.E ad u.2)) (S : MS) (hf : f_X12_word_55 S = some u) : G X 8 0 0 55 [(0, .ref (ad 0))] [] (mW X.E ad S) := by
  unfold f_X12_word_55 at hf
  refine g_aloadn hX 0 rfl rfl dX12_word_55 ?_
  refine g_ldc hX (v := (-1000000002)) wd_6_48 dX12_word_56 ?_
  obtain ⟨r18, S16, h17, hf⟩ := cb_open hf
  refine k_X12_errs hX hq (c_X12_errs h17) (by decide) (by decide) (by decide) (Nat.le_of_ble_eq_true rfl) dX12_word_58 ?_
  obtain rfl := oi hf
  exact g_iret hX hq (by decide) (by decide) hp dX12_word_61
set_option maxRecDepth 100000 in
set_option maxHeartbeats 4000000 in
theorem t_X12_word_163 {X : Cx} {ad : Nat → Nat} {PostX : Option Value → va_W → Prop} (hX : Ok X cX12_word 8 RX12) (hq : Rq X 72 0 0 (some .int) PostX) {u : (Int32 × MS)} (hp : PostX (some (.int u.1)) (mW X.E ad u.2)) {lp101 : Int32 → Int32 → Int32 → Int32 → MS → Option (Int32 × MS)} (hlp101 : ∀ (x1 : Int32) (x2 : Int32) (x3 : Int32) (x4 : Int32) (S : MS), lp101 x1 x2 x3 x4 S = some u → G X 8 0 0 101 [(0, .ref (ad 0)), (1, .int x1), (2, .int x2), (3, .int x3), (4, .int x4)] [] (mW X.E ad S)) (x1 : Int32) (x2 : Int32) (x3 : Int32) (x4 : Int32) (S : MS) (hf : f_X12_word_163 lp101 x1 x2 x3 x4 S = some u) : G X 8 0 0 163 [(0, .ref (ad 0)), (1, .int x1), (2, .int x2), (3, .int x3), (4, .int x4)] [] (mW X.E ad S) := by
  unfold f_X12_word_163 at hf
  obtain ⟨v45, ev45, hf⟩ := bI_open hf
  refine g_iinc hX 4 (v := v45) [(4, .int v45), (0, .ref (ad 0)), (1, .int x1), (2, .int x2), (3, .int x3)] rfl (by rw [ev45]; rfl) (by decide) rfl dX12_word_163 ?_
  refine g_goto hX 101 (by decide) dX12_word_166 ?_
  refine g_lv [1, 2, 3, 4, 0] rfl ?_
  exact hlp101 _ _ _ _ _ hf
set_option maxRecDepth 100000 in
set_option maxHeartbeats 4000000 in
theorem t_X12_word_126 {X : Cx} {ad : Nat → Nat} {PostX : Option Value → va_W → Prop} (hX : Ok X cX12_word 8 RX12) (hq : Rq X 72 0 0 (some .int) PostX) {u : (Int32 × MS)} (hp : PostX (some (.int u.1)) (mW X.E ad u.2)) {lp101 : Int32 → Int32 → Int32 → Int32 → MS → Option (Int32 × MS)} (hlp101 : ∀ (x1 : Int32) (x2 : Int32) (x3 : Int32) (x4 : Int32) (S : MS), lp101 x1 x2 x3 x4 S = some u → G X 8 0 0 101 [(0, .ref (ad 0)), (1, .int x1), (2, .int x2), (3, .int x3), (4, .int x4)] [] (mW X.E ad S)) : ∀ (n : Nat) (x1 : Int32) (x2 : Int32) (x3 : Int32) (x4 : Int32) (x5 : Int32) (S : MS), f_X12_word_126 lp101 n x1 x2 x3 x4 x5 S = some u → G X 8 0 0 126 [(0, .ref (ad 0)), (1, .int x1), (2, .int x2), (3, .int x3), (4, .int x4), (5, .int x5)] [] (mW X.E ad S) := by
  intro n
  induction n with
  | zero => intro _ _ _ _ _ _ hf; unfold f_X12_word_126 at hf; cases hf
  | succ n hlp126 =>
  intro x1 x2 x3 x4 x5 S hf
  unfold f_X12_word_126 at hf
  refine g_iload hX 5 rfl dX12_word_126 ?_
  refine g_bipush hX (v := 8) (by decide) dX12_word_128 ?_
  refine g_icmp_ge hX 163 (by decide) dX12_word_130 (fun c46 => ?_) (fun c46 => ?_)
  · have hf := ite_t c46 hf
    refine g_lv [0, 1, 2, 3, 4] rfl ?_
    exact t_X12_word_163 hX hq hp hlp101 _ _ _ _ _ hf
  · have hf := ite_f c46 hf
    refine g_aloadn hX 0 rfl rfl dX12_word_133 ?_
    refine mg_floors hX dX12_word_134 ?_
    refine g_iload hX 5 rfl dX12_word_137 ?_
    refine g_dup2 hX rfl rfl dX12_word_139 ?_
    obtain ⟨k47, jk47, ik47, hf⟩ := gix_open hf
    refine ml_floors hX ik47 k47 jk47 (v := S.1 11 k47) rfl dX12_word_140 ?_
    refine g_iconst hX (v := 1) (by decide) dX12_word_141 ?_
    refine g_aloadn hX 0 rfl rfl dX12_word_142 ?_
    refine g_iloadn hX 2 rfl rfl dX12_word_143 ?_
    refine g_aloadn hX 0 rfl rfl dX12_word_144 ?_
    refine mg_power hX dX12_word_145 ?_
    refine g_iload hX 5 rfl dX12_word_148 ?_
    obtain ⟨k48, jk48, ik48, hf⟩ := gix_open hf
    refine ml_power hX ik48 k48 jk48 (v := S.1 5 k48) rfl dX12_word_150 ?_
    obtain ⟨r51, S49, h50, hf⟩ := cb_open hf
    refine k_X12_floorBy hX hq (c_X12_floorBy h50) (by decide) (by decide) (by decide) (Nat.le_of_ble_eq_true rfl) dX12_word_151 ?_
    refine g_jshl hX dX12_word_154 ?_
    refine g_ior hX dX12_word_155 ?_
    obtain ⟨v52, ev52, hf⟩ := bI_open hf
    refine g_nm ev52 ?_
    obtain ⟨k53, jk53, ik53, hf⟩ := gix_open hf
    refine ms_floors hX ik53 k53 jk53 dX12_word_156 ?_
    obtain ⟨v54, ev54, hf⟩ := bI_open hf
    refine g_iinc hX 5 (v := v54) [(5, .int v54), (0, .ref (ad 0)), (1, .int x1), (2, .int x2), (3, .int x3), (4, .int x4)] rfl (by rw [ev54]; rfl) (by decide) rfl dX12_word_157 ?_
    refine g_goto hX 126 (by decide) dX12_word_160 ?_
    refine g_lv [1, 2, 3, 4, 5, 0] rfl ?_
    exact hlp126 _ _ _ _ _ _ hf
set_option maxRecDepth 100000 in
set_option maxHeartbeats 4000000 in
theorem t_X12_word_265 {X : Cx} {ad : Nat → Nat} {PostX : Option Value → va_W → Prop} (hX : Ok X cX12_word 8 RX12) (hq : Rq X 72 0 0 (some .int) PostX) {u : (Int32 × MS)} (hp : PostX (some (.int u.1)) (mW X.E ad u.2)) {lp190 : Int32 → Int32 → Int32 → Int32 → MS → Option (Int32 × MS)} (hlp190 : ∀ (x3 : Int32) (x4 : Int32) (x5 : Int32) (x6 : Int32) (S : MS), lp190 x3 x4 x5 x6 S = some u → G X 8 0 0 190 [(0, .ref (ad 0)), (3, .int x3), (4, .int x4), (5, .int x5), (6, .int x6)] [] (mW X.E ad S)) (x3 : Int32) (x4 : Int32) (x6 : Int32) (y0 : Int32) (S : MS) (hf : f_X12_word_265 lp190 x3 x4 x6 y0 S = some u) : G X 8 0 0 265 [(0, .ref (ad 0)), (3, .int x3), (4, .int x4), (6, .int x6)] [.int y0] (mW X.E ad S) := by
  unfold f_X12_word_265 at hf
  refine g_istore hX [(5, .int y0), (0, .ref (ad 0)), (3, .int x3), (4, .int x4), (6, .int x6)] (by decide) rfl dX12_word_265 ?_
  obtain ⟨v37, ev37, hf⟩ := bI_open hf
  refine g_iinc hX 4 (v := v37) [(6, .int v37), (5, .int y0), (0, .ref (ad 0)), (3, .int x3), (4, .int x4)] rfl (by rw [ev37]; rfl) (by decide) rfl dX12_word_267 ?_
  refine g_goto hX 190 (by decide) dX12_word_270 ?_
  refine g_lv [2, 3, 4, 1, 0] rfl ?_
  exact hlp190 _ _ _ _ _ hf
set_option maxRecDepth 100000 in
set_option maxHeartbeats 4000000 in
theorem t_X12_word_249 {X : Cx} {ad : Nat → Nat} {PostX : Option Value → va_W → Prop} (hX : Ok X cX12_word 8 RX12) (hq : Rq X 72 0 0 (some .int) PostX) {u : (Int32 × MS)} (hp : PostX (some (.int u.1)) (mW X.E ad u.2)) {lp190 : Int32 → Int32 → Int32 → Int32 → MS → Option (Int32 × MS)} (hlp190 : ∀ (x3 : Int32) (x4 : Int32) (x5 : Int32) (x6 : Int32) (S : MS), lp190 x3 x4 x5 x6 S = some u → G X 8 0 0 190 [(0, .ref (ad 0)), (3, .int x3), (4, .int x4), (5, .int x5), (6, .int x6)] [] (mW X.E ad S)) (x3 : Int32) (x5 : Int32) (x6 : Int32) (x7 : Int32) (y0 : Int32) (S : MS) (hf : f_X12_word_249 lp190 x3 x5 x6 x7 y0 S = some u) : G X 8 0 0 249 [(0, .ref (ad 0)), (3, .int x3), (5, .int x5), (6, .int x6), (7, .int x7)] [.int y0] (mW X.E ad S) := by
  unfold f_X12_word_249 at hf
  refine g_istore hX [(4, .int y0), (0, .ref (ad 0)), (3, .int x3), (5, .int x5), (6, .int x6), (7, .int x7)] (by decide) rfl dX12_word_249 ?_
  refine g_iload hX 5 rfl dX12_word_251 ?_
  refine g_iload hX 3 rfl dX12_word_253 ?_
  refine g_icmp_le hX 263 (by decide) dX12_word_255 (fun c36 => ?_) (fun c36 => ?_)
  · have hf := ite_t c36 hf
    refine g_iload hX 3 rfl dX12_word_263 ?_
    refine g_lv [1, 2, 0, 4] rfl ?_
    exact t_X12_word_265 hX hq hp hlp190 _ _ _ _ _ hf
  · have hf := ite_f c36 hf
    refine g_iload hX 5 rfl dX12_word_258 ?_
    refine g_goto hX 265 (by decide) dX12_word_260 ?_
    refine g_lv [1, 2, 0, 4] rfl ?_
    exact t_X12_word_265 hX hq hp hlp190 _ _ _ _ _ hf
set_option maxRecDepth 100000 in
set_option maxHeartbeats 4000000 in
theorem t_X12_word_190 {X : Cx} {ad : Nat → Nat} {PostX : Option Value → va_W → Prop} (hX : Ok X cX12_word 8 RX12) (hq : Rq X 72 0 0 (some .int) PostX) {u : (Int32 × MS)} (hp : PostX (some (.int u.1)) (mW X.E ad u.2)) : ∀ (n : Nat) (x3 : Int32) (x4 : Int32) (x5 : Int32) (x6 : Int32) (S : MS), f_X12_word_190 n x3 x4 x5 x6 S = some u → G X 8 0 0 190 [(0, .ref (ad 0)), (3, .int x3), (4, .int x4), (5, .int x5), (6, .int x6)] [] (mW X.E ad S) := by
  intro n
  induction n with
  | zero => intro _ _ _ _ _ hf; unfold f_X12_word_190 at hf; cases hf
  | succ n hlp190 =>
  intro x3 x4 x5 x6 S hf
  unfold f_X12_word_190 at hf
  refine g_iload hX 4 rfl dX12_word_190 ?_
  refine g_bipush hX (v := 8) (by decide) dX12_word_192 ?_
  refine g_icmp_ge hX 273 (by decide) dX12_word_194 (fun c23 => ?_) (fun c23 => ?_)
  · have hf := ite_t c23 hf
    refine g_iload hX 2 rfl dX12_word_273 ?_
    refine g_if_ge hX 285 (by decide) dX12_word_275 (fun c24 => ?_) (fun c24 => ?_)
    · have hf := ite_t c24 hf
      refine g_iloadn hX 1 rfl rfl dX12_word_285 ?_
      refine g_if_ne hX 294 (by decide) dX12_word_286 (fun c25 => ?_) (fun c25 => ?_)
      · have hf := ite_f c25 hf
        refine g_iload hX 3 rfl dX12_word_294 ?_
        obtain rfl := oi hf
        exact g_iret hX hq (by decide) (by decide) hp dX12_word_296
      · have hf := ite_t c25 hf
        refine g_iload hX 2 rfl dX12_word_289 ?_
        refine g_goto hX 296 (by decide) dX12_word_291 ?_
        obtain rfl := oi hf
        exact g_iret hX hq (by decide) (by decide) hp dX12_word_296
    · have hf := ite_f c24 hf
      refine g_aloadn hX 0 rfl rfl dX12_word_278 ?_
      refine g_ldc hX (v := (-1000000002)) wd_6_48 dX12_word_279 ?_
      obtain ⟨r28, S26, h27, hf⟩ := cb_open hf
      refine k_X12_errs hX hq (c_X12_errs h27) (by decide) (by decide) (by decide) (Nat.le_of_ble_eq_true rfl) dX12_word_281 ?_
      obtain rfl := oi hf
      exact g_iret hX hq (by decide) (by decide) hp dX12_word_284
  · have hf := ite_f c23 hf
    refine g_aloadn hX 0 rfl rfl dX12_word_197 ?_
    refine mg_floors hX dX12_word_198 ?_
    refine g_iload hX 4 rfl dX12_word_201 ?_
    obtain ⟨k29, jk29, ik29, hf⟩ := gix_open hf
    refine ml_floors hX ik29 k29 jk29 (v := S.1 11 k29) rfl dX12_word_203 ?_
    obtain ⟨r30, h31, hf⟩ := cs_open hf
    refine k_RX12_X12_bits hX hq h31 (by decide) (by decide) (by decide) (Nat.le_of_ble_eq_true rfl) dX12_word_204 ?_
    refine g_aloadn hX 0 rfl rfl dX12_word_207 ?_
    refine mg_floors hX dX12_word_208 ?_
    refine g_iload hX 4 rfl dX12_word_211 ?_
    obtain ⟨k32, jk32, ik32, hf⟩ := gix_open hf
    refine ml_floors hX ik32 k32 jk32 (v := S.1 11 k32) rfl dX12_word_213 ?_
    refine g_bipush hX (v := 8) (by decide) dX12_word_214 ?_
    refine g_jshr hX dX12_word_216 ?_
    refine g_iconst hX (v := 1) (by decide) dX12_word_217 ?_
    refine g_iand hX dX12_word_218 ?_
    refine g_iadd hX dX12_word_219 ?_
    refine g_aloadn hX 0 rfl rfl dX12_word_220 ?_
    refine mg_floors hX dX12_word_221 ?_
    refine g_iload hX 4 rfl dX12_word_224 ?_
    obtain ⟨k33, jk33, ik33, hf⟩ := gix_open hf
    refine ml_floors hX ik33 k33 jk33 (v := S.1 11 k33) rfl dX12_word_226 ?_
    refine g_bipush hX (v := 9) (by decide) dX12_word_227 ?_
    refine g_jshr hX dX12_word_229 ?_
    refine g_iconst hX (v := 1) (by decide) dX12_word_230 ?_
    refine g_iand hX dX12_word_231 ?_
    refine g_iadd hX dX12_word_232 ?_
    obtain ⟨v34, ev34, hf⟩ := bI_open hf
    refine g_nm ev34 ?_
    refine g_istore hX [(7, .int v34), (0, .ref (ad 0)), (3, .int x3), (4, .int x4), (5, .int x5), (6, .int x6)] (by decide) rfl dX12_word_233 ?_
    refine g_iload hX 0 rfl dX12_word_235 ?_
    refine g_iload hX 4 rfl dX12_word_237 ?_
    refine g_icmp_le hX 247 (by decide) dX12_word_239 (fun c35 => ?_) (fun c35 => ?_)
    · have hf := ite_t c35 hf
      refine g_iload hX 3 rfl dX12_word_247 ?_
      refine g_lv [1, 2, 4, 5, 0] rfl ?_
      exact t_X12_word_249 hX hq hp hlp190 _ _ _ _ _ _ hf
    · have hf := ite_f c35 hf
      refine g_iload hX 5 rfl dX12_word_242 ?_
      refine g_goto hX 249 (by decide) dX12_word_244 ?_
      refine g_lv [1, 2, 4, 5, 0] rfl ?_
      exact t_X12_word_249 hX hq hp hlp190 _ _ _ _ _ _ hf
set_option maxRecDepth 100000 in
set_option maxHeartbeats 4000000 in
theorem t_X12_word_101 {X : Cx} {ad : Nat → Nat} {PostX : Option Value → va_W → Prop} (hX : Ok X cX12_word 8 RX12) (hq : Rq X 72 0 0 (some .int) PostX) {u : (Int32 × MS)} (hp : PostX (some (.int u.1)) (mW X.E ad u.2)) : ∀ (n : Nat) (x1 : Int32) (x2 : Int32) (x3 : Int32) (x4 : Int32) (S : MS), f_X12_word_101 n x1 x2 x3 x4 S = some u → G X 8 0 0 101 [(0, .ref (ad 0)), (1, .int x1), (2, .int x2), (3, .int x3), (4, .int x4)] [] (mW X.E ad S) := by
  intro n
  induction n with
  | zero => intro _ _ _ _ _ hf; unfold f_X12_word_101 at hf; cases hf
  | succ n hlp101 =>
  intro x1 x2 x3 x4 S hf
  unfold f_X12_word_101 at hf
  refine g_iload hX 4 rfl dX12_word_101 ?_
  refine g_sipush hX (v := 6561) (by decide) dX12_word_103 ?_
  refine g_icmp_ge hX 169 (by decide) dX12_word_106 (fun c22 => ?_) (fun c22 => ?_)
  · have hf := ite_t c22 hf
    refine g_aloadn hX 0 rfl rfl dX12_word_169 ?_
    refine g_aloadn hX 0 rfl rfl dX12_word_170 ?_
    refine mg_tried hX dX12_word_171 ?_
    refine g_aloadn hX 0 rfl rfl dX12_word_174 ?_
    refine mg_row hX dX12_word_175 ?_
    refine k_moveAll_3_1 hX hq (by decide) (by decide) (by decide) (Nat.le_of_ble_eq_true rfl) dX12_word_178 ?_
    refine g_iconst hX (v := (-1)) (by decide) dX12_word_181 ?_
    refine g_istore hX [(4, .int (-1)), (0, .ref (ad 0)), (1, .int x1), (2, .int x2), (3, .int x3)] (by decide) rfl dX12_word_182 ?_
    refine g_iconst hX (v := 0) (by decide) dX12_word_184 ?_
    refine g_istore hX [(5, .int 0), (4, .int (-1)), (0, .ref (ad 0)), (1, .int x1), (2, .int x2), (3, .int x3)] (by decide) rfl dX12_word_185 ?_
    refine g_iconst hX (v := 0) (by decide) dX12_word_187 ?_
    refine g_istore hX [(6, .int 0), (5, .int 0), (4, .int (-1)), (0, .ref (ad 0)), (1, .int x1), (2, .int x2), (3, .int x3)] (by decide) rfl dX12_word_188 ?_
    refine g_lv [3, 6, 2, 1, 0] rfl ?_
    exact t_X12_word_190 hX hq hp _ _ _ _ _ _ hf
  · have hf := ite_f c22 hf
    refine g_aloadn hX 0 rfl rfl dX12_word_109 ?_
    refine g_iload hX 4 rfl dX12_word_110 ?_
    obtain ⟨z40, S38, h39, hf⟩ := cb_open hf
    refine k_X12_hearsAll hX hq (c_X12_hearsAll h39) (by decide) (by decide) (by decide) (Nat.le_of_ble_eq_true rfl) dX12_word_112 ?_
    refine g_aloadn hX 0 rfl rfl dX12_word_115 ?_
    refine g_iloadn hX 1 rfl rfl dX12_word_116 ?_
    obtain ⟨r43, S41, h42, hf⟩ := cb_open hf
    refine k_X12_areSo hX hq (c_X12_areSo h42) (by decide) (by decide) (by decide) (Nat.le_of_ble_eq_true rfl) dX12_word_117 ?_
    refine g_if_eq hX 163 (by decide) dX12_word_120 (fun c44 => ?_) (fun c44 => ?_)
    · have hf := ite_t c44 hf
      exact t_X12_word_163 hX hq hp hlp101 _ _ _ _ _ hf
    · have hf := ite_f c44 hf
      refine g_iconst hX (v := 0) (by decide) dX12_word_123 ?_
      refine g_istore hX [(5, .int 0), (0, .ref (ad 0)), (1, .int x1), (2, .int x2), (3, .int x3), (4, .int x4)] (by decide) rfl dX12_word_124 ?_
      refine g_lv [1, 2, 3, 4, 5, 0] rfl ?_
      exact t_X12_word_126 hX hq hp hlp101 _ _ _ _ _ _ _ hf
set_option maxRecDepth 100000 in
set_option maxHeartbeats 4000000 in
theorem t_X12_word_65 {X : Cx} {ad : Nat → Nat} {PostX : Option Value → va_W → Prop} (hX : Ok X cX12_word 8 RX12) (hq : Rq X 72 0 0 (some .int) PostX) {u : (Int32 × MS)} (hp : PostX (some (.int u.1)) (mW X.E ad u.2)) : ∀ (n : Nat) (x1 : Int32) (x2 : Int32) (x3 : Int32) (x4 : Int32) (S : MS), f_X12_word_65 n x1 x2 x3 x4 S = some u → G X 8 0 0 65 [(0, .ref (ad 0)), (1, .int x1), (2, .int x2), (3, .int x3), (4, .int x4)] [] (mW X.E ad S) := by
  intro n
  induction n with
  | zero => intro _ _ _ _ _ hf; unfold f_X12_word_65 at hf; cases hf
  | succ n hlp65 =>
  intro x1 x2 x3 x4 S hf
  unfold f_X12_word_65 at hf
  refine g_iload hX 4 rfl dX12_word_65 ?_
  refine g_bipush hX (v := 8) (by decide) dX12_word_67 ?_
  refine g_icmp_ge hX 86 (by decide) dX12_word_69 (fun c21 => ?_) (fun c21 => ?_)
  · have hf := ite_t c21 hf
    refine g_aloadn hX 0 rfl rfl dX12_word_86 ?_
    refine g_aloadn hX 0 rfl rfl dX12_word_87 ?_
    refine mg_row hX dX12_word_88 ?_
    refine g_aloadn hX 0 rfl rfl dX12_word_91 ?_
    refine mg_tried hX dX12_word_92 ?_
    refine k_moveAll_1_3 hX hq (by decide) (by decide) (by decide) (Nat.le_of_ble_eq_true rfl) dX12_word_95 ?_
    refine g_iconst hX (v := 0) (by decide) dX12_word_98 ?_
    refine g_istore hX [(4, .int 0), (0, .ref (ad 0)), (1, .int x1), (2, .int x2), (3, .int x3)] (by decide) rfl dX12_word_99 ?_
    refine g_lv [1, 2, 3, 4, 0] rfl ?_
    exact t_X12_word_101 hX hq hp _ _ _ _ _ _ hf
  · have hf := ite_f c21 hf
    refine g_aloadn hX 0 rfl rfl dX12_word_72 ?_
    refine mg_floors hX dX12_word_73 ?_
    refine g_iload hX 4 rfl dX12_word_76 ?_
    refine g_iconst hX (v := 0) (by decide) dX12_word_78 ?_
    obtain ⟨k55, jk55, ik55, hf⟩ := gix_open hf
    refine ms_floors hX ik55 k55 jk55 dX12_word_79 ?_
    obtain ⟨v56, ev56, hf⟩ := bI_open hf
    refine g_iinc hX 4 (v := v56) [(4, .int v56), (0, .ref (ad 0)), (1, .int x1), (2, .int x2), (3, .int x3)] rfl (by rw [ev56]; rfl) (by decide) rfl dX12_word_80 ?_
    refine g_goto hX 65 (by decide) dX12_word_83 ?_
    refine g_lv [1, 2, 3, 4, 0] rfl ?_
    exact hlp65 _ _ _ _ _ hf
set_option maxRecDepth 100000 in
set_option maxHeartbeats 4000000 in
theorem t_X12_word_0 {X : Cx} {ad : Nat → Nat} {PostX : Option Value → va_W → Prop} (hX : Ok X cX12_word 8 RX12) (hq : Rq X 72 0 0 (some .int) PostX) {u : (Int32 × MS)} (hp : PostX (some (.int u.1)) (mW X.E ad u.2)) (a1 : Int32) (a2 : Int32) (a3 : Int32) (S : MS) (hf : f_X12_word a1 a2 a3 S = some u) : G X 8 0 0 0 [(0, .ref (ad 0)), (1, .int a1), (2, .int a2), (3, .int a3)] [] (mW X.E ad S) := by
  unfold f_X12_word at hf
  refine g_iloadn hX 1 rfl rfl dX12_word_0 ?_
  obtain ⟨r1, h2, hf⟩ := cs_open hf
  refine k_RX12_X12_isSheet hX hq h2 (by decide) (by decide) (by decide) (Nat.le_of_ble_eq_true rfl) dX12_word_1 ?_
  refine g_if_eq hX 24 (by decide) dX12_word_4 (fun c3 => ?_) (fun c3 => ?_)
  · have hf := ite_t c3 hf
    refine g_lv [0] rfl ?_
    exact t_X12_word_24 hX hq hp _ hf
  · have hf := ite_f c3 hf
    refine g_aloadn hX 0 rfl rfl dX12_word_7 ?_
    refine g_iloadn hX 2 rfl rfl dX12_word_8 ?_
    obtain ⟨r9, S7, h8, hf⟩ := cb_open hf
    refine k_X12_isRider hX hq (c_X12_isRider h8) (by decide) (by decide) (by decide) (Nat.le_of_ble_eq_true rfl) dX12_word_9 ?_
    refine g_if_eq hX 24 (by decide) dX12_word_12 (fun c10 => ?_) (fun c10 => ?_)
    · have hf := ite_t c10 hf
      refine g_lv [0] rfl ?_
      exact t_X12_word_24 hX hq hp _ hf
    · have hf := ite_f c10 hf
      refine g_iloadn hX 3 rfl rfl dX12_word_15 ?_
      refine g_iconst hX (v := 0) (by decide) dX12_word_16 ?_
      refine g_iconst hX (v := 1) (by decide) dX12_word_17 ?_
      obtain ⟨r11, h12, hf⟩ := cs_open hf
      refine k_RX12_X12_in hX hq h12 (by decide) (by decide) (by decide) (Nat.le_of_ble_eq_true rfl) dX12_word_18 ?_
      refine g_if_ne hX 31 (by decide) dX12_word_21 (fun c13 => ?_) (fun c13 => ?_)
      · have hf := ite_f c13 hf
        refine g_aloadn hX 0 rfl rfl dX12_word_31 ?_
        refine mg_bitsOf hX dX12_word_32 ?_
        refine g_iloadn hX 1 rfl rfl dX12_word_35 ?_
        obtain ⟨k14, jk14, ik14, hf⟩ := gix_open hf
        refine ml_bitsOf hX ik14 k14 jk14 (v := S7.1 7 k14) rfl dX12_word_36 ?_
        refine g_if_eq hX 55 (by decide) dX12_word_37 (fun c15 => ?_) (fun c15 => ?_)
        · have hf := ite_t c15 hf
          refine g_lv [0] rfl ?_
          exact t_X12_word_55 hX hq hp _ hf
        · have hf := ite_f c15 hf
          refine g_aloadn hX 0 rfl rfl dX12_word_40 ?_
          refine mg_sizeOf hX dX12_word_41 ?_
          refine g_iloadn hX 1 rfl rfl dX12_word_44 ?_
          obtain ⟨k19, jk19, ik19, hf⟩ := gix_open hf
          refine ml_sizeOf hX ik19 k19 jk19 (v := S7.1 8 k19) rfl dX12_word_45 ?_
          refine g_aloadn hX 0 rfl rfl dX12_word_46 ?_
          refine mg_row hX dX12_word_47 ?_
          refine g_iconst hX (v := 3) (by decide) dX12_word_50 ?_
          refine ml_row hX (vpc (by decide)) 3 (by decide) (v := S7.1 1 3) rfl dX12_word_51 ?_
          refine g_icmp_le hX 62 (by decide) dX12_word_52 (fun c20 => ?_) (fun c20 => ?_)
          · have hf := ite_t c20 hf
            refine g_iconst hX (v := 0) (by decide) dX12_word_62 ?_
            refine g_istore hX [(4, .int 0), (0, .ref (ad 0)), (1, .int a1), (2, .int a2), (3, .int a3)] (by decide) rfl dX12_word_63 ?_
            refine g_lv [1, 2, 3, 4, 0] rfl ?_
            exact t_X12_word_65 hX hq hp _ _ _ _ _ _ hf
          · have hf := ite_f c20 hf
            refine g_lv [0] rfl ?_
            exact t_X12_word_55 hX hq hp _ hf
      · have hf := ite_t c13 hf
        refine g_lv [0] rfl ?_
        exact t_X12_word_24 hX hq hp _ hf
theorem c_X12_word {l : Launch} {E : En} {ad : Nat → Nat} {a1 : Int32} {a2 : Int32} {a3 : Int32} {r : Int32} {S S2 : MS} (hf : f_X12_word a1 a2 a3 S = some (r, S2)) : CP l E yX12_word cX12_word 8 (some .int) 72 0 0 [] [.ref (ad 0), .int a1, .int a2, .int a3] (mW E ad S) (fun rv w => rv = some (.int r) ∧ w = mW E ad S2) :=
  CP.of (lv := [(0, .ref (ad 0)), (1, .int a1), (2, .int a2), (3, .int a3)]) (by decide +kernel) (Nat.le_of_ble_eq_true rfl) rfl (fun X hl hE hro hX hq hn => by subst hl; subst hE; exact t_X12_word_0 hX hq ⟨rfl, rfl⟩ a1 a2 a3 S hf)
def f_X12_seed (a1 : Int32) (S : MS) : Option (Int32 × MS) :=
  bI (S.1 1 2) fun v1 =>
  some (v1, (sA S 1 2 a1))
set_option maxRecDepth 100000 in
set_option maxHeartbeats 4000000 in
theorem t_X12_seed_0 {X : Cx} {ad : Nat → Nat} {PostX : Option Value → va_W → Prop} (hX : Ok X cX12_seed 3 RX12) (hq : Rq X 0 0 0 (some .int) PostX) {u : (Int32 × MS)} (hp : PostX (some (.int u.1)) (mW X.E ad u.2)) (a1 : Int32) (S : MS) (hf : f_X12_seed a1 S = some u) : G X 3 0 0 0 [(0, .ref (ad 0)), (1, .int a1)] [] (mW X.E ad S) := by
  unfold f_X12_seed at hf
  refine g_aloadn hX 0 rfl rfl dX12_seed_0 ?_
  refine mg_row hX dX12_seed_1 ?_
  refine g_iconst hX (v := 2) (by decide) dX12_seed_4 ?_
  refine ml_row hX (vpc (by decide)) 2 (by decide) (v := S.1 1 2) rfl dX12_seed_5 ?_
  obtain ⟨v1, ev1, hf⟩ := bI_open hf
  refine g_nm ev1 ?_
  refine g_istoren hX [(2, .int v1), (0, .ref (ad 0)), (1, .int a1)] rfl (by decide) rfl dX12_seed_6 ?_
  refine g_aloadn hX 1 rfl rfl dX12_seed_7 ?_
  refine mg_row hX dX12_seed_8 ?_
  refine g_iconst hX (v := 2) (by decide) dX12_seed_11 ?_
  refine g_iloadn hX 2 rfl rfl dX12_seed_12 ?_
  refine ms_row hX (vpc (by decide)) 2 (by decide) dX12_seed_13 ?_
  refine g_iloadn hX 0 rfl rfl dX12_seed_14 ?_
  obtain rfl := oi hf
  exact g_iret hX hq (by decide) (by decide) hp dX12_seed_15
theorem c_X12_seed {l : Launch} {E : En} {ad : Nat → Nat} {a1 : Int32} {r : Int32} {S S2 : MS} (hf : f_X12_seed a1 S = some (r, S2)) : CP l E yX12_seed cX12_seed 3 (some .int) 0 0 0 [] [.ref (ad 0), .int a1] (mW E ad S) (fun rv w => rv = some (.int r) ∧ w = mW E ad S2) :=
  CP.of (lv := [(0, .ref (ad 0)), (1, .int a1)]) (by decide +kernel) (Nat.le_of_ble_eq_true rfl) rfl (fun X hl hE hro hX hq hn => by subst hl; subst hE; exact t_X12_seed_0 hX hq ⟨rfl, rfl⟩ a1 S hf)
def f_X12_ran (a1 : Int32) (S : MS) : Option (Int32 × MS) :=
  if (40 ≤ (S.2 13) : Prop) then
    some (0, S)
  else
    gix (S.2 13) 40 fun k2 =>
    bI ((S.2 13) + 1) fun v3 =>
    some (0, (sF (sA S 12 k2 a1) 13 v3))
set_option maxRecDepth 100000 in
set_option maxHeartbeats 4000000 in
theorem t_X12_ran_0 {X : Cx} {ad : Nat → Nat} {PostX : Option Value → va_W → Prop} (hX : Ok X cX12_ran 2 RX12) (hq : Rq X 0 0 0 none PostX) {u : (Int32 × MS)} (hp : PostX none (mW X.E ad u.2)) (a1 : Int32) (S : MS) (hf : f_X12_ran a1 S = some u) : G X 2 0 0 0 [(0, .ref (ad 0)), (1, .int a1)] [] (mW X.E ad S) := by
  unfold f_X12_ran at hf
  refine g_aloadn hX 0 rfl rfl dX12_ran_0 ?_
  refine mg_tracedMany hX (v := S.2 13) rfl dX12_ran_1 ?_
  refine g_bipush hX (v := 40) (by decide) dX12_ran_4 ?_
  refine g_icmp_ge hX 29 (by decide) dX12_ran_6 (fun c1 => ?_) (fun c1 => ?_)
  · have hf := ite_t c1 hf
    obtain rfl := oi hf
    exact g_vret hX hq (by decide) (by decide) hp dX12_ran_29
  · have hf := ite_f c1 hf
    refine g_aloadn hX 0 rfl rfl dX12_ran_9 ?_
    refine mg_traced hX dX12_ran_10 ?_
    refine g_aloadn hX 0 rfl rfl dX12_ran_13 ?_
    refine mg_tracedMany hX (v := S.2 13) rfl dX12_ran_14 ?_
    refine g_iloadn hX 1 rfl rfl dX12_ran_17 ?_
    obtain ⟨k2, jk2, ik2, hf⟩ := gix_open hf
    refine ms_traced hX ik2 k2 jk2 dX12_ran_18 ?_
    refine g_aloadn hX 0 rfl rfl dX12_ran_19 ?_
    refine g_dup hX rfl dX12_ran_20 ?_
    refine mg_tracedMany hX (v := S.2 13) rfl dX12_ran_21 ?_
    refine g_iconst hX (v := 1) (by decide) dX12_ran_24 ?_
    refine g_iadd hX dX12_ran_25 ?_
    obtain ⟨v3, ev3, hf⟩ := bI_open hf
    refine g_nm ev3 ?_
    refine mp_tracedMany hX dX12_ran_26 ?_
    obtain rfl := oi hf
    exact g_vret hX hq (by decide) (by decide) hp dX12_ran_29
theorem c_X12_ran {l : Launch} {E : En} {ad : Nat → Nat} {a1 : Int32} {r : Int32} {S S2 : MS} (hf : f_X12_ran a1 S = some (r, S2)) : CP l E yX12_ran cX12_ran 2 none 0 0 0 [] [.ref (ad 0), .int a1] (mW E ad S) (fun rv w => rv = none ∧ w = mW E ad S2) :=
  CP.of (lv := [(0, .ref (ad 0)), (1, .int a1)]) (by decide +kernel) (Nat.le_of_ble_eq_true rfl) rfl (fun X hl hE hro hX hq hn => by subst hl; subst hE; exact t_X12_ran_0 hX hq ⟨rfl, rfl⟩ a1 S hf)
theorem kw_RX12_X12_ran : KwV RX12 224 RX12 yX12_ran cX12_ran 2 none 1 := ⟨mem_wsV wd_6_100 wd_6_102 wd_s_50 wd_1_19 wd_6_103, rfl, ⟨by decide +kernel, by decide +kernel, by decide +kernel⟩, by decide⟩
theorem k_X12_ran {X : Cx} {cc : ByteArray} {nL ce sl pc : Nat} {lv : List (Nat × Value)} {st : List Value} {dX mcX msX : Nat} {retX : Option FieldType} {PostX : Option Value → va_W → Prop} {ad : Nat → Nat} {S S2 : MS} {d : Nat} (hX : Ok X cc nL RX12) (hq : Rq X dX mcX msX retX PostX) {a1 : Int32} (hM : CP X.l X.E yX12_ran cX12_ran 2 none d 0 0 [] [.ref (ad 0), .int a1] (mW X.E ad S) (fun rv w => rv = none ∧ w = mW X.E ad S2)) (hd : d < dX) (hc : ce ≤ mcX) (hs : sl ≤ msX) (hcat : (st.map fun v => v.category).sum ≤ 8) (hdg : decode cc pc = .ok (.invokevirtual 224, 3)) (kk : G X nL ce sl (pc + 3) lv st (mW X.E ad S2)) : G X nL ce sl pc lv (.int a1 :: .ref (ad 0) :: st) (mW X.E ad S) :=
  g_eqW (app1 _) (g_callV (pre := []) (mid := mW X.E ad S) (post := []) [.int a1] hX hq kw_RX12_X12_ran hM (fun _ h => absurd h List.not_mem_nil) hd hc hs rfl (Recv.of 0 12 rfl rfl) rfl hcat hdg (fun rv ws2 hp => by obtain ⟨rfl, rfl⟩ := hp; exact g_eqW (app1 _).symm kk))
theorem kw_RX12_X12_saysIn : KwV RX12 230 RX12 yX12_saysIn cX12_saysIn 3 (some .int) 2 := ⟨mem_wsV wd_6_96 wd_6_98 wd_s_49 wd_1_19 wd_6_99, rfl, ⟨by decide +kernel, by decide +kernel, by decide +kernel⟩, by decide⟩
theorem k_X12_saysIn {X : Cx} {cc : ByteArray} {nL ce sl pc : Nat} {lv : List (Nat × Value)} {st : List Value} {dX mcX msX : Nat} {retX : Option FieldType} {PostX : Option Value → va_W → Prop} {ad : Nat → Nat} {S S2 : MS} {d : Nat} (hX : Ok X cc nL RX12) (hq : Rq X dX mcX msX retX PostX) {a1 : Int32} {a2 : Int32} {r : Int32} (hM : CP X.l X.E yX12_saysIn cX12_saysIn 3 (some .int) d 0 0 [] [.ref (ad 0), .int a1, .int a2] (mW X.E ad S) (fun rv w => rv = some (.int r) ∧ w = mW X.E ad S2)) (hd : d < dX) (hc : ce ≤ mcX) (hs : sl ≤ msX) (hcat : (st.map fun v => v.category).sum ≤ 8) (hdg : decode cc pc = .ok (.invokevirtual 230, 3)) (kk : G X nL ce sl (pc + 3) lv (.int r :: st) (mW X.E ad S2)) : G X nL ce sl pc lv (.int a2 :: .int a1 :: .ref (ad 0) :: st) (mW X.E ad S) :=
  g_eqW (app1 _) (g_callV (pre := []) (mid := mW X.E ad S) (post := []) [.int a1, .int a2] hX hq kw_RX12_X12_saysIn hM (fun _ h => absurd h List.not_mem_nil) hd hc hs rfl (Recv.of 0 12 rfl rfl) rfl hcat hdg (fun rv ws2 hp => by obtain ⟨rfl, rfl⟩ := hp; exact g_eqW (app1 _).symm kk))
def f_X12_saysIn (fr : Int32 → Int32 → MS → Option (Int32 × MS)) (a1 : Int32) (a2 : Int32) (S : MS) : Option (Int32 × MS) :=
  if (a1 = 0 : Prop) then
    cb (f_X12_ran 10 S) fun _ S14 =>
    some ((a2 + (S14.2 15)), S14)
  else
    if (a1 = 1 : Prop) then
      cb (f_X12_ran 20 S) fun _ S8 =>
      cb (fr 0 a2 S8) fun r13 S11 =>
      some ((r13 * 3), S11)
    else
      cs (f_X12_above a1) fun r3 =>
      cb (fr r3 a2 S) fun r7 S5 =>
      some (r7, S5)
set_option maxRecDepth 100000 in
set_option maxHeartbeats 4000000 in
theorem t_X12_saysIn_0 {X : Cx} {ad : Nat → Nat} {dk : Nat} (hdk : 12 ≤ dk) {PostX : Option Value → va_W → Prop} (hX : Ok X cX12_saysIn 3 RX12) (hq : Rq X (dk + 1) 0 0 (some .int) PostX) {u : (Int32 × MS)} (hp : PostX (some (.int u.1)) (mW X.E ad u.2)) {fr : Int32 → Int32 → MS → Option (Int32 × MS)} (hfr : ∀ (a1 : Int32) (a2 : Int32) (S : MS) (r : Int32) (S2 : MS), fr a1 a2 S = some (r, S2) → CP X.l X.E yX12_saysIn cX12_saysIn 3 (some .int) dk 0 0 [] [.ref (ad 0), .int a1, .int a2] (mW X.E ad S) (fun rv w => rv = some (.int r) ∧ w = mW X.E ad S2)) (a1 : Int32) (a2 : Int32) (S : MS) (hf : f_X12_saysIn fr a1 a2 S = some u) : G X 3 0 0 0 [(0, .ref (ad 0)), (1, .int a1), (2, .int a2)] [] (mW X.E ad S) := by
  unfold f_X12_saysIn at hf
  refine g_iloadn hX 1 rfl rfl dX12_saysIn_0 ?_
  refine g_if_ne hX 17 (by decide) dX12_saysIn_1 (fun c1 => ?_) (fun c1 => ?_)
  · have hf := ite_f c1 hf
    refine g_iloadn hX 1 rfl rfl dX12_saysIn_17 ?_
    refine g_iconst hX (v := 1) (by decide) dX12_saysIn_18 ?_
    refine g_icmp_ne hX 37 (by decide) dX12_saysIn_19 (fun c2 => ?_) (fun c2 => ?_)
    · have hf := ite_f c2 hf
      refine g_aloadn hX 0 rfl rfl dX12_saysIn_37 ?_
      refine g_iloadn hX 1 rfl rfl dX12_saysIn_38 ?_
      obtain ⟨r3, h4, hf⟩ := cs_open hf
      refine k_RX12_X12_above hX hq h4 (by omega) (by decide) (by decide) (Nat.le_of_ble_eq_true rfl) dX12_saysIn_39 ?_
      refine g_iloadn hX 2 rfl rfl dX12_saysIn_42 ?_
      obtain ⟨r7, S5, h6, hf⟩ := cb_open hf
      refine k_X12_saysIn hX hq (hfr _ _ _ _ _ h6) (by omega) (by decide) (by decide) (Nat.le_of_ble_eq_true rfl) dX12_saysIn_43 ?_
      obtain rfl := oi hf
      exact g_iret hX hq (by decide) (by decide) hp dX12_saysIn_46
    · have hf := ite_t c2 hf
      refine g_aloadn hX 0 rfl rfl dX12_saysIn_22 ?_
      refine g_bipush hX (v := 20) (by decide) dX12_saysIn_23 ?_
      obtain ⟨z10, S8, h9, hf⟩ := cb_open hf
      refine k_X12_ran hX hq (c_X12_ran h9) (by omega) (by decide) (by decide) (Nat.le_of_ble_eq_true rfl) dX12_saysIn_25 ?_
      refine g_aloadn hX 0 rfl rfl dX12_saysIn_28 ?_
      refine g_iconst hX (v := 0) (by decide) dX12_saysIn_29 ?_
      refine g_iloadn hX 2 rfl rfl dX12_saysIn_30 ?_
      obtain ⟨r13, S11, h12, hf⟩ := cb_open hf
      refine k_X12_saysIn hX hq (hfr _ _ _ _ _ h12) (by omega) (by decide) (by decide) (Nat.le_of_ble_eq_true rfl) dX12_saysIn_31 ?_
      refine g_iconst hX (v := 3) (by decide) dX12_saysIn_34 ?_
      refine g_imul hX dX12_saysIn_35 ?_
      obtain rfl := oi hf
      exact g_iret hX hq (by decide) (by decide) hp dX12_saysIn_36
  · have hf := ite_t c1 hf
    refine g_aloadn hX 0 rfl rfl dX12_saysIn_4 ?_
    refine g_bipush hX (v := 10) (by decide) dX12_saysIn_5 ?_
    obtain ⟨z16, S14, h15, hf⟩ := cb_open hf
    refine k_X12_ran hX hq (c_X12_ran h15) (by omega) (by decide) (by decide) (Nat.le_of_ble_eq_true rfl) dX12_saysIn_7 ?_
    refine g_iloadn hX 2 rfl rfl dX12_saysIn_10 ?_
    refine g_aloadn hX 0 rfl rfl dX12_saysIn_11 ?_
    refine mg_voiceN hX (v := S14.2 15) rfl dX12_saysIn_12 ?_
    refine g_iadd hX dX12_saysIn_15 ?_
    obtain rfl := oi hf
    exact g_iret hX hq (by decide) (by decide) hp dX12_saysIn_16
theorem c_X12_saysIn {l : Launch} {E : En} {ad : Nat → Nat} {dk : Nat} (hdk : 12 ≤ dk) {fr : Int32 → Int32 → MS → Option (Int32 × MS)} (hfr : ∀ (a1 : Int32) (a2 : Int32) (S : MS) (r : Int32) (S2 : MS), fr a1 a2 S = some (r, S2) → CP l E yX12_saysIn cX12_saysIn 3 (some .int) dk 0 0 [] [.ref (ad 0), .int a1, .int a2] (mW E ad S) (fun rv w => rv = some (.int r) ∧ w = mW E ad S2)) {a1 : Int32} {a2 : Int32} {r : Int32} {S S2 : MS} (hf : f_X12_saysIn fr a1 a2 S = some (r, S2)) : CP l E yX12_saysIn cX12_saysIn 3 (some .int) (dk + 1) 0 0 [] [.ref (ad 0), .int a1, .int a2] (mW E ad S) (fun rv w => rv = some (.int r) ∧ w = mW E ad S2) :=
  CP.of (lv := [(0, .ref (ad 0)), (1, .int a1), (2, .int a2)]) (by decide +kernel) (Nat.le_of_ble_eq_true rfl) rfl (fun X hl hE hro hX hq hn => by subst hl; subst hE; exact t_X12_saysIn_0 hdk hX hq ⟨rfl, rfl⟩ hfr a1 a2 S hf)
def fr_X12_saysIn : Nat → Int32 → Int32 → MS → Option (Int32 × MS)
  | 0 => fun _ _ _ => none
  | n + 1 => f_X12_saysIn (fr_X12_saysIn n)
theorem cr_X12_saysIn {l : Launch} {E : En} {ad : Nat → Nat} : ∀ (n : Nat) (a1 : Int32) (a2 : Int32) (S : MS) (r : Int32) (S2 : MS), fr_X12_saysIn n a1 a2 S = some (r, S2) → CP l E yX12_saysIn cX12_saysIn 3 (some .int) (12 + n * 1) 0 0 [] [.ref (ad 0), .int a1, .int a2] (mW E ad S) (fun rv w => rv = some (.int r) ∧ w = mW E ad S2) := by
  intro n
  induction n with
  | zero => intro a1 a2 S r S2 hf; cases hf
  | succ n ih =>
    intro a1 a2 S r S2 hf
    have h := c_X12_saysIn (l := l) (E := E) (ad := ad) (dk := 12 + n * 1) (by omega) (fun a1 a2 S r S2 h => ih a1 a2 S r S2 h) hf
    have e : 12 + n * 1 + 1 = 12 + (n + 1) * 1 := by omega
    rw [e] at h
    exact h
theorem kw_RX12_X12_doubtsIn : KwV RX12 236 RX12 yX12_doubtsIn cX12_doubtsIn 3 (some .int) 2 := ⟨mem_wsV wd_6_108 wd_6_110 wd_s_52 wd_1_19 wd_6_111, rfl, ⟨by decide +kernel, by decide +kernel, by decide +kernel⟩, by decide⟩
theorem k_X12_doubtsIn {X : Cx} {cc : ByteArray} {nL ce sl pc : Nat} {lv : List (Nat × Value)} {st : List Value} {dX mcX msX : Nat} {retX : Option FieldType} {PostX : Option Value → va_W → Prop} {ad : Nat → Nat} {S S2 : MS} {d : Nat} (hX : Ok X cc nL RX12) (hq : Rq X dX mcX msX retX PostX) {a1 : Int32} {a2 : Int32} {r : Int32} (hM : CP X.l X.E yX12_doubtsIn cX12_doubtsIn 3 (some .int) d 0 0 [] [.ref (ad 0), .int a1, .int a2] (mW X.E ad S) (fun rv w => rv = some (.int r) ∧ w = mW X.E ad S2)) (hd : d < dX) (hc : ce ≤ mcX) (hs : sl ≤ msX) (hcat : (st.map fun v => v.category).sum ≤ 8) (hdg : decode cc pc = .ok (.invokevirtual 236, 3)) (kk : G X nL ce sl (pc + 3) lv (.int r :: st) (mW X.E ad S2)) : G X nL ce sl pc lv (.int a2 :: .int a1 :: .ref (ad 0) :: st) (mW X.E ad S) :=
  g_eqW (app1 _) (g_callV (pre := []) (mid := mW X.E ad S) (post := []) [.int a1, .int a2] hX hq kw_RX12_X12_doubtsIn hM (fun _ h => absurd h List.not_mem_nil) hd hc hs rfl (Recv.of 0 12 rfl rfl) rfl hcat hdg (fun rv ws2 hp => by obtain ⟨rfl, rfl⟩ := hp; exact g_eqW (app1 _).symm kk))
def f_X12_doubtsIn (fr : Int32 → Int32 → MS → Option (Int32 × MS)) (a1 : Int32) (a2 : Int32) (S : MS) : Option (Int32 × MS) :=
  if (a1 = 0 : Prop) then
    cb (f_X12_ran 12 S) fun _ S21 =>
    some ((a2 - (S21.2 16)), S21)
  else
    if (a1 = 3 : Prop) then
      cb (f_X12_ran 40 S) fun _ S15 =>
      cb (fr 0 a2 S15) fun r20 S18 =>
      some ((-r20), S18)
    else
      if (a1 = 6 : Prop) then
        cb (f_X12_ran 70 S) fun _ S9 =>
        cb (fr 3 a2 S9) fun r14 S12 =>
        some ((r14 ^^^ (S12.2 15)), S12)
      else
        cs (f_X12_above a1) fun r4 =>
        cb (fr r4 a2 S) fun r8 S6 =>
        some (r8, S6)
set_option maxRecDepth 100000 in
set_option maxHeartbeats 4000000 in
theorem t_X12_doubtsIn_0 {X : Cx} {ad : Nat → Nat} {dk : Nat} (hdk : 12 ≤ dk) {PostX : Option Value → va_W → Prop} (hX : Ok X cX12_doubtsIn 3 RX12) (hq : Rq X (dk + 1) 0 0 (some .int) PostX) {u : (Int32 × MS)} (hp : PostX (some (.int u.1)) (mW X.E ad u.2)) {fr : Int32 → Int32 → MS → Option (Int32 × MS)} (hfr : ∀ (a1 : Int32) (a2 : Int32) (S : MS) (r : Int32) (S2 : MS), fr a1 a2 S = some (r, S2) → CP X.l X.E yX12_doubtsIn cX12_doubtsIn 3 (some .int) dk 0 0 [] [.ref (ad 0), .int a1, .int a2] (mW X.E ad S) (fun rv w => rv = some (.int r) ∧ w = mW X.E ad S2)) (a1 : Int32) (a2 : Int32) (S : MS) (hf : f_X12_doubtsIn fr a1 a2 S = some u) : G X 3 0 0 0 [(0, .ref (ad 0)), (1, .int a1), (2, .int a2)] [] (mW X.E ad S) := by
  unfold f_X12_doubtsIn at hf
  refine g_iloadn hX 1 rfl rfl dX12_doubtsIn_0 ?_
  refine g_if_ne hX 17 (by decide) dX12_doubtsIn_1 (fun c1 => ?_) (fun c1 => ?_)
  · have hf := ite_f c1 hf
    refine g_iloadn hX 1 rfl rfl dX12_doubtsIn_17 ?_
    refine g_iconst hX (v := 3) (by decide) dX12_doubtsIn_18 ?_
    refine g_icmp_ne hX 36 (by decide) dX12_doubtsIn_19 (fun c2 => ?_) (fun c2 => ?_)
    · have hf := ite_f c2 hf
      refine g_iloadn hX 1 rfl rfl dX12_doubtsIn_36 ?_
      refine g_bipush hX (v := 6) (by decide) dX12_doubtsIn_37 ?_
      refine g_icmp_ne hX 60 (by decide) dX12_doubtsIn_39 (fun c3 => ?_) (fun c3 => ?_)
      · have hf := ite_f c3 hf
        refine g_aloadn hX 0 rfl rfl dX12_doubtsIn_60 ?_
        refine g_iloadn hX 1 rfl rfl dX12_doubtsIn_61 ?_
        obtain ⟨r4, h5, hf⟩ := cs_open hf
        refine k_RX12_X12_above hX hq h5 (by omega) (by decide) (by decide) (Nat.le_of_ble_eq_true rfl) dX12_doubtsIn_62 ?_
        refine g_iloadn hX 2 rfl rfl dX12_doubtsIn_65 ?_
        obtain ⟨r8, S6, h7, hf⟩ := cb_open hf
        refine k_X12_doubtsIn hX hq (hfr _ _ _ _ _ h7) (by omega) (by decide) (by decide) (Nat.le_of_ble_eq_true rfl) dX12_doubtsIn_66 ?_
        obtain rfl := oi hf
        exact g_iret hX hq (by decide) (by decide) hp dX12_doubtsIn_69
      · have hf := ite_t c3 hf
        refine g_aloadn hX 0 rfl rfl dX12_doubtsIn_42 ?_
        refine g_bipush hX (v := 70) (by decide) dX12_doubtsIn_43 ?_
        obtain ⟨z11, S9, h10, hf⟩ := cb_open hf
        refine k_X12_ran hX hq (c_X12_ran h10) (by omega) (by decide) (by decide) (Nat.le_of_ble_eq_true rfl) dX12_doubtsIn_45 ?_
        refine g_aloadn hX 0 rfl rfl dX12_doubtsIn_48 ?_
        refine g_iconst hX (v := 3) (by decide) dX12_doubtsIn_49 ?_
        refine g_iloadn hX 2 rfl rfl dX12_doubtsIn_50 ?_
        obtain ⟨r14, S12, h13, hf⟩ := cb_open hf
        refine k_X12_doubtsIn hX hq (hfr _ _ _ _ _ h13) (by omega) (by decide) (by decide) (Nat.le_of_ble_eq_true rfl) dX12_doubtsIn_51 ?_
        refine g_aloadn hX 0 rfl rfl dX12_doubtsIn_54 ?_
        refine mg_voiceN hX (v := S12.2 15) rfl dX12_doubtsIn_55 ?_
        refine g_ixor hX dX12_doubtsIn_58 ?_
        obtain rfl := oi hf
        exact g_iret hX hq (by decide) (by decide) hp dX12_doubtsIn_59
    · have hf := ite_t c2 hf
      refine g_aloadn hX 0 rfl rfl dX12_doubtsIn_22 ?_
      refine g_bipush hX (v := 40) (by decide) dX12_doubtsIn_23 ?_
      obtain ⟨z17, S15, h16, hf⟩ := cb_open hf
      refine k_X12_ran hX hq (c_X12_ran h16) (by omega) (by decide) (by decide) (Nat.le_of_ble_eq_true rfl) dX12_doubtsIn_25 ?_
      refine g_aloadn hX 0 rfl rfl dX12_doubtsIn_28 ?_
      refine g_iconst hX (v := 0) (by decide) dX12_doubtsIn_29 ?_
      refine g_iloadn hX 2 rfl rfl dX12_doubtsIn_30 ?_
      obtain ⟨r20, S18, h19, hf⟩ := cb_open hf
      refine k_X12_doubtsIn hX hq (hfr _ _ _ _ _ h19) (by omega) (by decide) (by decide) (Nat.le_of_ble_eq_true rfl) dX12_doubtsIn_31 ?_
      refine g_ineg hX dX12_doubtsIn_34 ?_
      obtain rfl := oi hf
      exact g_iret hX hq (by decide) (by decide) hp dX12_doubtsIn_35
  · have hf := ite_t c1 hf
    refine g_aloadn hX 0 rfl rfl dX12_doubtsIn_4 ?_
    refine g_bipush hX (v := 12) (by decide) dX12_doubtsIn_5 ?_
    obtain ⟨z23, S21, h22, hf⟩ := cb_open hf
    refine k_X12_ran hX hq (c_X12_ran h22) (by omega) (by decide) (by decide) (Nat.le_of_ble_eq_true rfl) dX12_doubtsIn_7 ?_
    refine g_iloadn hX 2 rfl rfl dX12_doubtsIn_10 ?_
    refine g_aloadn hX 0 rfl rfl dX12_doubtsIn_11 ?_
    refine mg_voiceM hX (v := S21.2 16) rfl dX12_doubtsIn_12 ?_
    refine g_isub hX dX12_doubtsIn_15 ?_
    obtain rfl := oi hf
    exact g_iret hX hq (by decide) (by decide) hp dX12_doubtsIn_16
theorem c_X12_doubtsIn {l : Launch} {E : En} {ad : Nat → Nat} {dk : Nat} (hdk : 12 ≤ dk) {fr : Int32 → Int32 → MS → Option (Int32 × MS)} (hfr : ∀ (a1 : Int32) (a2 : Int32) (S : MS) (r : Int32) (S2 : MS), fr a1 a2 S = some (r, S2) → CP l E yX12_doubtsIn cX12_doubtsIn 3 (some .int) dk 0 0 [] [.ref (ad 0), .int a1, .int a2] (mW E ad S) (fun rv w => rv = some (.int r) ∧ w = mW E ad S2)) {a1 : Int32} {a2 : Int32} {r : Int32} {S S2 : MS} (hf : f_X12_doubtsIn fr a1 a2 S = some (r, S2)) : CP l E yX12_doubtsIn cX12_doubtsIn 3 (some .int) (dk + 1) 0 0 [] [.ref (ad 0), .int a1, .int a2] (mW E ad S) (fun rv w => rv = some (.int r) ∧ w = mW E ad S2) :=
  CP.of (lv := [(0, .ref (ad 0)), (1, .int a1), (2, .int a2)]) (by decide +kernel) (Nat.le_of_ble_eq_true rfl) rfl (fun X hl hE hro hX hq hn => by subst hl; subst hE; exact t_X12_doubtsIn_0 hdk hX hq ⟨rfl, rfl⟩ hfr a1 a2 S hf)
def fr_X12_doubtsIn : Nat → Int32 → Int32 → MS → Option (Int32 × MS)
  | 0 => fun _ _ _ => none
  | n + 1 => f_X12_doubtsIn (fr_X12_doubtsIn n)
theorem cr_X12_doubtsIn {l : Launch} {E : En} {ad : Nat → Nat} : ∀ (n : Nat) (a1 : Int32) (a2 : Int32) (S : MS) (r : Int32) (S2 : MS), fr_X12_doubtsIn n a1 a2 S = some (r, S2) → CP l E yX12_doubtsIn cX12_doubtsIn 3 (some .int) (12 + n * 1) 0 0 [] [.ref (ad 0), .int a1, .int a2] (mW E ad S) (fun rv w => rv = some (.int r) ∧ w = mW E ad S2) := by
  intro n
  induction n with
  | zero => intro a1 a2 S r S2 hf; cases hf
  | succ n ih =>
    intro a1 a2 S r S2 hf
    have h := c_X12_doubtsIn (l := l) (E := E) (ad := ad) (dk := 12 + n * 1) (by omega) (fun a1 a2 S r S2 h => ih a1 a2 S r S2 h) hf
    have e : 12 + n * 1 + 1 = 12 + (n + 1) * 1 := by omega
    rw [e] at h
    exact h

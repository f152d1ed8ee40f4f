def f_X11_voice_17 (RD : Nat → Nat × Int32 × Int32 × Int32) (S : MS) : Option (Int32 × MS) :=
  cb (f_X11_error RD 1 S) fun r7 S5 =>
  some (r7, S5)
def f_X11_voice (RD : Nat → Nat × Int32 × Int32 × Int32) (a1 : Int32) (a2 : Int32) (a3 : Int32) (S : MS) : Option (Int32 × MS) :=
  cb (f_X11_isRider RD a1 S) fun r3 S1 =>
  if (r3 = 0 : Prop) then
    f_X11_voice_17 RD S1
  else
    if (a2 < 0 : Prop) then
      f_X11_voice_17 RD S1
    else
      if (a2 ≤ 3 : Prop) then
        gix a1 6 fun k10 =>
        if (a2 = 0 : Prop) then
          gk k10 6 <|
          cb (fv_says (RD k10) a3 (trV (sF S1 41 0))) fun r13 S14 =>
          some (r13, (trJ (sF S1 41 0) S14))
        else
        if (a2 = 1 : Prop) then
          gk k10 6 <|
          cb (fv_rises (RD k10) a3 (trV (sF S1 41 0))) fun r18 S19 =>
          some (r18, (trJ (sF S1 41 0) S19))
        else
        if (a2 = 2 : Prop) then
          gk k10 6 <|
          cb (fv_doubts (RD k10) a3 (trV (sF S1 41 0))) fun r23 S24 =>
          some (r23, (trJ (sF S1 41 0) S24))
        else
        gk k10 6 <|
        cb (fv_tells (RD k10) a3 (trV (sF S1 41 0))) fun r27 S28 =>
        some (r27, (trJ (sF S1 41 0) S28))
      else
        f_X11_voice_17 RD S1
set_option maxRecDepth 100000 in
set_option maxHeartbeats 4000000 in
theorem t_X11_voice_17 {X : Cx} {ad Q : Nat → Nat} {kv : Value} {RD : Nat → Nat × Int32 × Int32 × Int32} (hro : ∀ z ∈ roL Q RD, z ∈ X.ro) (hRk : ∀ k, k < 6 → isRk (RD k).1) {PostX : Option Value → va_W → Prop} (hX : Ok X cX11_voice 5 RX11) (hq : Rq X 13 0 0 (some .int) PostX) {u : (Int32 × MS)} (hp : PostX (some (.int u.1)) (xW X.E ad Q kv u.2)) (S : MS) (hf : f_X11_voice_17 RD S = some u) : G X 5 0 0 17 [(0, .ref (ad 10))] [] (xW X.E ad Q kv S) := by
  unfold f_X11_voice_17 at hf
  refine g_aloadn hX 0 rfl rfl dX11_voice_17 ?_
  refine g_iconst hX (v := 1) (by decide) dX11_voice_18 ?_
  obtain ⟨r7, S5, h6, hf⟩ := cb_open hf
  refine k_X11_error hro hX hq (c_X11_error hRk h6) (by decide) (by decide) (by decide) (Nat.le_of_ble_eq_true rfl) dX11_voice_19 ?_
  obtain rfl := oi hf
  exact g_iret hX hq (by decide) (by decide) hp dX11_voice_22
set_option maxRecDepth 100000 in
set_option maxHeartbeats 4000000 in
theorem t_X11_voice_0 {X : Cx} {ad Q : Nat → Nat} {kv : Value} {RD : Nat → Nat × Int32 × Int32 × Int32} (hro : ∀ z ∈ roL Q RD, z ∈ X.ro) (hRk : ∀ k, k < 6 → isRk (RD k).1) {PostX : Option Value → va_W → Prop} (hX : Ok X cX11_voice 5 RX11) (hq : Rq X 13 0 0 (some .int) PostX) {u : (Int32 × MS)} (hp : PostX (some (.int u.1)) (xW X.E ad Q kv u.2)) (a1 : Int32) (a2 : Int32) (a3 : Int32) (S : MS) (hf : f_X11_voice RD a1 a2 a3 S = some u) : G X 5 0 0 0 [(0, .ref (ad 10)), (1, .int a1), (2, .int a2), (3, .int a3)] [] (xW X.E ad Q kv S) := by
  unfold f_X11_voice at hf
  refine g_aloadn hX 0 rfl rfl dX11_voice_0 ?_
  refine g_iloadn hX 1 rfl rfl dX11_voice_1 ?_
  obtain ⟨r3, S1, h2, hf⟩ := cb_open hf
  refine k_X11_isRider hro hX hq (c_X11_isRider hRk h2) (by decide) (by decide) (by decide) (Nat.le_of_ble_eq_true rfl) dX11_voice_2 ?_
  refine g_if_eq hX 17 (by decide) dX11_voice_5 (fun c4 => ?_) (fun c4 => ?_)
  · have hf := ite_t c4 hf
    refine g_lv [0] rfl ?_
    exact t_X11_voice_17 hro hRk hX hq hp _ hf
  · have hf := ite_f c4 hf
    refine g_iloadn hX 2 rfl rfl dX11_voice_8 ?_
    refine g_if_lt hX 17 (by decide) dX11_voice_9 (fun c8 => ?_) (fun c8 => ?_)
    · have hf := ite_t c8 hf
      refine g_lv [0] rfl ?_
      exact t_X11_voice_17 hro hRk hX hq hp _ hf
    · have hf := ite_f c8 hf
      refine g_iloadn hX 2 rfl rfl dX11_voice_12 ?_
      refine g_iconst hX (v := 3) (by decide) dX11_voice_13 ?_
      refine g_icmp_le hX 23 (by decide) dX11_voice_14 (fun c9 => ?_) (fun c9 => ?_)
      · have hf := ite_t c9 hf
        refine g_aloadn hX 0 rfl rfl dX11_voice_23 ?_
        refine xg_lift hX dX11_voice_24 ?_
        refine xg_riders hX dX11_voice_27 ?_
        refine g_iloadn hX 1 rfl rfl dX11_voice_30 ?_
        obtain ⟨k10, jk10, ik10, hf⟩ := gix_open hf
        refine xl_riders hX ik10 k10 jk10 dX11_voice_31 ?_
        refine g_astore hX [(4, .ref (Q k10)), (0, .ref (ad 10)), (1, .int a1), (2, .int a2), (3, .int a3)] (by decide) rfl dX11_voice_32 ?_
        refine g_aloadn hX 1 rfl rfl dX11_voice_34 ?_
        refine xg_trace hX dX11_voice_35 ?_
        refine g_iconst hX (v := 0) (by decide) dX11_voice_38 ?_
        refine xp_tlen hX dX11_voice_39 ?_
        refine g_iloadn hX 3 rfl rfl dX11_voice_42 ?_
        by_cases c11 : a2 = 0
        · have hf := ite_t c11 hf
          refine g_tsin hX 68 c11 (by decide) (by rfl) (by decide) dX11_voice_43 ?_
          refine g_aload hX 0 rfl dX11_voice_68 ?_
          refine g_aloadn hX 1 rfl rfl dX11_voice_70 ?_
          refine xg_trace hX dX11_voice_71 ?_
          refine g_iloadn hX 4 rfl rfl dX11_voice_74 ?_
          obtain ⟨h12, hf⟩ := gk_open hf
          obtain ⟨r13, S14, h15, hf⟩ := cb_open hf
          refine kx_says hro h12 hX hq h15 (by decide) (by decide) (by decide) (Nat.le_of_ble_eq_true rfl) dX11_voice_75 ?_
          obtain rfl := oi hf
          exact g_iret hX hq (by decide) (by decide) hp dX11_voice_78
        have hf := ite_f c11 hf
        by_cases c16 : a2 = 1
        · have hf := ite_t c16 hf
          refine g_tsin hX 79 c16 (by decide) (by rfl) (by decide) dX11_voice_43 ?_
          refine g_aload hX 0 rfl dX11_voice_79 ?_
          refine g_aloadn hX 1 rfl rfl dX11_voice_81 ?_
          refine xg_trace hX dX11_voice_82 ?_
          refine g_iloadn hX 4 rfl rfl dX11_voice_85 ?_
          obtain ⟨h17, hf⟩ := gk_open hf
          obtain ⟨r18, S19, h20, hf⟩ := cb_open hf
          refine kx_rises hro h17 hX hq h20 (by decide) (by decide) (by decide) (Nat.le_of_ble_eq_true rfl) dX11_voice_86 ?_
          obtain rfl := oi hf
          exact g_iret hX hq (by decide) (by decide) hp dX11_voice_89
        have hf := ite_f c16 hf
        by_cases c21 : a2 = 2
        · have hf := ite_t c21 hf
          refine g_tsin hX 90 c21 (by decide) (by rfl) (by decide) dX11_voice_43 ?_
          refine g_aload hX 0 rfl dX11_voice_90 ?_
          refine g_aloadn hX 1 rfl rfl dX11_voice_92 ?_
          refine xg_trace hX dX11_voice_93 ?_
          refine g_iloadn hX 4 rfl rfl dX11_voice_96 ?_
          obtain ⟨h22, hf⟩ := gk_open hf
          obtain ⟨r23, S24, h25, hf⟩ := cb_open hf
          refine kx_doubts hro h22 hX hq h25 (by decide) (by decide) (by decide) (Nat.le_of_ble_eq_true rfl) dX11_voice_97 ?_
          obtain rfl := oi hf
          exact g_iret hX hq (by decide) (by decide) hp dX11_voice_100
        have hf := ite_f c21 hf
        refine g_tsout hX 101 (tsw_out_0_2 c11 c16 c21) (by decide) dX11_voice_43 ?_
        refine g_aload hX 0 rfl dX11_voice_101 ?_
        refine g_aloadn hX 1 rfl rfl dX11_voice_103 ?_
        refine xg_trace hX dX11_voice_104 ?_
        refine g_iloadn hX 4 rfl rfl dX11_voice_107 ?_
        obtain ⟨h26, hf⟩ := gk_open hf
        obtain ⟨r27, S28, h29, hf⟩ := cb_open hf
        refine kx_tells hro h26 hX hq h29 (by decide) (by decide) (by decide) (Nat.le_of_ble_eq_true rfl) dX11_voice_108 ?_
        obtain rfl := oi hf
        exact g_iret hX hq (by decide) (by decide) hp dX11_voice_111
      · have hf := ite_f c9 hf
        refine g_lv [0] rfl ?_
        exact t_X11_voice_17 hro hRk hX hq hp _ hf
theorem c_X11_voice {l : Launch} {E : En} {ad Q : Nat → Nat} {kv : Value} {RD : Nat → Nat × Int32 × Int32 × Int32} (hRk : ∀ k, k < 6 → isRk (RD k).1) {a1 : Int32} {a2 : Int32} {a3 : Int32} {r : Int32} {S S2 : MS} (hf : f_X11_voice RD a1 a2 a3 S = some (r, S2)) : CP l E yX11_voice cX11_voice 5 (some .int) 13 0 0 (roL Q RD) [.ref (ad 10), .int a1, .int a2, .int a3] (xW E ad Q kv S) (fun rv w => rv = some (.int r) ∧ w = xW E ad Q kv S2) :=
  CP.of (lv := [(0, .ref (ad 10)), (1, .int a1), (2, .int a2), (3, .int a3)]) (by decide +kernel) (Nat.le_of_ble_eq_true rfl) rfl (fun X hl hE hro hX hq hn => by subst hl; subst hE; exact t_X11_voice_0 (fun z hz => by rw [hro]; exact hz) hRk hX hq ⟨rfl, rfl⟩ a1 a2 a3 S hf)
def f_X11_trace_15 (RD : Nat → Nat × Int32 × Int32 × Int32) (S : MS) : Option (Int32 × MS) :=
  cb (f_X11_error RD 2 S) fun r4 S2 =>
  some (r4, S2)
def f_X11_trace (RD : Nat → Nat × Int32 × Int32 × Int32) (a1 : Int32) (S : MS) : Option (Int32 × MS) :=
  if (a1 < 0 : Prop) then
    f_X11_trace_15 RD S
  else
    if (a1 < (S.2 41) : Prop) then
      gix a1 40 fun k6 =>
      some ((S.1 8 k6), S)
    else
      f_X11_trace_15 RD S
set_option maxRecDepth 100000 in
set_option maxHeartbeats 4000000 in
theorem t_X11_trace_15 {X : Cx} {ad Q : Nat → Nat} {kv : Value} {RD : Nat → Nat × Int32 × Int32 × Int32} (hro : ∀ z ∈ roL Q RD, z ∈ X.ro) (hRk : ∀ k, k < 6 → isRk (RD k).1) {PostX : Option Value → va_W → Prop} (hX : Ok X cX11_trace 2 RX11) (hq : Rq X 1 0 0 (some .int) PostX) {u : (Int32 × MS)} (hp : PostX (some (.int u.1)) (xW X.E ad Q kv u.2)) (S : MS) (hf : f_X11_trace_15 RD S = some u) : G X 2 0 0 15 [(0, .ref (ad 10))] [] (xW X.E ad Q kv S) := by
  unfold f_X11_trace_15 at hf
  refine g_aloadn hX 0 rfl rfl dX11_trace_15 ?_
  refine g_iconst hX (v := 2) (by decide) dX11_trace_16 ?_
  obtain ⟨r4, S2, h3, hf⟩ := cb_open hf
  refine k_X11_error hro hX hq (c_X11_error hRk h3) (by decide) (by decide) (by decide) (Nat.le_of_ble_eq_true rfl) dX11_trace_17 ?_
  refine g_goto hX 32 (by decide) dX11_trace_20 ?_
  obtain rfl := oi hf
  exact g_iret hX hq (by decide) (by decide) hp dX11_trace_32
set_option maxRecDepth 100000 in
set_option maxHeartbeats 4000000 in
theorem t_X11_trace_0 {X : Cx} {ad Q : Nat → Nat} {kv : Value} {RD : Nat → Nat × Int32 × Int32 × Int32} (hro : ∀ z ∈ roL Q RD, z ∈ X.ro) (hRk : ∀ k, k < 6 → isRk (RD k).1) {PostX : Option Value → va_W → Prop} (hX : Ok X cX11_trace 2 RX11) (hq : Rq X 1 0 0 (some .int) PostX) {u : (Int32 × MS)} (hp : PostX (some (.int u.1)) (xW X.E ad Q kv u.2)) (a1 : Int32) (S : MS) (hf : f_X11_trace RD a1 S = some u) : G X 2 0 0 0 [(0, .ref (ad 10)), (1, .int a1)] [] (xW X.E ad Q kv S) := by
  unfold f_X11_trace at hf
  refine g_iloadn hX 1 rfl rfl dX11_trace_0 ?_
  refine g_if_lt hX 15 (by decide) dX11_trace_1 (fun c1 => ?_) (fun c1 => ?_)
  · have hf := ite_t c1 hf
    refine g_lv [0] rfl ?_
    exact t_X11_trace_15 hro hRk hX hq hp _ hf
  · have hf := ite_f c1 hf
    refine g_iloadn hX 1 rfl rfl dX11_trace_4 ?_
    refine g_aloadn hX 0 rfl rfl dX11_trace_5 ?_
    refine xg_trace hX dX11_trace_6 ?_
    refine xg_tlen hX (v := S.2 41) rfl dX11_trace_9 ?_
    refine g_icmp_lt hX 23 (by decide) dX11_trace_12 (fun c5 => ?_) (fun c5 => ?_)
    · have hf := ite_t c5 hf
      refine g_aloadn hX 0 rfl rfl dX11_trace_23 ?_
      refine xg_trace hX dX11_trace_24 ?_
      refine xg_bodies hX dX11_trace_27 ?_
      refine g_iloadn hX 1 rfl rfl dX11_trace_30 ?_
      obtain ⟨k6, jk6, ik6, hf⟩ := gix_open hf
      refine xl_bodies hX ik6 k6 jk6 dX11_trace_31 ?_
      obtain rfl := oi hf
      exact g_iret hX hq (by decide) (by decide) hp dX11_trace_32
    · have hf := ite_f c5 hf
      refine g_lv [0] rfl ?_
      exact t_X11_trace_15 hro hRk hX hq hp _ hf
theorem c_X11_trace {l : Launch} {E : En} {ad Q : Nat → Nat} {kv : Value} {RD : Nat → Nat × Int32 × Int32 × Int32} (hRk : ∀ k, k < 6 → isRk (RD k).1) {a1 : Int32} {r : Int32} {S S2 : MS} (hf : f_X11_trace RD a1 S = some (r, S2)) : CP l E yX11_trace cX11_trace 2 (some .int) 1 0 0 (roL Q RD) [.ref (ad 10), .int a1] (xW E ad Q kv S) (fun rv w => rv = some (.int r) ∧ w = xW E ad Q kv S2) :=
  CP.of (lv := [(0, .ref (ad 10)), (1, .int a1)]) (by decide +kernel) (Nat.le_of_ble_eq_true rfl) rfl (fun X hl hE hro hX hq hn => by subst hl; subst hE; exact t_X11_trace_0 (fun z hz => by rw [hro]; exact hz) hRk hX hq ⟨rfl, rfl⟩ a1 S hf)
def f_X11_sheet_29 (RD : Nat → Nat × Int32 × Int32 × Int32) (S : MS) : Option (Int32 × MS) :=
  cb (f_X11_error RD 1 S) fun r6 S4 =>
  some (r6, S4)
def f_X11_sheet_65 (RD : Nat → Nat × Int32 × Int32 × Int32) (x1 : Int32) (x2 : Int32) (x3 : Int32) (S : MS) : Option (Int32 × MS) :=
  gix x1 4 fun k10 =>
  gk k10 4 <|
  cb (f_X7_renew x2 x3 (hV k10 S)) fun _ S12 =>
  some (1, (hJ k10 S S12))
def f_X11_sheet_49 (RD : Nat → Nat × Int32 × Int32 × Int32) (x1 : Int32) (x2 : Int32) (x3 : Int32) (S : MS) : Option (Int32 × MS) :=
  if (x2 = 0 : Prop) then
    f_X11_sheet_65 RD x1 x2 x3 S
  else
    if (x3 ≤ 40 : Prop) then
      f_X11_sheet_65 RD x1 x2 x3 S
    else
      cb (f_X11_error RD 1 S) fun r18 S16 =>
      some (r18, S16)
def f_X11_sheet_35 (RD : Nat → Nat × Int32 × Int32 × Int32) (x1 : Int32) (x2 : Int32) (x3 : Int32) (S : MS) : Option (Int32 × MS) :=
  if (x2 = 0 : Prop) then
    f_X11_sheet_49 RD x1 x2 x3 S
  else
    if (0 ≤ x3 : Prop) then
      f_X11_sheet_49 RD x1 x2 x3 S
    else
      cb (f_X11_error RD 3 S) fun r22 S20 =>
      some (r22, S20)
def f_X11_sheet (RD : Nat → Nat × Int32 × Int32 × Int32) (a1 : Int32) (a2 : Int32) (a3 : Int32) (S : MS) : Option (Int32 × MS) :=
  cs (f_X11_isSheet a1) fun r1 =>
  if (r1 = 0 : Prop) then
    f_X11_sheet_29 RD S
  else
    if (a2 = 0 : Prop) then
      f_X11_sheet_35 RD a1 a2 a3 S
    else
      if (a2 = 8 : Prop) then
        f_X11_sheet_35 RD a1 a2 a3 S
      else
        if (a2 = 16 : Prop) then
          f_X11_sheet_35 RD a1 a2 a3 S
        else
          if (a2 = 32 : Prop) then
            f_X11_sheet_35 RD a1 a2 a3 S
          else
            f_X11_sheet_29 RD S
set_option maxRecDepth 100000 in
set_option maxHeartbeats 4000000 in
theorem t_X11_sheet_29 {X : Cx} {ad Q : Nat → Nat} {kv : Value} {RD : Nat → Nat × Int32 × Int32 × Int32} (hro : ∀ z ∈ roL Q RD, z ∈ X.ro) (hRk : ∀ k, k < 6 → isRk (RD k).1) {PostX : Option Value → va_W → Prop} (hX : Ok X cX11_sheet 4 RX11) (hq : Rq X 3 0 0 (some .int) PostX) {u : (Int32 × MS)} (hp : PostX (some (.int u.1)) (xW X.E ad Q kv u.2)) (S : MS) (hf : f_X11_sheet_29 RD S = some u) : G X 4 0 0 29 [(0, .ref (ad 10))] [] (xW X.E ad Q kv S) := by
  unfold f_X11_sheet_29 at hf
  refine g_aloadn hX 0 rfl rfl dX11_sheet_29 ?_
  refine g_iconst hX (v := 1) (by decide) dX11_sheet_30 ?_
  obtain ⟨r6, S4, h5, hf⟩ := cb_open hf
  refine k_X11_error hro hX hq (c_X11_error hRk h5) (by decide) (by decide) (by decide) (Nat.le_of_ble_eq_true rfl) dX11_sheet_31 ?_
  obtain rfl := oi hf
  exact g_iret hX hq (by decide) (by decide) hp dX11_sheet_34
set_option maxRecDepth 100000 in
set_option maxHeartbeats 4000000 in
theorem t_X11_sheet_65 {X : Cx} {ad Q : Nat → Nat} {kv : Value} {RD : Nat → Nat × Int32 × Int32 × Int32} (hro : ∀ z ∈ roL Q RD, z ∈ X.ro) (hRk : ∀ k, k < 6 → isRk (RD k).1) {PostX : Option Value → va_W → Prop} (hX : Ok X cX11_sheet 4 RX11) (hq : Rq X 3 0 0 (some .int) PostX) {u : (Int32 × MS)} (hp : PostX (some (.int u.1)) (xW X.E ad Q kv u.2)) (x1 : Int32) (x2 : Int32) (x3 : Int32) (S : MS) (hf : f_X11_sheet_65 RD x1 x2 x3 S = some u) : G X 4 0 0 65 [(0, .ref (ad 10)), (1, .int x1), (2, .int x2), (3, .int x3)] [] (xW X.E ad Q kv S) := by
  unfold f_X11_sheet_65 at hf
  refine g_aloadn hX 0 rfl rfl dX11_sheet_65 ?_
  refine xg_sheets hX dX11_sheet_66 ?_
  refine g_iloadn hX 1 rfl rfl dX11_sheet_69 ?_
  obtain ⟨k10, jk10, ik10, hf⟩ := gix_open hf
  refine xl_sheets hX ik10 k10 jk10 dX11_sheet_70 ?_
  refine g_iloadn hX 2 rfl rfl dX11_sheet_71 ?_
  refine g_iloadn hX 3 rfl rfl dX11_sheet_72 ?_
  obtain ⟨h11, hf⟩ := gk_open hf
  obtain ⟨z14, S12, h13, hf⟩ := cb_open hf
  refine kx_X7_renew h11 hX hq h13 (by decide) (by decide) (by decide) (Nat.le_of_ble_eq_true rfl) dX11_sheet_73 ?_
  refine g_iconst hX (v := 1) (by decide) dX11_sheet_76 ?_
  obtain rfl := oi hf
  exact g_iret hX hq (by decide) (by decide) hp dX11_sheet_77
set_option maxRecDepth 100000 in
set_option maxHeartbeats 4000000 in
theorem t_X11_sheet_49 {X : Cx} {ad Q : Nat → Nat} {kv : Value} {RD : Nat → Nat × Int32 × Int32 × Int32} (hro : ∀ z ∈ roL Q RD, z ∈ X.ro) (hRk : ∀ k, k < 6 → isRk (RD k).1) {PostX : Option Value → va_W → Prop} (hX : Ok X cX11_sheet 4 RX11) (hq : Rq X 3 0 0 (some .int) PostX) {u : (Int32 × MS)} (hp : PostX (some (.int u.1)) (xW X.E ad Q kv u.2)) (x1 : Int32) (x2 : Int32) (x3 : Int32) (S : MS) (hf : f_X11_sheet_49 RD x1 x2 x3 S = some u) : G X 4 0 0 49 [(0, .ref (ad 10)), (1, .int x1), (2, .int x2), (3, .int x3)] [] (xW X.E ad Q kv S) := by
  unfold f_X11_sheet_49 at hf
  refine g_iloadn hX 2 rfl rfl dX11_sheet_49 ?_
  refine g_if_eq hX 65 (by decide) dX11_sheet_50 (fun c9 => ?_) (fun c9 => ?_)
  · have hf := ite_t c9 hf
    exact t_X11_sheet_65 hro hRk hX hq hp _ _ _ _ hf
  · have hf := ite_f c9 hf
    refine g_iloadn hX 3 rfl rfl dX11_sheet_53 ?_
    refine g_bipush hX (v := 40) (by decide) dX11_sheet_54 ?_
    refine g_icmp_le hX 65 (by decide) dX11_sheet_56 (fun c15 => ?_) (fun c15 => ?_)
    · have hf := ite_t c15 hf
      exact t_X11_sheet_65 hro hRk hX hq hp _ _ _ _ hf
    · have hf := ite_f c15 hf
      refine g_aloadn hX 0 rfl rfl dX11_sheet_59 ?_
      refine g_iconst hX (v := 1) (by decide) dX11_sheet_60 ?_
      obtain ⟨r18, S16, h17, hf⟩ := cb_open hf
      refine k_X11_error hro hX hq (c_X11_error hRk h17) (by decide) (by decide) (by decide) (Nat.le_of_ble_eq_true rfl) dX11_sheet_61 ?_
      obtain rfl := oi hf
      exact g_iret hX hq (by decide) (by decide) hp dX11_sheet_64
set_option maxRecDepth 100000 in
set_option maxHeartbeats 4000000 in
theorem t_X11_sheet_35 {X : Cx} {ad Q : Nat → Nat} {kv : Value} {RD : Nat → Nat × Int32 × Int32 × Int32} (hro : ∀ z ∈ roL Q RD, z ∈ X.ro) (hRk : ∀ k, k < 6 → isRk (RD k).1) {PostX : Option Value → va_W → Prop} (hX : Ok X cX11_sheet 4 RX11) (hq : Rq X 3 0 0 (some .int) PostX) {u : (Int32 × MS)} (hp : PostX (some (.int u.1)) (xW X.E ad Q kv u.2)) (x1 : Int32) (x2 : Int32) (x3 : Int32) (S : MS) (hf : f_X11_sheet_35 RD x1 x2 x3 S = some u) : G X 4 0 0 35 [(0, .ref (ad 10)), (1, .int x1), (2, .int x2), (3, .int x3)] [] (xW X.E ad Q kv S) := by
  unfold f_X11_sheet_35 at hf
  refine g_iloadn hX 2 rfl rfl dX11_sheet_35 ?_
  refine g_if_eq hX 49 (by decide) dX11_sheet_36 (fun c8 => ?_) (fun c8 => ?_)
  · have hf := ite_t c8 hf
    exact t_X11_sheet_49 hro hRk hX hq hp _ _ _ _ hf
  · have hf := ite_f c8 hf
    refine g_iloadn hX 3 rfl rfl dX11_sheet_39 ?_
    refine g_if_ge hX 49 (by decide) dX11_sheet_40 (fun c19 => ?_) (fun c19 => ?_)
    · have hf := ite_t c19 hf
      exact t_X11_sheet_49 hro hRk hX hq hp _ _ _ _ hf
    · have hf := ite_f c19 hf
      refine g_aloadn hX 0 rfl rfl dX11_sheet_43 ?_
      refine g_iconst hX (v := 3) (by decide) dX11_sheet_44 ?_
      obtain ⟨r22, S20, h21, hf⟩ := cb_open hf
      refine k_X11_error hro hX hq (c_X11_error hRk h21) (by decide) (by decide) (by decide) (Nat.le_of_ble_eq_true rfl) dX11_sheet_45 ?_
      obtain rfl := oi hf
      exact g_iret hX hq (by decide) (by decide) hp dX11_sheet_48
set_option maxRecDepth 100000 in
set_option maxHeartbeats 4000000 in
theorem t_X11_sheet_0 {X : Cx} {ad Q : Nat → Nat} {kv : Value} {RD : Nat → Nat × Int32 × Int32 × Int32} (hro : ∀ z ∈ roL Q RD, z ∈ X.ro) (hRk : ∀ k, k < 6 → isRk (RD k).1) {PostX : Option Value → va_W → Prop} (hX : Ok X cX11_sheet 4 RX11) (hq : Rq X 3 0 0 (some .int) PostX) {u : (Int32 × MS)} (hp : PostX (some (.int u.1)) (xW X.E ad Q kv u.2)) (a1 : Int32) (a2 : Int32) (a3 : Int32) (S : MS) (hf : f_X11_sheet RD a1 a2 a3 S = some u) : G X 4 0 0 0 [(0, .ref (ad 10)), (1, .int a1), (2, .int a2), (3, .int a3)] [] (xW X.E ad Q kv S) := by
  unfold f_X11_sheet at hf
  refine g_iloadn hX 1 rfl rfl dX11_sheet_0 ?_
  obtain ⟨r1, h2, hf⟩ := cs_open hf
  refine k_RX11_X11_isSheet hX hq h2 (by decide) (by decide) (by decide) (Nat.le_of_ble_eq_true rfl) dX11_sheet_1 ?_
  refine g_if_eq hX 29 (by decide) dX11_sheet_4 (fun c3 => ?_) (fun c3 => ?_)
  · have hf := ite_t c3 hf
    refine g_lv [0] rfl ?_
    exact t_X11_sheet_29 hro hRk hX hq hp _ hf
  · have hf := ite_f c3 hf
    refine g_iloadn hX 2 rfl rfl dX11_sheet_7 ?_
    refine g_if_eq hX 35 (by decide) dX11_sheet_8 (fun c7 => ?_) (fun c7 => ?_)
    · have hf := ite_t c7 hf
      exact t_X11_sheet_35 hro hRk hX hq hp _ _ _ _ hf
    · have hf := ite_f c7 hf
      refine g_iloadn hX 2 rfl rfl dX11_sheet_11 ?_
      refine g_bipush hX (v := 8) (by decide) dX11_sheet_12 ?_
      refine g_icmp_eq hX 35 (by decide) dX11_sheet_14 (fun c23 => ?_) (fun c23 => ?_)
      · have hf := ite_t c23 hf
        exact t_X11_sheet_35 hro hRk hX hq hp _ _ _ _ hf
      · have hf := ite_f c23 hf
        refine g_iloadn hX 2 rfl rfl dX11_sheet_17 ?_
        refine g_bipush hX (v := 16) (by decide) dX11_sheet_18 ?_
        refine g_icmp_eq hX 35 (by decide) dX11_sheet_20 (fun c24 => ?_) (fun c24 => ?_)
        · have hf := ite_t c24 hf
          exact t_X11_sheet_35 hro hRk hX hq hp _ _ _ _ hf
        · have hf := ite_f c24 hf
          refine g_iloadn hX 2 rfl rfl dX11_sheet_23 ?_
          refine g_bipush hX (v := 32) (by decide) dX11_sheet_24 ?_
          refine g_icmp_eq hX 35 (by decide) dX11_sheet_26 (fun c25 => ?_) (fun c25 => ?_)
          · have hf := ite_t c25 hf
            exact t_X11_sheet_35 hro hRk hX hq hp _ _ _ _ hf
          · have hf := ite_f c25 hf
            refine g_lv [0] rfl ?_
            exact t_X11_sheet_29 hro hRk hX hq hp _ hf
theorem c_X11_sheet {l : Launch} {E : En} {ad Q : Nat → Nat} {kv : Value} {RD : Nat → Nat × Int32 × Int32 × Int32} (hRk : ∀ k, k < 6 → isRk (RD k).1) {a1 : Int32} {a2 : Int32} {a3 : Int32} {r : Int32} {S S2 : MS} (hf : f_X11_sheet RD a1 a2 a3 S = some (r, S2)) : CP l E yX11_sheet cX11_sheet 4 (some .int) 3 0 0 (roL Q RD) [.ref (ad 10), .int a1, .int a2, .int a3] (xW E ad Q kv S) (fun rv w => rv = some (.int r) ∧ w = xW E ad Q kv S2) :=
  CP.of (lv := [(0, .ref (ad 10)), (1, .int a1), (2, .int a2), (3, .int a3)]) (by decide +kernel) (Nat.le_of_ble_eq_true rfl) rfl (fun X hl hE hro hX hq hn => by subst hl; subst hE; exact t_X11_sheet_0 (fun z hz => by rw [hro]; exact hz) hRk hX hq ⟨rfl, rfl⟩ a1 a2 a3 S hf)
def f_X11_put_48 (RD : Nat → Nat × Int32 × Int32 × Int32) (S : MS) : Option (Int32 × MS) :=
  cb (f_X11_error RD 1 S) fun r13 S11 =>
  some (r13, S11)
def f_X11_put (RD : Nat → Nat × Int32 × Int32 × Int32) (a1 : Int32) (a2 : Int32) (a3 : Int32) (S : MS) : Option (Int32 × MS) :=
  cs (f_X11_isSheet a1) fun r1 =>
  if (r1 = 0 : Prop) then
    cb (f_X11_error RD 1 S) fun r28 S26 =>
    some (r28, S26)
  else
    gix a1 4 fun k4 =>
    gk k4 4 <|
    cb (f_X7_isMissing (hV k4 S)) fun r8 S6 =>
    if (r8 = 0 : Prop) then
      if (a2 < 0 : Prop) then
        f_X11_put_48 RD (hJ k4 S S6)
      else
        gk k4 4 <|
        if (a2 < ((hJ k4 S S6).2 (46 + k4)) : Prop) then
          gk k4 4 <|
          gk k4 4 <|
          cb (f_X7_cut a3 (hV k4 (hJ k4 S S6))) fun r20 S18 =>
          gk k4 4 <|
          gix a2 40 fun k22 =>
          some (1, (sA (hJ k4 (hJ k4 S S6) S18) (10 + k4) k22 r20))
        else
          f_X11_put_48 RD (hJ k4 S S6)
    else
      cb (f_X11_error RD 2 (hJ k4 S S6)) fun r25 S23 =>
      some (r25, S23)
set_option maxRecDepth 100000 in
set_option maxHeartbeats 4000000 in
theorem t_X11_put_48 {X : Cx} {ad Q : Nat → Nat} {kv : Value} {RD : Nat → Nat × Int32 × Int32 × Int32} (hro : ∀ z ∈ roL Q RD, z ∈ X.ro) (hRk : ∀ k, k < 6 → isRk (RD k).1) {PostX : Option Value → va_W → Prop} (hX : Ok X cX11_put 5 RX11) (hq : Rq X 1 0 0 (some .int) PostX) {u : (Int32 × MS)} (hp : PostX (some (.int u.1)) (xW X.E ad Q kv u.2)) (S : MS) (hf : f_X11_put_48 RD S = some u) : G X 5 0 0 48 [(0, .ref (ad 10))] [] (xW X.E ad Q kv S) := by
  unfold f_X11_put_48 at hf
  refine g_aloadn hX 0 rfl rfl dX11_put_48 ?_
  refine g_iconst hX (v := 1) (by decide) dX11_put_49 ?_
  obtain ⟨r13, S11, h12, hf⟩ := cb_open hf
  refine k_X11_error hro hX hq (c_X11_error hRk h12) (by decide) (by decide) (by decide) (Nat.le_of_ble_eq_true rfl) dX11_put_50 ?_
  obtain rfl := oi hf
  exact g_iret hX hq (by decide) (by decide) hp dX11_put_53
set_option maxRecDepth 100000 in
set_option maxHeartbeats 4000000 in
theorem t_X11_put_0 {X : Cx} {ad Q : Nat → Nat} {kv : Value} {RD : Nat → Nat × Int32 × Int32 × Int32} (hro : ∀ z ∈ roL Q RD, z ∈ X.ro) (hRk : ∀ k, k < 6 → isRk (RD k).1) {PostX : Option Value → va_W → Prop} (hX : Ok X cX11_put 5 RX11) (hq : Rq X 1 0 0 (some .int) PostX) {u : (Int32 × MS)} (hp : PostX (some (.int u.1)) (xW X.E ad Q kv u.2)) (a1 : Int32) (a2 : Int32) (a3 : Int32) (S : MS) (hf : f_X11_put RD a1 a2 a3 S = some u) : G X 5 0 0 0 [(0, .ref (ad 10)), (1, .int a1), (2, .int a2), (3, .int a3)] [] (xW X.E ad Q kv S) := by
  unfold f_X11_put at hf
  refine g_iloadn hX 1 rfl rfl dX11_put_0 ?_
  obtain ⟨r1, h2, hf⟩ := cs_open hf
  refine k_RX11_X11_isSheet hX hq h2 (by decide) (by decide) (by decide) (Nat.le_of_ble_eq_true rfl) dX11_put_1 ?_
  refine g_if_ne hX 13 (by decide) dX11_put_4 (fun c3 => ?_) (fun c3 => ?_)
  · have hf := ite_f c3 hf
    refine g_aloadn hX 0 rfl rfl dX11_put_13 ?_
    refine xg_sheets hX dX11_put_14 ?_
    refine g_iloadn hX 1 rfl rfl dX11_put_17 ?_
    obtain ⟨k4, jk4, ik4, hf⟩ := gix_open hf
    refine xl_sheets hX ik4 k4 jk4 dX11_put_18 ?_
    refine g_astore hX [(4, .ref (ad (20 + k4))), (0, .ref (ad 10)), (1, .int a1), (2, .int a2), (3, .int a3)] (by decide) rfl dX11_put_19 ?_
    refine g_aload hX 0 rfl dX11_put_21 ?_
    obtain ⟨h5, hf⟩ := gk_open hf
    obtain ⟨r8, S6, h7, hf⟩ := cb_open hf
    refine kx_X7_isMissing h5 hX hq h7 (by decide) (by decide) (by decide) (Nat.le_of_ble_eq_true rfl) dX11_put_23 ?_
    refine g_if_eq hX 35 (by decide) dX11_put_26 (fun c9 => ?_) (fun c9 => ?_)
    · have hf := ite_t c9 hf
      refine g_iloadn hX 3 rfl rfl dX11_put_35 ?_
      refine g_if_lt hX 48 (by decide) dX11_put_36 (fun c10 => ?_) (fun c10 => ?_)
      · have hf := ite_t c10 hf
        refine g_lv [1] rfl ?_
        exact t_X11_put_48 hro hRk hX hq hp _ hf
      · have hf := ite_f c10 hf
        refine g_iloadn hX 3 rfl rfl dX11_put_39 ?_
        refine g_aload hX 0 rfl dX11_put_40 ?_
        obtain ⟨h14, hf⟩ := gk_open hf
        refine xg_slength hX h14 dX11_put_42 ?_
        refine g_icmp_lt hX 54 (by decide) dX11_put_45 (fun c15 => ?_) (fun c15 => ?_)
        · have hf := ite_t c15 hf
          refine g_aload hX 0 rfl dX11_put_54 ?_
          obtain ⟨h16, hf⟩ := gk_open hf
          refine xg_numbers hX h16 dX11_put_56 ?_
          refine g_iloadn hX 3 rfl rfl dX11_put_59 ?_
          refine g_aload hX 0 rfl dX11_put_60 ?_
          refine g_iloadn hX 4 rfl rfl dX11_put_62 ?_
          obtain ⟨h17, hf⟩ := gk_open hf
          obtain ⟨r20, S18, h19, hf⟩ := cb_open hf
          refine kx_X7_cut h17 hX hq h19 (by decide) (by decide) (by decide) (Nat.le_of_ble_eq_true rfl) dX11_put_63 ?_
          obtain ⟨h21, hf⟩ := gk_open hf
          obtain ⟨k22, jk22, ik22, hf⟩ := gix_open hf
          refine xs_nums hX h21 ik22 k22 jk22 dX11_put_66 ?_
          refine g_iconst hX (v := 1) (by decide) dX11_put_67 ?_
          obtain rfl := oi hf
          exact g_iret hX hq (by decide) (by decide) hp dX11_put_68
        · have hf := ite_f c15 hf
          refine g_lv [1] rfl ?_
          exact t_X11_put_48 hro hRk hX hq hp _ hf
    · have hf := ite_f c9 hf
      refine g_aloadn hX 1 rfl rfl dX11_put_29 ?_
      refine g_iconst hX (v := 2) (by decide) dX11_put_30 ?_
      obtain ⟨r25, S23, h24, hf⟩ := cb_open hf
      refine k_X11_error hro hX hq (c_X11_error hRk h24) (by decide) (by decide) (by decide) (Nat.le_of_ble_eq_true rfl) dX11_put_31 ?_
      obtain rfl := oi hf
      exact g_iret hX hq (by decide) (by decide) hp dX11_put_34
  · have hf := ite_t c3 hf
    refine g_aloadn hX 0 rfl rfl dX11_put_7 ?_
    refine g_iconst hX (v := 1) (by decide) dX11_put_8 ?_
    obtain ⟨r28, S26, h27, hf⟩ := cb_open hf
    refine k_X11_error hro hX hq (c_X11_error hRk h27) (by decide) (by decide) (by decide) (Nat.le_of_ble_eq_true rfl) dX11_put_9 ?_
    obtain rfl := oi hf
    exact g_iret hX hq (by decide) (by decide) hp dX11_put_12
theorem c_X11_put {l : Launch} {E : En} {ad Q : Nat → Nat} {kv : Value} {RD : Nat → Nat × Int32 × Int32 × Int32} (hRk : ∀ k, k < 6 → isRk (RD k).1) {a1 : Int32} {a2 : Int32} {a3 : Int32} {r : Int32} {S S2 : MS} (hf : f_X11_put RD a1 a2 a3 S = some (r, S2)) : CP l E yX11_put cX11_put 5 (some .int) 1 0 0 (roL Q RD) [.ref (ad 10), .int a1, .int a2, .int a3] (xW E ad Q kv S) (fun rv w => rv = some (.int r) ∧ w = xW E ad Q kv S2) :=
  CP.of (lv := [(0, .ref (ad 10)), (1, .int a1), (2, .int a2), (3, .int a3)]) (by decide +kernel) (Nat.le_of_ble_eq_true rfl) rfl (fun X hl hE hro hX hq hn => by subst hl; subst hE; exact t_X11_put_0 (fun z hz => by rw [hro]; exact hz) hRk hX hq ⟨rfl, rfl⟩ a1 a2 a3 S hf)
def f_X11_move_14 (RD : Nat → Nat × Int32 × Int32 × Int32) (S : MS) : Option (Int32 × MS) :=
  cb (f_X11_error RD 1 S) fun r6 S4 =>
  some (r6, S4)
def f_X11_move_52 (RD : Nat → Nat × Int32 × Int32 × Int32) (S : MS) : Option (Int32 × MS) :=
  cb (f_X11_error RD 2 S) fun r19 S17 =>
  some (r19, S17)
def f_X11_move_100 (RD : Nat → Nat × Int32 × Int32 × Int32) (S : MS) : Option (Int32 × MS) :=
  cb (f_X11_error RD 1 S) fun r35 S33 =>
  some (r35, S33)
def f_X11_move (RD : Nat → Nat × Int32 × Int32 × Int32) (a1 : Int32) (a2 : Int32) (a3 : Int32) (a4 : Int32) (a5 : Int32) (S : MS) : Option (Int32 × MS) :=
  cs (f_X11_isSheet a1) fun r1 =>
  if (r1 = 0 : Prop) then
    f_X11_move_14 RD S
  else
    cs (f_X11_isSheet a3) fun r7 =>
    if (r7 = 0 : Prop) then
      f_X11_move_14 RD S
    else
      gix a1 4 fun k10 =>
      gix a3 4 fun k11 =>
      gk k10 4 <|
      cb (f_X7_isMissing (hV k10 S)) fun r15 S13 =>
      if (r15 = 0 : Prop) then
        gk k11 4 <|
        cb (f_X7_isMissing (hV k11 (hJ k10 S S13))) fun r23 S21 =>
        if (r23 = 0 : Prop) then
          gk k10 4 <|
          gk k11 4 <|
          if (((hJ k11 (hJ k10 S S13) S21).2 (42 + k10)) = ((hJ k11 (hJ k10 S S13) S21).2 (42 + k11)) : Prop) then
            gk k10 4 <|
            cb (f_X7_holds a2 a5 (hV k10 (hJ k11 (hJ k10 S S13) S21))) fun r31 S29 =>
            if (r31 = 0 : Prop) then
              f_X11_move_100 RD (hJ k10 (hJ k11 (hJ k10 S S13) S21) S29)
            else
              gk k11 4 <|
              cb (f_X7_holds a4 a5 (hV k11 (hJ k10 (hJ k11 (hJ k10 S S13) S21) S29))) fun r39 S37 =>
              if (r39 = 0 : Prop) then
                f_X11_move_100 RD (hJ k11 (hJ k10 (hJ k11 (hJ k10 S S13) S21) S29) S37)
              else
                gk k10 4 <|
                gk k11 4 <|
                gk k10 4 <|
                gk k11 4 <|
                gcp a2 a4 a5 <|
                some (a5, (xCp (hJ k11 (hJ k10 (hJ k11 (hJ k10 S S13) S21) S29) S37) k10 k11 a2 a4 a5))
          else
            cb (f_X11_error RD 5 (hJ k11 (hJ k10 S S13) S21)) fun r48 S46 =>
            some (r48, S46)
        else
          f_X11_move_52 RD (hJ k11 (hJ k10 S S13) S21)
      else
        f_X11_move_52 RD (hJ k10 S S13)
set_option maxRecDepth 100000 in
set_option maxHeartbeats 4000000 in
theorem t_X11_move_14 {X : Cx} {ad Q : Nat → Nat} {kv : Value} {RD : Nat → Nat × Int32 × Int32 × Int32} (hro : ∀ z ∈ roL Q RD, z ∈ X.ro) (hRk : ∀ k, k < 6 → isRk (RD k).1) {PostX : Option Value → va_W → Prop} (hX : Ok X cX11_move 8 RX11) (hq : Rq X 1 0 0 (some .int) PostX) {u : (Int32 × MS)} (hp : PostX (some (.int u.1)) (xW X.E ad Q kv u.2)) (S : MS) (hf : f_X11_move_14 RD S = some u) : G X 8 0 0 14 [(0, .ref (ad 10))] [] (xW X.E ad Q kv S) := by
  unfold f_X11_move_14 at hf
  refine g_aloadn hX 0 rfl rfl dX11_move_14 ?_
  refine g_iconst hX (v := 1) (by decide) dX11_move_15 ?_
  obtain ⟨r6, S4, h5, hf⟩ := cb_open hf
  refine k_X11_error hro hX hq (c_X11_error hRk h5) (by decide) (by decide) (by decide) (Nat.le_of_ble_eq_true rfl) dX11_move_16 ?_
  obtain rfl := oi hf
  exact g_iret hX hq (by decide) (by decide) hp dX11_move_19
set_option maxRecDepth 100000 in
set_option maxHeartbeats 4000000 in
theorem t_X11_move_52 {X : Cx} {ad Q : Nat → Nat} {kv : Value} {RD : Nat → Nat × Int32 × Int32 × Int32} (hro : ∀ z ∈ roL Q RD, z ∈ X.ro) (hRk : ∀ k, k < 6 → isRk (RD k).1) {PostX : Option Value → va_W → Prop} (hX : Ok X cX11_move 8 RX11) (hq : Rq X 1 0 0 (some .int) PostX) {u : (Int32 × MS)} (hp : PostX (some (.int u.1)) (xW X.E ad Q kv u.2)) (S : MS) (hf : f_X11_move_52 RD S = some u) : G X 8 0 0 52 [(0, .ref (ad 10))] [] (xW X.E ad Q kv S) := by
  unfold f_X11_move_52 at hf
  refine g_aloadn hX 0 rfl rfl dX11_move_52 ?_
  refine g_iconst hX (v := 2) (by decide) dX11_move_53 ?_
  obtain ⟨r19, S17, h18, hf⟩ := cb_open hf
  refine k_X11_error hro hX hq (c_X11_error hRk h18) (by decide) (by decide) (by decide) (Nat.le_of_ble_eq_true rfl) dX11_move_54 ?_
  obtain rfl := oi hf
  exact g_iret hX hq (by decide) (by decide) hp dX11_move_57
set_option maxRecDepth 100000 in
set_option maxHeartbeats 4000000 in
theorem t_X11_move_100 {X : Cx} {ad Q : Nat → Nat} {kv : Value} {RD : Nat → Nat × Int32 × Int32 × Int32} (hro : ∀ z ∈ roL Q RD, z ∈ X.ro) (hRk : ∀ k, k < 6 → isRk (RD k).1) {PostX : Option Value → va_W → Prop} (hX : Ok X cX11_move 8 RX11) (hq : Rq X 1 0 0 (some .int) PostX) {u : (Int32 × MS)} (hp : PostX (some (.int u.1)) (xW X.E ad Q kv u.2)) (S : MS) (hf : f_X11_move_100 RD S = some u) : G X 8 0 0 100 [(0, .ref (ad 10))] [] (xW X.E ad Q kv S) := by
  unfold f_X11_move_100 at hf
  refine g_aloadn hX 0 rfl rfl dX11_move_100 ?_
  refine g_iconst hX (v := 1) (by decide) dX11_move_101 ?_
  obtain ⟨r35, S33, h34, hf⟩ := cb_open hf
  refine k_X11_error hro hX hq (c_X11_error hRk h34) (by decide) (by decide) (by decide) (Nat.le_of_ble_eq_true rfl) dX11_move_102 ?_
  obtain rfl := oi hf
  exact g_iret hX hq (by decide) (by decide) hp dX11_move_105
set_option maxRecDepth 100000 in
set_option maxHeartbeats 4000000 in
theorem t_X11_move_0 {X : Cx} {ad Q : Nat → Nat} {kv : Value} {RD : Nat → Nat × Int32 × Int32 × Int32} (hro : ∀ z ∈ roL Q RD, z ∈ X.ro) (hRk : ∀ k, k < 6 → isRk (RD k).1) {PostX : Option Value → va_W → Prop} (hX : Ok X cX11_move 8 RX11) (hq : Rq X 1 0 0 (some .int) PostX) {u : (Int32 × MS)} (hp : PostX (some (.int u.1)) (xW X.E ad Q kv u.2)) (a1 : Int32) (a2 : Int32) (a3 : Int32) (a4 : Int32) (a5 : Int32) (S : MS) (hf : f_X11_move RD a1 a2 a3 a4 a5 S = some u) : G X 8 0 0 0 [(0, .ref (ad 10)), (1, .int a1), (2, .int a2), (3, .int a3), (4, .int a4), (5, .int a5)] [] (xW X.E ad Q kv S) := by
  unfold f_X11_move at hf
  refine g_iloadn hX 1 rfl rfl dX11_move_0 ?_
  obtain ⟨r1, h2, hf⟩ := cs_open hf
  refine k_RX11_X11_isSheet hX hq h2 (by decide) (by decide) (by decide) (Nat.le_of_ble_eq_true rfl) dX11_move_1 ?_
  refine g_if_eq hX 14 (by decide) dX11_move_4 (fun c3 => ?_) (fun c3 => ?_)
  · have hf := ite_t c3 hf
    refine g_lv [0] rfl ?_
    exact t_X11_move_14 hro hRk hX hq hp _ hf
  · have hf := ite_f c3 hf
    refine g_iloadn hX 3 rfl rfl dX11_move_7 ?_
    obtain ⟨r7, h8, hf⟩ := cs_open hf
    refine k_RX11_X11_isSheet hX hq h8 (by decide) (by decide) (by decide) (Nat.le_of_ble_eq_true rfl) dX11_move_8 ?_
    refine g_if_ne hX 20 (by decide) dX11_move_11 (fun c9 => ?_) (fun c9 => ?_)
    · have hf := ite_f c9 hf
      refine g_aloadn hX 0 rfl rfl dX11_move_20 ?_
      refine xg_sheets hX dX11_move_21 ?_
      refine g_iloadn hX 1 rfl rfl dX11_move_24 ?_
      obtain ⟨k10, jk10, ik10, hf⟩ := gix_open hf
      refine xl_sheets hX ik10 k10 jk10 dX11_move_25 ?_
      refine g_astore hX [(6, .ref (ad (20 + k10))), (0, .ref (ad 10)), (1, .int a1), (2, .int a2), (3, .int a3), (4, .int a4), (5, .int a5)] (by decide) rfl dX11_move_26 ?_
      refine g_aloadn hX 1 rfl rfl dX11_move_28 ?_
      refine xg_sheets hX dX11_move_29 ?_
      refine g_iloadn hX 4 rfl rfl dX11_move_32 ?_
      obtain ⟨k11, jk11, ik11, hf⟩ := gix_open hf
      refine xl_sheets hX ik11 k11 jk11 dX11_move_33 ?_
      refine g_astore hX [(7, .ref (ad (20 + k11))), (6, .ref (ad (20 + k10))), (0, .ref (ad 10)), (1, .int a1), (2, .int a2), (3, .int a3), (4, .int a4), (5, .int a5)] (by decide) rfl dX11_move_34 ?_
      refine g_aload hX 1 rfl dX11_move_36 ?_
      obtain ⟨h12, hf⟩ := gk_open hf
      obtain ⟨r15, S13, h14, hf⟩ := cb_open hf
      refine kx_X7_isMissing h12 hX hq h14 (by decide) (by decide) (by decide) (Nat.le_of_ble_eq_true rfl) dX11_move_38 ?_
      refine g_if_ne hX 52 (by decide) dX11_move_41 (fun c16 => ?_) (fun c16 => ?_)
      · have hf := ite_f c16 hf
        refine g_lv [2] rfl ?_
        exact t_X11_move_52 hro hRk hX hq hp _ hf
      · have hf := ite_t c16 hf
        refine g_aload hX 0 rfl dX11_move_44 ?_
        obtain ⟨h20, hf⟩ := gk_open hf
        obtain ⟨r23, S21, h22, hf⟩ := cb_open hf
        refine kx_X7_isMissing h20 hX hq h22 (by decide) (by decide) (by decide) (Nat.le_of_ble_eq_true rfl) dX11_move_46 ?_
        refine g_if_eq hX 58 (by decide) dX11_move_49 (fun c24 => ?_) (fun c24 => ?_)
        · have hf := ite_t c24 hf
          refine g_aload hX 1 rfl dX11_move_58 ?_
          obtain ⟨h25, hf⟩ := gk_open hf
          refine xg_sbits hX h25 dX11_move_60 ?_
          refine g_aload hX 0 rfl dX11_move_63 ?_
          obtain ⟨h26, hf⟩ := gk_open hf
          refine xg_sbits hX h26 dX11_move_65 ?_
          refine g_icmp_eq hX 77 (by decide) dX11_move_68 (fun c27 => ?_) (fun c27 => ?_)
          · have hf := ite_t c27 hf
            refine g_aload hX 1 rfl dX11_move_77 ?_
            refine g_iloadn hX 4 rfl rfl dX11_move_79 ?_
            refine g_iload hX 7 rfl dX11_move_80 ?_
            obtain ⟨h28, hf⟩ := gk_open hf
            obtain ⟨r31, S29, h30, hf⟩ := cb_open hf
            refine kx_X7_holds h28 hX hq h30 (by decide) (by decide) (by decide) (Nat.le_of_ble_eq_true rfl) dX11_move_82 ?_
            refine g_if_eq hX 100 (by decide) dX11_move_85 (fun c32 => ?_) (fun c32 => ?_)
            · have hf := ite_t c32 hf
              refine g_lv [2] rfl ?_
              exact t_X11_move_100 hro hRk hX hq hp _ hf
            · have hf := ite_f c32 hf
              refine g_aload hX 0 rfl dX11_move_88 ?_
              refine g_iload hX 6 rfl dX11_move_90 ?_
              refine g_iload hX 7 rfl dX11_move_92 ?_
              obtain ⟨h36, hf⟩ := gk_open hf
              obtain ⟨r39, S37, h38, hf⟩ := cb_open hf
              refine kx_X7_holds h36 hX hq h38 (by decide) (by decide) (by decide) (Nat.le_of_ble_eq_true rfl) dX11_move_94 ?_
              refine g_if_ne hX 106 (by decide) dX11_move_97 (fun c40 => ?_) (fun c40 => ?_)
              · have hf := ite_f c40 hf
                refine g_aload hX 1 rfl dX11_move_106 ?_
                obtain ⟨h41, hf⟩ := gk_open hf
                refine xg_numbers hX h41 dX11_move_108 ?_
                refine g_iloadn hX 4 rfl rfl dX11_move_111 ?_
                refine g_aload hX 0 rfl dX11_move_112 ?_
                obtain ⟨h42, hf⟩ := gk_open hf
                refine xg_numbers hX h42 dX11_move_114 ?_
                refine g_iload hX 6 rfl dX11_move_117 ?_
                refine g_iload hX 7 rfl dX11_move_119 ?_
                obtain ⟨h43, hf⟩ := gk_open hf
                obtain ⟨h44, hf⟩ := gk_open hf
                obtain ⟨h45, hf⟩ := gcp_open hf
                refine kx_copy h43 h44 hX hq h45 (by decide) (Nat.le_of_ble_eq_true rfl) dX11_move_121 ?_
                refine g_iload hX 7 rfl dX11_move_124 ?_
                obtain rfl := oi hf
                exact g_iret hX hq (by decide) (by decide) hp dX11_move_126
              · have hf := ite_t c40 hf
                refine g_lv [2] rfl ?_
                exact t_X11_move_100 hro hRk hX hq hp _ hf
          · have hf := ite_f c27 hf
            refine g_aloadn hX 2 rfl rfl dX11_move_71 ?_
            refine g_iconst hX (v := 5) (by decide) dX11_move_72 ?_
            obtain ⟨r48, S46, h47, hf⟩ := cb_open hf
            refine k_X11_error hro hX hq (c_X11_error hRk h47) (by decide) (by decide) (by decide) (Nat.le_of_ble_eq_true rfl) dX11_move_73 ?_
            obtain rfl := oi hf
            exact g_iret hX hq (by decide) (by decide) hp dX11_move_76
        · have hf := ite_f c24 hf
          refine g_lv [2] rfl ?_
          exact t_X11_move_52 hro hRk hX hq hp _ hf
    · have hf := ite_t c9 hf
      refine g_lv [0] rfl ?_
      exact t_X11_move_14 hro hRk hX hq hp _ hf
theorem c_X11_move {l : Launch} {E : En} {ad Q : Nat → Nat} {kv : Value} {RD : Nat → Nat × Int32 × Int32 × Int32} (hRk : ∀ k, k < 6 → isRk (RD k).1) {a1 : Int32} {a2 : Int32} {a3 : Int32} {a4 : Int32} {a5 : Int32} {r : Int32} {S S2 : MS} (hf : f_X11_move RD a1 a2 a3 a4 a5 S = some (r, S2)) : CP l E yX11_move cX11_move 8 (some .int) 1 0 0 (roL Q RD) [.ref (ad 10), .int a1, .int a2, .int a3, .int a4, .int a5] (xW E ad Q kv S) (fun rv w => rv = some (.int r) ∧ w = xW E ad Q kv S2) :=
  CP.of (lv := [(0, .ref (ad 10)), (1, .int a1), (2, .int a2), (3, .int a3), (4, .int a4), (5, .int a5)]) (by decide +kernel) (Nat.le_of_ble_eq_true rfl) rfl (fun X hl hE hro hX hq hn => by subst hl; subst hE; exact t_X11_move_0 (fun z hz => by rw [hro]; exact hz) hRk hX hq ⟨rfl, rfl⟩ a1 a2 a3 a4 a5 S hf)
def f_X11_stories_35 (RD : Nat → Nat × Int32 × Int32 × Int32) : Nat → Nat → Int32 → MS → Option (Int32 × MS)
  | 0 => fun _ _ _ => none
  | n + 1 => fun p2 x3 S =>
    let lp35 := f_X11_stories_35 RD n
    gk p2 4 <|
    if ((S.2 (46 + p2)) ≤ x3 : Prop) then
      some (x3, S)
    else
      if ((S.2 6) ≤ x3 : Prop) then
        some (x3, S)
      else
        gk p2 4 <|
        gk p2 4 <|
        gix x3 40 fun k15 =>
        cs (f_X11_isStory (S.1 (10 + p2) k15)) fun r16 =>
        if (r16 = 0 : Prop) then
          some (x3, S)
        else
          gk p2 4 <|
          gk p2 4 <|
          gix x3 40 fun k21 =>
          cs (f_X11_sayingsOf (S.1 (10 + p2) k21)) fun r22 =>
          gix x3 6 fun k24 =>
          bI (x3 + 1) fun v25 =>
          lp35 p2 v25 (sA S 1 k24 r22)
def f_X11_stories (RD : Nat → Nat × Int32 × Int32 × Int32) (a1 : Int32) (S : MS) : Option (Int32 × MS) :=
  cs (f_X11_isSheet a1) fun r1 =>
  if (r1 = 0 : Prop) then
    cb (f_X11_error RD 1 S) fun r31 S29 =>
    some (r31, S29)
  else
    gix a1 4 fun k4 =>
    gk k4 4 <|
    cb (f_X7_isMissing (hV k4 S)) fun r8 S6 =>
    if (r8 = 0 : Prop) then
      f_X11_stories_35 RD 100 k4 0 (hJ k4 S S6)
    else
      cb (f_X11_error RD 2 (hJ k4 S S6)) fun r28 S26 =>
      some (r28, S26)
set_option maxRecDepth 100000 in
set_option maxHeartbeats 4000000 in
theorem t_X11_stories_35 {X : Cx} {ad Q : Nat → Nat} {kv : Value} {RD : Nat → Nat × Int32 × Int32 × Int32} (hro : ∀ z ∈ roL Q RD, z ∈ X.ro) (hRk : ∀ k, k < 6 → isRk (RD k).1) {PostX : Option Value → va_W → Prop} (hX : Ok X cX11_stories 4 RX11) (hq : Rq X 3 0 0 (some .int) PostX) {u : (Int32 × MS)} (hp : PostX (some (.int u.1)) (xW X.E ad Q kv u.2)) : ∀ (n : Nat) (p2 : Nat) (x3 : Int32) (S : MS), f_X11_stories_35 RD n p2 x3 S = some u → G X 4 0 0 35 [(0, .ref (ad 10)), (2, .ref (ad (20 + p2))), (3, .int x3)] [] (xW X.E ad Q kv S) := by
  intro n
  induction n with
  | zero => intro _ _ _ hf; unfold f_X11_stories_35 at hf; cases hf
  | succ n hlp35 =>
  intro p2 x3 S hf
  unfold f_X11_stories_35 at hf
  refine g_iloadn hX 2 rfl rfl dX11_stories_35 ?_
  refine g_aloadn hX 1 rfl rfl dX11_stories_36 ?_
  obtain ⟨h10, hf⟩ := gk_open hf
  refine xg_slength hX h10 dX11_stories_37 ?_
  refine g_icmp_ge hX 90 (by decide) dX11_stories_40 (fun c11 => ?_) (fun c11 => ?_)
  · have hf := ite_t c11 hf
    refine g_iloadn hX 2 rfl rfl dX11_stories_90 ?_
    obtain rfl := oi hf
    exact g_iret hX hq (by decide) (by decide) hp dX11_stories_91
  · have hf := ite_f c11 hf
    refine g_iloadn hX 2 rfl rfl dX11_stories_43 ?_
    refine g_aloadn hX 0 rfl rfl dX11_stories_44 ?_
    refine xg_lift hX dX11_stories_45 ?_
    refine xg_riderCount hX (v := S.2 6) rfl dX11_stories_48 ?_
    refine g_icmp_ge hX 90 (by decide) dX11_stories_51 (fun c12 => ?_) (fun c12 => ?_)
    · have hf := ite_t c12 hf
      refine g_iloadn hX 2 rfl rfl dX11_stories_90 ?_
      obtain rfl := oi hf
      exact g_iret hX hq (by decide) (by decide) hp dX11_stories_91
    · have hf := ite_f c12 hf
      refine g_aloadn hX 1 rfl rfl dX11_stories_54 ?_
      obtain ⟨h13, hf⟩ := gk_open hf
      refine xg_numbers hX h13 dX11_stories_55 ?_
      refine g_iloadn hX 2 rfl rfl dX11_stories_58 ?_
      obtain ⟨h14, hf⟩ := gk_open hf
      obtain ⟨k15, jk15, ik15, hf⟩ := gix_open hf
      refine xl_nums hX h14 ik15 k15 jk15 dX11_stories_59 ?_
      obtain ⟨r16, h17, hf⟩ := cs_open hf
      refine k_RX11_X11_isStory hX hq h17 (by decide) (by decide) (by decide) (Nat.le_of_ble_eq_true rfl) dX11_stories_60 ?_
      refine g_if_eq hX 90 (by decide) dX11_stories_63 (fun c18 => ?_) (fun c18 => ?_)
      · have hf := ite_t c18 hf
        refine g_iloadn hX 2 rfl rfl dX11_stories_90 ?_
        obtain rfl := oi hf
        exact g_iret hX hq (by decide) (by decide) hp dX11_stories_91
      · have hf := ite_f c18 hf
        refine g_aloadn hX 0 rfl rfl dX11_stories_66 ?_
        refine xg_lift hX dX11_stories_67 ?_
        refine xg_stories hX dX11_stories_70 ?_
        refine g_iloadn hX 2 rfl rfl dX11_stories_73 ?_
        refine g_aloadn hX 1 rfl rfl dX11_stories_74 ?_
        obtain ⟨h19, hf⟩ := gk_open hf
        refine xg_numbers hX h19 dX11_stories_75 ?_
        refine g_iloadn hX 2 rfl rfl dX11_stories_78 ?_
        obtain ⟨h20, hf⟩ := gk_open hf
        obtain ⟨k21, jk21, ik21, hf⟩ := gix_open hf
        refine xl_nums hX h20 ik21 k21 jk21 dX11_stories_79 ?_
        obtain ⟨r22, h23, hf⟩ := cs_open hf
        refine k_RX11_X11_sayingsOf hX hq h23 (by decide) (by decide) (by decide) (Nat.le_of_ble_eq_true rfl) dX11_stories_80 ?_
        obtain ⟨k24, jk24, ik24, hf⟩ := gix_open hf
        refine xs_stories hX ik24 k24 jk24 dX11_stories_83 ?_
        obtain ⟨v25, ev25, hf⟩ := bI_open hf
        refine g_iinc hX 2 (v := v25) [(3, .int v25), (0, .ref (ad 10)), (2, .ref (ad (20 + p2)))] rfl (by rw [ev25]; rfl) (by decide) rfl dX11_stories_84 ?_
        refine g_goto hX 35 (by decide) dX11_stories_87 ?_
        refine g_lv [1, 2, 0] rfl ?_
        exact hlp35 _ _ _ hf
set_option maxRecDepth 100000 in
set_option maxHeartbeats 4000000 in
theorem t_X11_stories_0 {X : Cx} {ad Q : Nat → Nat} {kv : Value} {RD : Nat → Nat × Int32 × Int32 × Int32} (hro : ∀ z ∈ roL Q RD, z ∈ X.ro) (hRk : ∀ k, k < 6 → isRk (RD k).1) {PostX : Option Value → va_W → Prop} (hX : Ok X cX11_stories 4 RX11) (hq : Rq X 3 0 0 (some .int) PostX) {u : (Int32 × MS)} (hp : PostX (some (.int u.1)) (xW X.E ad Q kv u.2)) (a1 : Int32) (S : MS) (hf : f_X11_stories RD a1 S = some u) : G X 4 0 0 0 [(0, .ref (ad 10)), (1, .int a1)] [] (xW X.E ad Q kv S) := by
  unfold f_X11_stories at hf
  refine g_iloadn hX 1 rfl rfl dX11_stories_0 ?_
  obtain ⟨r1, h2, hf⟩ := cs_open hf
  refine k_RX11_X11_isSheet hX hq h2 (by decide) (by decide) (by decide) (Nat.le_of_ble_eq_true rfl) dX11_stories_1 ?_
  refine g_if_ne hX 13 (by decide) dX11_stories_4 (fun c3 => ?_) (fun c3 => ?_)
  · have hf := ite_f c3 hf
    refine g_aloadn hX 0 rfl rfl dX11_stories_13 ?_
    refine xg_sheets hX dX11_stories_14 ?_
    refine g_iloadn hX 1 rfl rfl dX11_stories_17 ?_
    obtain ⟨k4, jk4, ik4, hf⟩ := gix_open hf
    refine xl_sheets hX ik4 k4 jk4 dX11_stories_18 ?_
    refine g_astoren hX [(2, .ref (ad (20 + k4))), (0, .ref (ad 10)), (1, .int a1)] rfl (by decide) rfl dX11_stories_19 ?_
    refine g_aloadn hX 0 rfl rfl dX11_stories_20 ?_
    obtain ⟨h5, hf⟩ := gk_open hf
    obtain ⟨r8, S6, h7, hf⟩ := cb_open hf
    refine kx_X7_isMissing h5 hX hq h7 (by decide) (by decide) (by decide) (Nat.le_of_ble_eq_true rfl) dX11_stories_21 ?_
    refine g_if_eq hX 33 (by decide) dX11_stories_24 (fun c9 => ?_) (fun c9 => ?_)
    · have hf := ite_t c9 hf
      refine g_iconst hX (v := 0) (by decide) dX11_stories_33 ?_
      refine g_istoren hX [(3, .int 0), (2, .ref (ad (20 + k4))), (0, .ref (ad 10)), (1, .int a1)] rfl (by decide) rfl dX11_stories_34 ?_
      refine g_lv [2, 1, 0] rfl ?_
      exact t_X11_stories_35 hro hRk hX hq hp _ _ _ _ hf
    · have hf := ite_f c9 hf
      refine g_aloadn hX 1 rfl rfl dX11_stories_27 ?_
      refine g_iconst hX (v := 2) (by decide) dX11_stories_28 ?_
      obtain ⟨r28, S26, h27, hf⟩ := cb_open hf
      refine k_X11_error hro hX hq (c_X11_error hRk h27) (by decide) (by decide) (by decide) (Nat.le_of_ble_eq_true rfl) dX11_stories_29 ?_
      obtain rfl := oi hf
      exact g_iret hX hq (by decide) (by decide) hp dX11_stories_32
  · have hf := ite_t c3 hf
    refine g_aloadn hX 0 rfl rfl dX11_stories_7 ?_
    refine g_iconst hX (v := 1) (by decide) dX11_stories_8 ?_
    obtain ⟨r31, S29, h30, hf⟩ := cb_open hf
    refine k_X11_error hro hX hq (c_X11_error hRk h30) (by decide) (by decide) (by decide) (Nat.le_of_ble_eq_true rfl) dX11_stories_9 ?_
    obtain rfl := oi hf
    exact g_iret hX hq (by decide) (by decide) hp dX11_stories_12
theorem c_X11_stories {l : Launch} {E : En} {ad Q : Nat → Nat} {kv : Value} {RD : Nat → Nat × Int32 × Int32 × Int32} (hRk : ∀ k, k < 6 → isRk (RD k).1) {a1 : Int32} {r : Int32} {S S2 : MS} (hf : f_X11_stories RD a1 S = some (r, S2)) : CP l E yX11_stories cX11_stories 4 (some .int) 3 0 0 (roL Q RD) [.ref (ad 10), .int a1] (xW E ad Q kv S) (fun rv w => rv = some (.int r) ∧ w = xW E ad Q kv S2) :=
  CP.of (lv := [(0, .ref (ad 10)), (1, .int a1)]) (by decide +kernel) (Nat.le_of_ble_eq_true rfl) rfl (fun X hl hE hro hX hq hn => by subst hl; subst hE; exact t_X11_stories_0 (fun z hz => by rw [hro]; exact hz) hRk hX hq ⟨rfl, rfl⟩ a1 S hf)
def f_X11_judge_93 (RD : Nat → Nat × Int32 × Int32 × Int32) (p2 : Nat) (x3 : Int32) (S : MS) : Option (Int32 × MS) :=
  gk p2 4 <|
  if (x3 = (S.2 (46 + p2)) : Prop) then
    if (x3 = (S.2 6) : Prop) then
      some ((-1), S)
    else
      some (x3, S)
  else
    some (x3, S)
def f_X11_judge_35 (RD : Nat → Nat × Int32 × Int32 × Int32) : Nat → Nat → Int32 → MS → Option (Int32 × MS)
  | 0 => fun _ _ _ => none
  | n + 1 => fun p2 x3 S =>
    let lp35 := f_X11_judge_35 RD n
    gk p2 4 <|
    if ((S.2 (46 + p2)) ≤ x3 : Prop) then
      f_X11_judge_93 RD p2 x3 S
    else
      if ((S.2 6) ≤ x3 : Prop) then
        f_X11_judge_93 RD p2 x3 S
      else
        gk p2 4 <|
        gk p2 4 <|
        gix x3 40 fun k18 =>
        gix x3 6 fun k19 =>
        cb (f_X4_floor RD x3 (S.1 1 k19) (S.2 0) S) fun r22 S20 =>
        if ((S.1 (10 + p2) k18) = r22 : Prop) then
          bI (x3 + 1) fun v24 =>
          lp35 p2 v24 (sL S S20)
        else
          f_X11_judge_93 RD p2 x3 (sL S S20)
def f_X11_judge (RD : Nat → Nat × Int32 × Int32 × Int32) (a1 : Int32) (S : MS) : Option (Int32 × MS) :=
  cs (f_X11_isSheet a1) fun r1 =>
  if (r1 = 0 : Prop) then
    cb (f_X11_error RD 1 S) fun r30 S28 =>
    some (r30, S28)
  else
    gix a1 4 fun k4 =>
    gk k4 4 <|
    cb (f_X7_isMissing (hV k4 S)) fun r8 S6 =>
    if (r8 = 0 : Prop) then
      f_X11_judge_35 RD 100 k4 0 (hJ k4 S S6)
    else
      cb (f_X11_error RD 2 (hJ k4 S S6)) fun r27 S25 =>
      some (r27, S25)
set_option maxRecDepth 100000 in
set_option maxHeartbeats 4000000 in
theorem t_X11_judge_93 {X : Cx} {ad Q : Nat → Nat} {kv : Value} {RD : Nat → Nat × Int32 × Int32 × Int32} (hro : ∀ z ∈ roL Q RD, z ∈ X.ro) (hRk : ∀ k, k < 6 → isRk (RD k).1) {PostX : Option Value → va_W → Prop} (hX : Ok X cX11_judge 4 RX11) (hq : Rq X 6 0 0 (some .int) PostX) {u : (Int32 × MS)} (hp : PostX (some (.int u.1)) (xW X.E ad Q kv u.2)) (p2 : Nat) (x3 : Int32) (S : MS) (hf : f_X11_judge_93 RD p2 x3 S = some u) : G X 4 0 0 93 [(0, .ref (ad 10)), (2, .ref (ad (20 + p2))), (3, .int x3)] [] (xW X.E ad Q kv S) := by
  unfold f_X11_judge_93 at hf
  refine g_iloadn hX 2 rfl rfl dX11_judge_93 ?_
  refine g_aloadn hX 1 rfl rfl dX11_judge_94 ?_
  obtain ⟨h12, hf⟩ := gk_open hf
  refine xg_slength hX h12 dX11_judge_95 ?_
  refine g_icmp_ne hX 116 (by decide) dX11_judge_98 (fun c13 => ?_) (fun c13 => ?_)
  · have hf := ite_f c13 hf
    refine g_iloadn hX 2 rfl rfl dX11_judge_116 ?_
    obtain rfl := oi hf
    exact g_iret hX hq (by decide) (by decide) hp dX11_judge_117
  · have hf := ite_t c13 hf
    refine g_iloadn hX 2 rfl rfl dX11_judge_101 ?_
    refine g_aloadn hX 0 rfl rfl dX11_judge_102 ?_
    refine xg_lift hX dX11_judge_103 ?_
    refine xg_riderCount hX (v := S.2 6) rfl dX11_judge_106 ?_
    refine g_icmp_ne hX 116 (by decide) dX11_judge_109 (fun c14 => ?_) (fun c14 => ?_)
    · have hf := ite_f c14 hf
      refine g_iloadn hX 2 rfl rfl dX11_judge_116 ?_
      obtain rfl := oi hf
      exact g_iret hX hq (by decide) (by decide) hp dX11_judge_117
    · have hf := ite_t c14 hf
      refine g_iconst hX (v := (-1)) (by decide) dX11_judge_112 ?_
      refine g_goto hX 117 (by decide) dX11_judge_113 ?_
      obtain rfl := oi hf
      exact g_iret hX hq (by decide) (by decide) hp dX11_judge_117
set_option maxRecDepth 100000 in
set_option maxHeartbeats 4000000 in
theorem t_X11_judge_35 {X : Cx} {ad Q : Nat → Nat} {kv : Value} {RD : Nat → Nat × Int32 × Int32 × Int32} (hro : ∀ z ∈ roL Q RD, z ∈ X.ro) (hRk : ∀ k, k < 6 → isRk (RD k).1) {PostX : Option Value → va_W → Prop} (hX : Ok X cX11_judge 4 RX11) (hq : Rq X 6 0 0 (some .int) PostX) {u : (Int32 × MS)} (hp : PostX (some (.int u.1)) (xW X.E ad Q kv u.2)) : ∀ (n : Nat) (p2 : Nat) (x3 : Int32) (S : MS), f_X11_judge_35 RD n p2 x3 S = some u → G X 4 0 0 35 [(0, .ref (ad 10)), (2, .ref (ad (20 + p2))), (3, .int x3)] [] (xW X.E ad Q kv S) := by
  intro n
  induction n with
  | zero => intro _ _ _ hf; unfold f_X11_judge_35 at hf; cases hf
  | succ n hlp35 =>
  intro p2 x3 S hf
  unfold f_X11_judge_35 at hf
  refine g_iloadn hX 2 rfl rfl dX11_judge_35 ?_
  refine g_aloadn hX 1 rfl rfl dX11_judge_36 ?_
  obtain ⟨h10, hf⟩ := gk_open hf
  refine xg_slength hX h10 dX11_judge_37 ?_
  refine g_icmp_ge hX 93 (by decide) dX11_judge_40 (fun c11 => ?_) (fun c11 => ?_)
  · have hf := ite_t c11 hf
    exact t_X11_judge_93 hro hRk hX hq hp _ _ _ hf
  · have hf := ite_f c11 hf
    refine g_iloadn hX 2 rfl rfl dX11_judge_43 ?_
    refine g_aloadn hX 0 rfl rfl dX11_judge_44 ?_
    refine xg_lift hX dX11_judge_45 ?_
    refine xg_riderCount hX (v := S.2 6) rfl dX11_judge_48 ?_
    refine g_icmp_ge hX 93 (by decide) dX11_judge_51 (fun c15 => ?_) (fun c15 => ?_)
    · have hf := ite_t c15 hf
      exact t_X11_judge_93 hro hRk hX hq hp _ _ _ hf
    · have hf := ite_f c15 hf
      refine g_aloadn hX 1 rfl rfl dX11_judge_54 ?_
      obtain ⟨h16, hf⟩ := gk_open hf
      refine xg_numbers hX h16 dX11_judge_55 ?_
      refine g_iloadn hX 2 rfl rfl dX11_judge_58 ?_
      obtain ⟨h17, hf⟩ := gk_open hf
      obtain ⟨k18, jk18, ik18, hf⟩ := gix_open hf
      refine xl_nums hX h17 ik18 k18 jk18 dX11_judge_59 ?_
      refine g_aloadn hX 0 rfl rfl dX11_judge_60 ?_
      refine xg_lift hX dX11_judge_61 ?_
      refine g_iloadn hX 2 rfl rfl dX11_judge_64 ?_
      refine g_aloadn hX 0 rfl rfl dX11_judge_65 ?_
      refine xg_lift hX dX11_judge_66 ?_
      refine xg_stories hX dX11_judge_69 ?_
      refine g_iloadn hX 2 rfl rfl dX11_judge_72 ?_
      obtain ⟨k19, jk19, ik19, hf⟩ := gix_open hf
      refine xl_stories hX ik19 k19 jk19 dX11_judge_73 ?_
      refine g_aloadn hX 0 rfl rfl dX11_judge_74 ?_
      refine xg_lift hX dX11_judge_75 ?_
      refine xg_heard hX (v := S.2 0) rfl dX11_judge_78 ?_
      obtain ⟨r22, S20, h21, hf⟩ := cb_open hf
      refine k4_X4_floor hro hX hq (c_X4_floor h21) (by decide) (by decide) (by decide) (Nat.le_of_ble_eq_true rfl) dX11_judge_81 ?_
      refine g_icmp_ne hX 93 (by decide) dX11_judge_84 (fun c23 => ?_) (fun c23 => ?_)
      · have hf := ite_f c23 hf
        exact t_X11_judge_93 hro hRk hX hq hp _ _ _ hf
      · have hf := ite_t c23 hf
        obtain ⟨v24, ev24, hf⟩ := bI_open hf
        refine g_iinc hX 2 (v := v24) [(3, .int v24), (0, .ref (ad 10)), (2, .ref (ad (20 + p2)))] rfl (by rw [ev24]; rfl) (by decide) rfl dX11_judge_87 ?_
        refine g_goto hX 35 (by decide) dX11_judge_90 ?_
        refine g_lv [1, 2, 0] rfl ?_
        exact hlp35 _ _ _ hf
set_option maxRecDepth 100000 in
set_option maxHeartbeats 4000000 in
theorem t_X11_judge_0 {X : Cx} {ad Q : Nat → Nat} {kv : Value} {RD : Nat → Nat × Int32 × Int32 × Int32} (hro : ∀ z ∈ roL Q RD, z ∈ X.ro) (hRk : ∀ k, k < 6 → isRk (RD k).1) {PostX : Option Value → va_W → Prop} (hX : Ok X cX11_judge 4 RX11) (hq : Rq X 6 0 0 (some .int) PostX) {u : (Int32 × MS)} (hp : PostX (some (.int u.1)) (xW X.E ad Q kv u.2)) (a1 : Int32) (S : MS) (hf : f_X11_judge RD a1 S = some u) : G X 4 0 0 0 [(0, .ref (ad 10)), (1, .int a1)] [] (xW X.E ad Q kv S) := by
  unfold f_X11_judge at hf
  refine g_iloadn hX 1 rfl rfl dX11_judge_0 ?_
  obtain ⟨r1, h2, hf⟩ := cs_open hf
  refine k_RX11_X11_isSheet hX hq h2 (by decide) (by decide) (by decide) (Nat.le_of_ble_eq_true rfl) dX11_judge_1 ?_
  refine g_if_ne hX 13 (by decide) dX11_judge_4 (fun c3 => ?_) (fun c3 => ?_)
  · have hf := ite_f c3 hf
    refine g_aloadn hX 0 rfl rfl dX11_judge_13 ?_
    refine xg_sheets hX dX11_judge_14 ?_
    refine g_iloadn hX 1 rfl rfl dX11_judge_17 ?_
    obtain ⟨k4, jk4, ik4, hf⟩ := gix_open hf
    refine xl_sheets hX ik4 k4 jk4 dX11_judge_18 ?_
    refine g_astoren hX [(2, .ref (ad (20 + k4))), (0, .ref (ad 10)), (1, .int a1)] rfl (by decide) rfl dX11_judge_19 ?_
    refine g_aloadn hX 0 rfl rfl dX11_judge_20 ?_
    obtain ⟨h5, hf⟩ := gk_open hf
    obtain ⟨r8, S6, h7, hf⟩ := cb_open hf
    refine kx_X7_isMissing h5 hX hq h7 (by decide) (by decide) (by decide) (Nat.le_of_ble_eq_true rfl) dX11_judge_21 ?_
    refine g_if_eq hX 33 (by decide) dX11_judge_24 (fun c9 => ?_) (fun c9 => ?_)
    · have hf := ite_t c9 hf
      refine g_iconst hX (v := 0) (by decide) dX11_judge_33 ?_
      refine g_istoren hX [(3, .int 0), (2, .ref (ad (20 + k4))), (0, .ref (ad 10)), (1, .int a1)] rfl (by decide) rfl dX11_judge_34 ?_
      refine g_lv [2, 1, 0] rfl ?_
      exact t_X11_judge_35 hro hRk hX hq hp _ _ _ _ hf
    · have hf := ite_f c9 hf
      refine g_aloadn hX 1 rfl rfl dX11_judge_27 ?_
      refine g_iconst hX (v := 2) (by decide) dX11_judge_28 ?_
      obtain ⟨r27, S25, h26, hf⟩ := cb_open hf
      refine k_X11_error hro hX hq (c_X11_error hRk h26) (by decide) (by decide) (by decide) (Nat.le_of_ble_eq_true rfl) dX11_judge_29 ?_
      obtain rfl := oi hf
      exact g_iret hX hq (by decide) (by decide) hp dX11_judge_32
  · have hf := ite_t c3 hf
    refine g_aloadn hX 0 rfl rfl dX11_judge_7 ?_
    refine g_iconst hX (v := 1) (by decide) dX11_judge_8 ?_
    obtain ⟨r30, S28, h29, hf⟩ := cb_open hf
    refine k_X11_error hro hX hq (c_X11_error hRk h29) (by decide) (by decide) (by decide) (Nat.le_of_ble_eq_true rfl) dX11_judge_9 ?_
    obtain rfl := oi hf
    exact g_iret hX hq (by decide) (by decide) hp dX11_judge_12
theorem c_X11_judge {l : Launch} {E : En} {ad Q : Nat → Nat} {kv : Value} {RD : Nat → Nat × Int32 × Int32 × Int32} (hRk : ∀ k, k < 6 → isRk (RD k).1) {a1 : Int32} {r : Int32} {S S2 : MS} (hf : f_X11_judge RD a1 S = some (r, S2)) : CP l E yX11_judge cX11_judge 4 (some .int) 6 0 0 (roL Q RD) [.ref (ad 10), .int a1] (xW E ad Q kv S) (fun rv w => rv = some (.int r) ∧ w = xW E ad Q kv S2) :=
  CP.of (lv := [(0, .ref (ad 10)), (1, .int a1)]) (by decide +kernel) (Nat.le_of_ble_eq_true rfl) rfl (fun X hl hE hro hX hq hn => by subst hl; subst hE; exact t_X11_judge_0 (fun z hz => by rw [hro]; exact hz) hRk hX hq ⟨rfl, rfl⟩ a1 S hf)
def f_X11_tell (RD : Nat → Nat × Int32 × Int32 × Int32) (a1 : Int32) (S : MS) : Option (Int32 × MS) :=
  if ((S.2 8) < 20 : Prop) then
    gix (S.2 8) 20 fun k2 =>
    bI ((S.2 8) + 1) fun v3 =>
    some (v3, (sF (sA S 3 k2 a1) 8 v3))
  else
    cb (f_X11_error RD 4 S) fun r6 S4 =>
    some (r6, S4)
set_option maxRecDepth 100000 in
set_option maxHeartbeats 4000000 in
theorem t_X11_tell_0 {X : Cx} {ad Q : Nat → Nat} {kv : Value} {RD : Nat → Nat × Int32 × Int32 × Int32} (hro : ∀ z ∈ roL Q RD, z ∈ X.ro) (hRk : ∀ k, k < 6 → isRk (RD k).1) {PostX : Option Value → va_W → Prop} (hX : Ok X cX11_tell 2 RX11) (hq : Rq X 1 0 0 (some .int) PostX) {u : (Int32 × MS)} (hp : PostX (some (.int u.1)) (xW X.E ad Q kv u.2)) (a1 : Int32) (S : MS) (hf : f_X11_tell RD a1 S = some u) : G X 2 0 0 0 [(0, .ref (ad 10)), (1, .int a1)] [] (xW X.E ad Q kv S) := by
  unfold f_X11_tell at hf
  refine g_aloadn hX 0 rfl rfl dX11_tell_0 ?_
  refine xg_lift hX dX11_tell_1 ?_
  refine xg_waitingCount hX (v := S.2 8) rfl dX11_tell_4 ?_
  refine g_bipush hX (v := 20) (by decide) dX11_tell_7 ?_
  refine g_icmp_lt hX 18 (by decide) dX11_tell_9 (fun c1 => ?_) (fun c1 => ?_)
  · have hf := ite_t c1 hf
    refine g_aloadn hX 0 rfl rfl dX11_tell_18 ?_
    refine xg_lift hX dX11_tell_19 ?_
    refine xg_waiting hX dX11_tell_22 ?_
    refine g_aloadn hX 0 rfl rfl dX11_tell_25 ?_
    refine xg_lift hX dX11_tell_26 ?_
    refine xg_waitingCount hX (v := S.2 8) rfl dX11_tell_29 ?_
    refine g_iloadn hX 1 rfl rfl dX11_tell_32 ?_
    obtain ⟨k2, jk2, ik2, hf⟩ := gix_open hf
    refine xs_waiting hX ik2 k2 jk2 dX11_tell_33 ?_
    refine g_aloadn hX 0 rfl rfl dX11_tell_34 ?_
    refine xg_lift hX dX11_tell_35 ?_
    refine g_dup hX rfl dX11_tell_38 ?_
    refine xg_waitingCount hX (v := S.2 8) rfl dX11_tell_39 ?_
    refine g_iconst hX (v := 1) (by decide) dX11_tell_42 ?_
    refine g_iadd hX dX11_tell_43 ?_
    obtain ⟨v3, ev3, hf⟩ := bI_open hf
    refine g_nm ev3 ?_
    refine xp_waitingCount hX dX11_tell_44 ?_
    refine g_aloadn hX 0 rfl rfl dX11_tell_47 ?_
    refine xg_lift hX dX11_tell_48 ?_
    refine xg_waitingCount hX (v := v3) rfl dX11_tell_51 ?_
    obtain rfl := oi hf
    exact g_iret hX hq (by decide) (by decide) hp dX11_tell_54
  · have hf := ite_f c1 hf
    refine g_aloadn hX 0 rfl rfl dX11_tell_12 ?_
    refine g_iconst hX (v := 4) (by decide) dX11_tell_13 ?_
    obtain ⟨r6, S4, h5, hf⟩ := cb_open hf
    refine k_X11_error hro hX hq (c_X11_error hRk h5) (by decide) (by decide) (by decide) (Nat.le_of_ble_eq_true rfl) dX11_tell_14 ?_
    obtain rfl := oi hf
    exact g_iret hX hq (by decide) (by decide) hp dX11_tell_17
theorem c_X11_tell {l : Launch} {E : En} {ad Q : Nat → Nat} {kv : Value} {RD : Nat → Nat × Int32 × Int32 × Int32} (hRk : ∀ k, k < 6 → isRk (RD k).1) {a1 : Int32} {r : Int32} {S S2 : MS} (hf : f_X11_tell RD a1 S = some (r, S2)) : CP l E yX11_tell cX11_tell 2 (some .int) 1 0 0 (roL Q RD) [.ref (ad 10), .int a1] (xW E ad Q kv S) (fun rv w => rv = some (.int r) ∧ w = xW E ad Q kv S2) :=
  CP.of (lv := [(0, .ref (ad 10)), (1, .int a1)]) (by decide +kernel) (Nat.le_of_ble_eq_true rfl) rfl (fun X hl hE hro hX hq hn => by subst hl; subst hE; exact t_X11_tell_0 (fun z hz => by rw [hro]; exact hz) hRk hX hq ⟨rfl, rfl⟩ a1 S hf)
def f_X11_check_26 (RD : Nat → Nat × Int32 × Int32 × Int32) : Nat → Int32 → Int32 → Int32 → MS → Option (Int32 × MS)
  | 0 => fun _ _ _ _ => none
  | n + 1 => fun x1 x2 x3 S =>
    let lp26 := f_X11_check_26 RD n
    if (x1 ≤ x3 : Prop) then
      some (0, S)
    else
      cb (f_X4_afterDay RD x2 S) fun r6 S4 =>
      gix x3 20 fun k7 =>
      cs (f_X11_numberOf r6) fun r8 =>
      if (((sL S S4).1 3 k7) = r8 : Prop) then
        bI (x3 + 1) fun v11 =>
        lp26 x1 r6 v11 (sL S S4)
      else
        some ((1 + x3), (sL S S4))
def f_X11_check (RD : Nat → Nat × Int32 × Int32 × Int32) (S : MS) : Option (Int32 × MS) :=
  bI (S.2 8) fun v1 =>
  bI (S.2 0) fun v2 =>
  f_X11_check_26 RD 100 v1 v2 0 (sF S 8 0)
set_option maxRecDepth 100000 in
set_option maxHeartbeats 4000000 in
theorem t_X11_check_26 {X : Cx} {ad Q : Nat → Nat} {kv : Value} {RD : Nat → Nat × Int32 × Int32 × Int32} (hro : ∀ z ∈ roL Q RD, z ∈ X.ro) (hRk : ∀ k, k < 6 → isRk (RD k).1) {PostX : Option Value → va_W → Prop} (hX : Ok X cX11_check 4 RX11) (hq : Rq X 8 0 0 (some .int) PostX) {u : (Int32 × MS)} (hp : PostX (some (.int u.1)) (xW X.E ad Q kv u.2)) : ∀ (n : Nat) (x1 : Int32) (x2 : Int32) (x3 : Int32) (S : MS), f_X11_check_26 RD n x1 x2 x3 S = some u → G X 4 0 0 26 [(0, .ref (ad 10)), (1, .int x1), (2, .int x2), (3, .int x3)] [] (xW X.E ad Q kv S) := by
  intro n
  induction n with
  | zero => intro _ _ _ _ hf; unfold f_X11_check_26 at hf; cases hf
  | succ n hlp26 =>
  intro x1 x2 x3 S hf
  unfold f_X11_check_26 at hf
  refine g_iloadn hX 3 rfl rfl dX11_check_26 ?_
  refine g_iloadn hX 1 rfl rfl dX11_check_27 ?_
  refine g_icmp_ge hX 66 (by decide) dX11_check_28 (fun c3 => ?_) (fun c3 => ?_)
  · have hf := ite_t c3 hf
    refine g_iconst hX (v := 0) (by decide) dX11_check_66 ?_
    obtain rfl := oi hf
    exact g_iret hX hq (by decide) (by decide) hp dX11_check_67
  · have hf := ite_f c3 hf
    refine g_aloadn hX 0 rfl rfl dX11_check_31 ?_
    refine xg_lift hX dX11_check_32 ?_
    refine g_iloadn hX 2 rfl rfl dX11_check_35 ?_
    obtain ⟨r6, S4, h5, hf⟩ := cb_open hf
    refine k4_X4_afterDay hro hX hq (c_X4_afterDay h5) (by decide) (by decide) (by decide) (Nat.le_of_ble_eq_true rfl) dX11_check_36 ?_
    refine g_istoren hX [(2, .int r6), (0, .ref (ad 10)), (1, .int x1), (3, .int x3)] rfl (by decide) rfl dX11_check_39 ?_
    refine g_aloadn hX 1 rfl rfl dX11_check_40 ?_
    refine xg_lift hX dX11_check_41 ?_
    refine xg_waiting hX dX11_check_44 ?_
    refine g_iloadn hX 3 rfl rfl dX11_check_47 ?_
    obtain ⟨k7, jk7, ik7, hf⟩ := gix_open hf
    refine xl_waiting hX ik7 k7 jk7 dX11_check_48 ?_
    refine g_iloadn hX 0 rfl rfl dX11_check_49 ?_
    obtain ⟨r8, h9, hf⟩ := cs_open hf
    refine k_RX11_X11_numberOf hX hq h9 (by decide) (by decide) (by decide) (Nat.le_of_ble_eq_true rfl) dX11_check_50 ?_
    refine g_icmp_eq hX 60 (by decide) dX11_check_53 (fun c10 => ?_) (fun c10 => ?_)
    · have hf := ite_t c10 hf
      obtain ⟨v11, ev11, hf⟩ := bI_open hf
      refine g_iinc hX 3 (v := v11) [(3, .int v11), (2, .int r6), (0, .ref (ad 10)), (1, .int x1)] rfl (by rw [ev11]; rfl) (by decide) rfl dX11_check_60 ?_
      refine g_goto hX 26 (by decide) dX11_check_63 ?_
      refine g_lv [2, 3, 1, 0] rfl ?_
      exact hlp26 _ _ _ _ hf
    · have hf := ite_f c10 hf
      refine g_iconst hX (v := 1) (by decide) dX11_check_56 ?_
      refine g_iloadn hX 3 rfl rfl dX11_check_57 ?_
      refine g_iadd hX dX11_check_58 ?_
      obtain rfl := oi hf
      exact g_iret hX hq (by decide) (by decide) hp dX11_check_59
set_option maxRecDepth 100000 in
set_option maxHeartbeats 4000000 in
theorem t_X11_check_0 {X : Cx} {ad Q : Nat → Nat} {kv : Value} {RD : Nat → Nat × Int32 × Int32 × Int32} (hro : ∀ z ∈ roL Q RD, z ∈ X.ro) (hRk : ∀ k, k < 6 → isRk (RD k).1) {PostX : Option Value → va_W → Prop} (hX : Ok X cX11_check 4 RX11) (hq : Rq X 8 0 0 (some .int) PostX) {u : (Int32 × MS)} (hp : PostX (some (.int u.1)) (xW X.E ad Q kv u.2)) (S : MS) (hf : f_X11_check RD S = some u) : G X 4 0 0 0 [(0, .ref (ad 10))] [] (xW X.E ad Q kv S) := by
  unfold f_X11_check at hf
  refine g_aloadn hX 0 rfl rfl dX11_check_0 ?_
  refine xg_lift hX dX11_check_1 ?_
  refine xg_waitingCount hX (v := S.2 8) rfl dX11_check_4 ?_
  obtain ⟨v1, ev1, hf⟩ := bI_open hf
  refine g_nm ev1 ?_
  refine g_istoren hX [(1, .int v1), (0, .ref (ad 10))] rfl (by decide) rfl dX11_check_7 ?_
  refine g_aloadn hX 1 rfl rfl dX11_check_8 ?_
  refine xg_lift hX dX11_check_9 ?_
  refine g_iconst hX (v := 0) (by decide) dX11_check_12 ?_
  refine xp_waitingCount hX dX11_check_13 ?_
  refine g_aloadn hX 1 rfl rfl dX11_check_16 ?_
  refine xg_lift hX dX11_check_17 ?_
  refine xg_heard hX (v := S.2 0) rfl dX11_check_20 ?_
  obtain ⟨v2, ev2, hf⟩ := bI_open hf
  refine g_nm ev2 ?_
  refine g_istoren hX [(2, .int v2), (1, .int v1), (0, .ref (ad 10))] rfl (by decide) rfl dX11_check_23 ?_
  refine g_iconst hX (v := 0) (by decide) dX11_check_24 ?_
  refine g_istoren hX [(3, .int 0), (2, .int v2), (1, .int v1), (0, .ref (ad 10))] rfl (by decide) rfl dX11_check_25 ?_
  refine g_lv [3, 2, 1, 0] rfl ?_
  exact t_X11_check_26 hro hRk hX hq hp _ _ _ _ _ hf
theorem c_X11_check {l : Launch} {E : En} {ad Q : Nat → Nat} {kv : Value} {RD : Nat → Nat × Int32 × Int32 × Int32} (hRk : ∀ k, k < 6 → isRk (RD k).1) {r : Int32} {S S2 : MS} (hf : f_X11_check RD S = some (r, S2)) : CP l E yX11_check cX11_check 4 (some .int) 8 0 0 (roL Q RD) [.ref (ad 10)] (xW E ad Q kv S) (fun rv w => rv = some (.int r) ∧ w = xW E ad Q kv S2) :=
  CP.of (lv := [(0, .ref (ad 10))]) (by decide +kernel) (Nat.le_of_ble_eq_true rfl) rfl (fun X hl hE hro hX hq hn => by subst hl; subst hE; exact t_X11_check_0 (fun z hz => by rw [hro]; exact hz) hRk hX hq ⟨rfl, rfl⟩ S hf)
def f_X11_count (RD : Nat → Nat × Int32 × Int32 × Int32) (a1 : Int32) (S : MS) : Option (Int32 × MS) :=
  if (a1 = 0 : Prop) then
    some ((S.2 6), S)
  else
  if (a1 = 1 : Prop) then
    some ((S.2 3), S)
  else
  if (a1 = 2 : Prop) then
    some ((S.2 4), S)
  else
  if (a1 = 3 : Prop) then
    cs (f_J6_bitCount_0f7a4 (S.2 0)) fun r5 =>
    some (r5, S)
  else
  if (a1 = 4 : Prop) then
    cs (f_X11_truth (S.2 1)) fun r8 =>
    cs (f_J6_bitCount_0f7a4 ((S.2 0) &&& r8)) fun r10 =>
    some (r10, S)
  else
  if (a1 = 5 : Prop) then
    some ((S.2 2), S)
  else
  if (a1 = 6 : Prop) then
    some ((S.2 1), S)
  else
  if (a1 = 7 : Prop) then
    some ((S.2 7), S)
  else
  if (a1 = 8 : Prop) then
    some ((S.2 8), S)
  else
  if (a1 = 9 : Prop) then
    some ((S.2 41), S)
  else
  if (a1 = 10 : Prop) then
    some ((S.2 5), S)
  else
  cb (f_X11_error RD 1 S) fun r20 S18 =>
  some (r20, S18)
set_option maxRecDepth 100000 in
set_option maxHeartbeats 4000000 in
theorem t_X11_count_0 {X : Cx} {ad Q : Nat → Nat} {kv : Value} {RD : Nat → Nat × Int32 × Int32 × Int32} (hro : ∀ z ∈ roL Q RD, z ∈ X.ro) (hRk : ∀ k, k < 6 → isRk (RD k).1) {PostX : Option Value → va_W → Prop} (hX : Ok X cX11_count 2 RX11) (hq : Rq X 1 0 0 (some .int) PostX) {u : (Int32 × MS)} (hp : PostX (some (.int u.1)) (xW X.E ad Q kv u.2)) (a1 : Int32) (S : MS) (hf : f_X11_count RD a1 S = some u) : G X 2 0 0 0 [(0, .ref (ad 10)), (1, .int a1)] [] (xW X.E ad Q kv S) := by
  unfold f_X11_count at hf
  refine g_iloadn hX 1 rfl rfl dX11_count_0 ?_
  by_cases c1 : a1 = 0
  · have hf := ite_t c1 hf
    refine g_tsin hX 60 c1 (by decide) (by rfl) (by decide) dX11_count_1 ?_
    refine g_aloadn hX 0 rfl rfl dX11_count_60 ?_
    refine xg_lift hX dX11_count_61 ?_
    refine xg_riderCount hX (v := S.2 6) rfl dX11_count_64 ?_
    obtain rfl := oi hf
    exact g_iret hX hq (by decide) (by decide) hp dX11_count_67
  have hf := ite_f c1 hf
  by_cases c2 : a1 = 1
  · have hf := ite_t c2 hf
    refine g_tsin hX 68 c2 (by decide) (by rfl) (by decide) dX11_count_1 ?_
    refine g_aloadn hX 0 rfl rfl dX11_count_68 ?_
    refine xg_lift hX dX11_count_69 ?_
    refine xg_day hX (v := S.2 3) rfl dX11_count_72 ?_
    obtain rfl := oi hf
    exact g_iret hX hq (by decide) (by decide) hp dX11_count_75
  have hf := ite_f c2 hf
  by_cases c3 : a1 = 2
  · have hf := ite_t c3 hf
    refine g_tsin hX 76 c3 (by decide) (by rfl) (by decide) dX11_count_1 ?_
    refine g_aloadn hX 0 rfl rfl dX11_count_76 ?_
    refine xg_lift hX dX11_count_77 ?_
    refine xg_rides hX (v := S.2 4) rfl dX11_count_80 ?_
    obtain rfl := oi hf
    exact g_iret hX hq (by decide) (by decide) hp dX11_count_83
  have hf := ite_f c3 hf
  by_cases c4 : a1 = 3
  · have hf := ite_t c4 hf
    refine g_tsin hX 84 c4 (by decide) (by rfl) (by decide) dX11_count_1 ?_
    refine g_aloadn hX 0 rfl rfl dX11_count_84 ?_
    refine xg_lift hX dX11_count_85 ?_
    refine xg_heard hX (v := S.2 0) rfl dX11_count_88 ?_
    obtain ⟨r5, h6, hf⟩ := cs_open hf
    refine k_RX11_J6_bitCount_0f7a4 hX hq h6 (by decide) (by decide) (by decide) (Nat.le_of_ble_eq_true rfl) dX11_count_91 ?_
    obtain rfl := oi hf
    exact g_iret hX hq (by decide) (by decide) hp dX11_count_94
  have hf := ite_f c4 hf
  by_cases c7 : a1 = 4
  · have hf := ite_t c7 hf
    refine g_tsin hX 95 c7 (by decide) (by rfl) (by decide) dX11_count_1 ?_
    refine g_aloadn hX 0 rfl rfl dX11_count_95 ?_
    refine xg_lift hX dX11_count_96 ?_
    refine xg_heard hX (v := S.2 0) rfl dX11_count_99 ?_
    refine g_aloadn hX 0 rfl rfl dX11_count_102 ?_
    refine xg_lift hX dX11_count_103 ?_
    refine xg_world hX (v := S.2 1) rfl dX11_count_106 ?_
    obtain ⟨r8, h9, hf⟩ := cs_open hf
    refine k_RX11_X11_truth hX hq h9 (by decide) (by decide) (by decide) (Nat.le_of_ble_eq_true rfl) dX11_count_109 ?_
    refine g_iand hX dX11_count_112 ?_
    obtain ⟨r10, h11, hf⟩ := cs_open hf
    refine k_RX11_J6_bitCount_0f7a4 hX hq h11 (by decide) (by decide) (by decide) (Nat.le_of_ble_eq_true rfl) dX11_count_113 ?_
    obtain rfl := oi hf
    exact g_iret hX hq (by decide) (by decide) hp dX11_count_116
  have hf := ite_f c7 hf
  by_cases c12 : a1 = 5
  · have hf := ite_t c12 hf
    refine g_tsin hX 117 c12 (by decide) (by rfl) (by decide) dX11_count_1 ?_
    refine g_aloadn hX 0 rfl rfl dX11_count_117 ?_
    refine xg_lift hX dX11_count_118 ?_
    refine xg_trust hX (v := S.2 2) rfl dX11_count_121 ?_
    obtain rfl := oi hf
    exact g_iret hX hq (by decide) (by decide) hp dX11_count_124
  have hf := ite_f c12 hf
  by_cases c13 : a1 = 6
  · have hf := ite_t c13 hf
    refine g_tsin hX 125 c13 (by decide) (by rfl) (by decide) dX11_count_1 ?_
    refine g_aloadn hX 0 rfl rfl dX11_count_125 ?_
    refine xg_lift hX dX11_count_126 ?_
    refine xg_world hX (v := S.2 1) rfl dX11_count_129 ?_
    obtain rfl := oi hf
    exact g_iret hX hq (by decide) (by decide) hp dX11_count_132
  have hf := ite_f c13 hf
  by_cases c14 : a1 = 7
  · have hf := ite_t c14 hf
    refine g_tsin hX 133 c14 (by decide) (by rfl) (by decide) dX11_count_1 ?_
    refine g_aloadn hX 0 rfl rfl dX11_count_133 ?_
    refine xg_lift hX dX11_count_134 ?_
    refine xg_tapeLength hX (v := S.2 7) rfl dX11_count_137 ?_
    obtain rfl := oi hf
    exact g_iret hX hq (by decide) (by decide) hp dX11_count_140
  have hf := ite_f c14 hf
  by_cases c15 : a1 = 8
  · have hf := ite_t c15 hf
    refine g_tsin hX 141 c15 (by decide) (by rfl) (by decide) dX11_count_1 ?_
    refine g_aloadn hX 0 rfl rfl dX11_count_141 ?_
    refine xg_lift hX dX11_count_142 ?_
    refine xg_waitingCount hX (v := S.2 8) rfl dX11_count_145 ?_
    obtain rfl := oi hf
    exact g_iret hX hq (by decide) (by decide) hp dX11_count_148
  have hf := ite_f c15 hf
  by_cases c16 : a1 = 9
  · have hf := ite_t c16 hf
    refine g_tsin hX 149 c16 (by decide) (by rfl) (by decide) dX11_count_1 ?_
    refine g_aloadn hX 0 rfl rfl dX11_count_149 ?_
    refine xg_trace hX dX11_count_150 ?_
    refine xg_tlen hX (v := S.2 41) rfl dX11_count_153 ?_
    obtain rfl := oi hf
    exact g_iret hX hq (by decide) (by decide) hp dX11_count_156
  have hf := ite_f c16 hf
  by_cases c17 : a1 = 10
  · have hf := ite_t c17 hf
    refine g_tsin hX 157 c17 (by decide) (by rfl) (by decide) dX11_count_1 ?_
    refine g_aloadn hX 0 rfl rfl dX11_count_157 ?_
    refine xg_lift hX dX11_count_158 ?_
    refine xg_z hX (v := S.2 5) rfl dX11_count_161 ?_
    obtain rfl := oi hf
    exact g_iret hX hq (by decide) (by decide) hp dX11_count_164
  have hf := ite_f c17 hf
  refine g_tsout hX 165 (tsw_out_0_10 c1 c2 c3 c4 c7 c12 c13 c14 c15 c16 c17) (by decide) dX11_count_1 ?_
  refine g_aloadn hX 0 rfl rfl dX11_count_165 ?_
  refine g_iconst hX (v := 1) (by decide) dX11_count_166 ?_
  obtain ⟨r20, S18, h19, hf⟩ := cb_open hf
  refine k_X11_error hro hX hq (c_X11_error hRk h19) (by decide) (by decide) (by decide) (Nat.le_of_ble_eq_true rfl) dX11_count_167 ?_
  obtain rfl := oi hf
  exact g_iret hX hq (by decide) (by decide) hp dX11_count_170
theorem c_X11_count {l : Launch} {E : En} {ad Q : Nat → Nat} {kv : Value} {RD : Nat → Nat × Int32 × Int32 × Int32} (hRk : ∀ k, k < 6 → isRk (RD k).1) {a1 : Int32} {r : Int32} {S S2 : MS} (hf : f_X11_count RD a1 S = some (r, S2)) : CP l E yX11_count cX11_count 2 (some .int) 1 0 0 (roL Q RD) [.ref (ad 10), .int a1] (xW E ad Q kv S) (fun rv w => rv = some (.int r) ∧ w = xW E ad Q kv S2) :=
  CP.of (lv := [(0, .ref (ad 10)), (1, .int a1)]) (by decide +kernel) (Nat.le_of_ble_eq_true rfl) rfl (fun X hl hE hro hX hq hn => by subst hl; subst hE; exact t_X11_count_0 (fun z hz => by rw [hro]; exact hz) hRk hX hq ⟨rfl, rfl⟩ a1 S hf)
def f_X11_told_10 (RD : Nat → Nat × Int32 × Int32 × Int32) (S : MS) : Option (Int32 × MS) :=
  cb (f_X11_error RD 1 S) fun r4 S2 =>
  some (r4, S2)
def f_X11_told (RD : Nat → Nat × Int32 × Int32 × Int32) (a1 : Int32) (S : MS) : Option (Int32 × MS) :=
  if (a1 < 1 : Prop) then
    f_X11_told_10 RD S
  else
    if (a1 ≤ 5 : Prop) then
      gix a1 6 fun k6 =>
      some ((S.1 7 k6), S)
    else
      f_X11_told_10 RD S
set_option maxRecDepth 100000 in
set_option maxHeartbeats 4000000 in
theorem t_X11_told_10 {X : Cx} {ad Q : Nat → Nat} {kv : Value} {RD : Nat → Nat × Int32 × Int32 × Int32} (hro : ∀ z ∈ roL Q RD, z ∈ X.ro) (hRk : ∀ k, k < 6 → isRk (RD k).1) {PostX : Option Value → va_W → Prop} (hX : Ok X cX11_told 2 RX11) (hq : Rq X 1 0 0 (some .int) PostX) {u : (Int32 × MS)} (hp : PostX (some (.int u.1)) (xW X.E ad Q kv u.2)) (S : MS) (hf : f_X11_told_10 RD S = some u) : G X 2 0 0 10 [(0, .ref (ad 10))] [] (xW X.E ad Q kv S) := by
  unfold f_X11_told_10 at hf
  refine g_aloadn hX 0 rfl rfl dX11_told_10 ?_
  refine g_iconst hX (v := 1) (by decide) dX11_told_11 ?_
  obtain ⟨r4, S2, h3, hf⟩ := cb_open hf
  refine k_X11_error hro hX hq (c_X11_error hRk h3) (by decide) (by decide) (by decide) (Nat.le_of_ble_eq_true rfl) dX11_told_12 ?_
  refine g_goto hX 24 (by decide) dX11_told_15 ?_
  obtain rfl := oi hf
  exact g_iret hX hq (by decide) (by decide) hp dX11_told_24
set_option maxRecDepth 100000 in
set_option maxHeartbeats 4000000 in
theorem t_X11_told_0 {X : Cx} {ad Q : Nat → Nat} {kv : Value} {RD : Nat → Nat × Int32 × Int32 × Int32} (hro : ∀ z ∈ roL Q RD, z ∈ X.ro) (hRk : ∀ k, k < 6 → isRk (RD k).1) {PostX : Option Value → va_W → Prop} (hX : Ok X cX11_told 2 RX11) (hq : Rq X 1 0 0 (some .int) PostX) {u : (Int32 × MS)} (hp : PostX (some (.int u.1)) (xW X.E ad Q kv u.2)) (a1 : Int32) (S : MS) (hf : f_X11_told RD a1 S = some u) : G X 2 0 0 0 [(0, .ref (ad 10)), (1, .int a1)] [] (xW X.E ad Q kv S) := by
  unfold f_X11_told at hf
  refine g_iloadn hX 1 rfl rfl dX11_told_0 ?_
  refine g_iconst hX (v := 1) (by decide) dX11_told_1 ?_
  refine g_icmp_lt hX 10 (by decide) dX11_told_2 (fun c1 => ?_) (fun c1 => ?_)
  · have hf := ite_t c1 hf
    refine g_lv [0] rfl ?_
    exact t_X11_told_10 hro hRk hX hq hp _ hf
  · have hf := ite_f c1 hf
    refine g_iloadn hX 1 rfl rfl dX11_told_5 ?_
    refine g_iconst hX (v := 5) (by decide) dX11_told_6 ?_
    refine g_icmp_le hX 18 (by decide) dX11_told_7 (fun c5 => ?_) (fun c5 => ?_)
    · have hf := ite_t c5 hf
      refine g_aloadn hX 0 rfl rfl dX11_told_18 ?_
      refine xg_errors hX dX11_told_19 ?_
      refine g_iloadn hX 1 rfl rfl dX11_told_22 ?_
      obtain ⟨k6, jk6, ik6, hf⟩ := gix_open hf
      refine xl_errors hX ik6 k6 jk6 dX11_told_23 ?_
      obtain rfl := oi hf
      exact g_iret hX hq (by decide) (by decide) hp dX11_told_24
    · have hf := ite_f c5 hf
      refine g_lv [0] rfl ?_
      exact t_X11_told_10 hro hRk hX hq hp _ hf
theorem c_X11_told {l : Launch} {E : En} {ad Q : Nat → Nat} {kv : Value} {RD : Nat → Nat × Int32 × Int32 × Int32} (hRk : ∀ k, k < 6 → isRk (RD k).1) {a1 : Int32} {r : Int32} {S S2 : MS} (hf : f_X11_told RD a1 S = some (r, S2)) : CP l E yX11_told cX11_told 2 (some .int) 1 0 0 (roL Q RD) [.ref (ad 10), .int a1] (xW E ad Q kv S) (fun rv w => rv = some (.int r) ∧ w = xW E ad Q kv S2) :=
  CP.of (lv := [(0, .ref (ad 10)), (1, .int a1)]) (by decide +kernel) (Nat.le_of_ble_eq_true rfl) rfl (fun X hl hE hro hX hq hn => by subst hl; subst hE; exact t_X11_told_0 (fun z hz => by rw [hro]; exact hz) hRk hX hq ⟨rfl, rfl⟩ a1 S hf)

def f_X9_begins (a1 : Int32) (S : MS) : Option (Int32 × MS) :=
  if (40 ≤ (S.2 0) : Prop) then
    some (0, S)
  else
    gix (S.2 0) 40 fun k2 =>
    bI ((S.2 0) + 1) fun v3 =>
    some (0, (sF (sA S 1 k2 a1) 0 v3))
set_option maxRecDepth 100000 in
set_option maxHeartbeats 4000000 in
theorem t_X9_begins_0 {X : Cx} {ad : Nat → Nat} {PostX : Option Value → va_W → Prop} (hX : Ok X cX9_begins 2 RX9) (hq : Rq X 0 0 0 none PostX) {u : (Int32 × MS)} (hp : PostX none (tW X.E ad u.2)) (a1 : Int32) (S : MS) (hf : f_X9_begins a1 S = some u) : G X 2 0 0 0 [(0, .ref (ad 0)), (1, .int a1)] [] (tW X.E ad S) := by
  unfold f_X9_begins at hf
  refine g_aloadn hX 0 rfl rfl dX9_begins_0 ?_
  refine tg_length hX (v := S.2 0) rfl dX9_begins_1 ?_
  refine g_bipush hX (v := 40) (by decide) dX9_begins_4 ?_
  refine g_icmp_ge hX 29 (by decide) dX9_begins_6 (fun c1 => ?_) (fun c1 => ?_)
  · have hf := ite_t c1 hf
    obtain rfl := oi hf
    exact g_vret hX hq (by decide) (by decide) hp dX9_begins_29
  · have hf := ite_f c1 hf
    refine g_aloadn hX 0 rfl rfl dX9_begins_9 ?_
    refine tg_bodies hX dX9_begins_10 ?_
    refine g_aloadn hX 0 rfl rfl dX9_begins_13 ?_
    refine tg_length hX (v := S.2 0) rfl dX9_begins_14 ?_
    refine g_iloadn hX 1 rfl rfl dX9_begins_17 ?_
    obtain ⟨k2, jk2, ik2, hf⟩ := gix_open hf
    refine ts_bodies hX ik2 k2 jk2 dX9_begins_18 ?_
    refine g_aloadn hX 0 rfl rfl dX9_begins_19 ?_
    refine g_dup hX rfl dX9_begins_20 ?_
    refine tg_length hX (v := S.2 0) rfl dX9_begins_21 ?_
    refine g_iconst hX (v := 1) (by decide) dX9_begins_24 ?_
    refine g_iadd hX dX9_begins_25 ?_
    obtain ⟨v3, ev3, hf⟩ := bI_open hf
    refine g_nm ev3 ?_
    refine tp_length hX dX9_begins_26 ?_
    obtain rfl := oi hf
    exact g_vret hX hq (by decide) (by decide) hp dX9_begins_29
theorem c_X9_begins {l : Launch} {E : En} {ad : Nat → Nat} {a1 r : Int32} {S S2 : MS} (hf : f_X9_begins a1 S = some (r, S2)) : CP l E yX9_begins cX9_begins 2 none 0 0 0 [] [.ref (ad 0), .int a1] (tW E ad S) (fun rv w => rv = none ∧ w = tW E ad S2) :=
  CP.of (lv := [(0, .ref (ad 0)), (1, .int a1)]) (by decide +kernel) (Nat.le_of_ble_eq_true rfl) rfl (fun X hl hE hro hX hq hn => by subst hl; subst hE; exact t_X9_begins_0 hX hq ⟨rfl, rfl⟩ a1 S hf)
theorem kw_RX0_X9_begins : KwV RX0 13 RX9 yX9_begins cX9_begins 2 none 1 := ⟨mem_wsV wd_4_57 wd_4_58 wd_4_59 wd_1_17 wd_4_60, rfl, ⟨by decide +kernel, by decide +kernel, by decide +kernel⟩, by decide⟩
theorem kw_RX1_X9_begins : KwV RX1 17 RX9 yX9_begins cX9_begins 2 none 1 := ⟨mem_wsV wd_4_113 wd_4_58 wd_4_59 wd_1_17 wd_4_60, rfl, ⟨by decide +kernel, by decide +kernel, by decide +kernel⟩, by decide⟩
theorem kw_RX3_X9_begins : KwV RX3 7 RX9 yX9_begins cX9_begins 2 none 1 := ⟨mem_wsV wd_4_78 wd_4_58 wd_4_59 wd_1_17 wd_4_60, rfl, ⟨by decide +kernel, by decide +kernel, by decide +kernel⟩, by decide⟩
theorem kw_RX5_X9_begins : KwV RX5 11 RX9 yX9_begins cX9_begins 2 none 1 := ⟨mem_wsV wd_4_90 wd_4_58 wd_4_59 wd_1_17 wd_4_60, rfl, ⟨by decide +kernel, by decide +kernel, by decide +kernel⟩, by decide⟩
theorem kw_RX6_X9_begins : KwV RX6 19 RX9 yX9_begins cX9_begins 2 none 1 := ⟨mem_wsV wd_4_68 wd_4_58 wd_4_59 wd_1_17 wd_4_60, rfl, ⟨by decide +kernel, by decide +kernel, by decide +kernel⟩, by decide⟩
theorem kw_RX8_X9_begins : KwV RX8 11 RX9 yX9_begins cX9_begins 2 none 1 := ⟨mem_wsV wd_4_99 wd_4_58 wd_4_59 wd_1_17 wd_4_60, rfl, ⟨by decide +kernel, by decide +kernel, by decide +kernel⟩, by decide⟩
theorem kw_RX10_X9_begins : KwV RX10 7 RX9 yX9_begins cX9_begins 2 none 1 := ⟨mem_wsV wd_4_103 wd_4_58 wd_4_59 wd_1_17 wd_4_60, rfl, ⟨by decide +kernel, by decide +kernel, by decide +kernel⟩, by decide⟩
def f_R0_X6_counted (fm fn : Int32) (a1 : Int32) : Option Int32 :=
  some a1
set_option maxRecDepth 100000 in
set_option maxHeartbeats 4000000 in
theorem t_R0_X6_counted_0 {X : Cx} {q : Nat} {fk fm fn : Int32} (hro : (q, .inr (0, [.int fk, .int fm, .int fn])) ∈ X.ro) {PostX : Option Value → va_W → Prop} (hX : Ok X cX6_counted 2 RX6) (hq : Rq X 0 0 0 (some .int) PostX) {u : Int32} (hp : PostX (some (.int u)) []) (a1 : Int32) (hf : f_R0_X6_counted fm fn a1 = some u) : G X 2 0 0 0 [(0, .ref q), (1, .int a1)] [] [] := by
  unfold f_R0_X6_counted at hf
  refine g_iloadn hX 1 rfl rfl dX6_counted_0 ?_
  obtain rfl := oi hf
  exact g_iret hX hq (by decide) (by decide) hp dX6_counted_1
theorem c_R0_X6_counted {l : Launch} {E : En} {q : Nat} {fk fm fn : Int32} {a1 r : Int32} (hf : f_R0_X6_counted fm fn a1 = some r) : CP l E yX6_counted cX6_counted 2 (some .int) 0 0 0 [(q, .inr (0, [.int fk, .int fm, .int fn]))] [.ref q, .int a1] [] (fun rv w => rv = some (.int r) ∧ w = []) :=
  CP.of (lv := [(0, .ref q), (1, .int a1)]) (by decide +kernel) (Nat.le_of_ble_eq_true rfl) rfl (fun X hl hE hro hX hq hn => t_R0_X6_counted_0 (fk := fk) (by rw [hro]; exact List.mem_singleton.mpr rfl) hX hq ⟨rfl, rfl⟩ a1 hf)
def f_R0_X6_credit (fm fn : Int32) (a1 : Int32) (a2 : Int32) (a3 : Int32) (a4 : Int32) : Option Int32 :=
  some a1
set_option maxRecDepth 100000 in
set_option maxHeartbeats 4000000 in
theorem t_R0_X6_credit_0 {X : Cx} {q : Nat} {fk fm fn : Int32} (hro : (q, .inr (0, [.int fk, .int fm, .int fn])) ∈ X.ro) {PostX : Option Value → va_W → Prop} (hX : Ok X cX6_credit 5 RX6) (hq : Rq X 0 0 0 (some .int) PostX) {u : Int32} (hp : PostX (some (.int u)) []) (a1 : Int32) (a2 : Int32) (a3 : Int32) (a4 : Int32) (hf : f_R0_X6_credit fm fn a1 a2 a3 a4 = some u) : G X 5 0 0 0 [(0, .ref q), (1, .int a1), (2, .int a2), (3, .int a3), (4, .int a4)] [] [] := by
  unfold f_R0_X6_credit at hf
  refine g_iloadn hX 1 rfl rfl dX6_credit_0 ?_
  obtain rfl := oi hf
  exact g_iret hX hq (by decide) (by decide) hp dX6_credit_1
theorem c_R0_X6_credit {l : Launch} {E : En} {q : Nat} {fk fm fn : Int32} {a1 a2 a3 a4 r : Int32} (hf : f_R0_X6_credit fm fn a1 a2 a3 a4 = some r) : CP l E yX6_credit cX6_credit 5 (some .int) 0 0 0 [(q, .inr (0, [.int fk, .int fm, .int fn]))] [.ref q, .int a1, .int a2, .int a3, .int a4] [] (fun rv w => rv = some (.int r) ∧ w = []) :=
  CP.of (lv := [(0, .ref q), (1, .int a1), (2, .int a2), (3, .int a3), (4, .int a4)]) (by decide +kernel) (Nat.le_of_ble_eq_true rfl) rfl (fun X hl hE hro hX hq hn => t_R0_X6_credit_0 (fk := fk) (by rw [hro]; exact List.mem_singleton.mpr rfl) hX hq ⟨rfl, rfl⟩ a1 a2 a3 a4 hf)
def f_R0_X0_credit (fm fn : Int32) (a1 : Int32) (a2 : Int32) (a3 : Int32) (a4 : Int32) : Option Int32 :=
  some (jmin 5 a1)
set_option maxRecDepth 100000 in
set_option maxHeartbeats 4000000 in
theorem t_R0_X0_credit_0 {X : Cx} {q : Nat} {fk fm fn : Int32} (hro : (q, .inr (0, [.int fk, .int fm, .int fn])) ∈ X.ro) {PostX : Option Value → va_W → Prop} (hX : Ok X cX0_credit 5 RX0) (hq : Rq X 1 0 0 (some .int) PostX) {u : Int32} (hp : PostX (some (.int u)) []) (a1 : Int32) (a2 : Int32) (a3 : Int32) (a4 : Int32) (hf : f_R0_X0_credit fm fn a1 a2 a3 a4 = some u) : G X 5 0 0 0 [(0, .ref q), (1, .int a1), (2, .int a2), (3, .int a3), (4, .int a4)] [] [] := by
  unfold f_R0_X0_credit at hf
  refine g_iconst hX (v := 5) (by decide) dX0_credit_0 ?_
  refine g_iloadn hX 1 rfl rfl dX0_credit_1 ?_
  refine g_jmin hX hq km_RX0_min (by decide) (by decide) (by decide) (Nat.le_of_ble_eq_true rfl) dX0_credit_2 ?_
  obtain rfl := oi hf
  exact g_iret hX hq (by decide) (by decide) hp dX0_credit_5
theorem c_R0_X0_credit {l : Launch} {E : En} {q : Nat} {fk fm fn : Int32} {a1 a2 a3 a4 r : Int32} (hf : f_R0_X0_credit fm fn a1 a2 a3 a4 = some r) : CP l E yX0_credit cX0_credit 5 (some .int) 1 0 0 [(q, .inr (0, [.int fk, .int fm, .int fn]))] [.ref q, .int a1, .int a2, .int a3, .int a4] [] (fun rv w => rv = some (.int r) ∧ w = []) :=
  CP.of (lv := [(0, .ref q), (1, .int a1), (2, .int a2), (3, .int a3), (4, .int a4)]) (by decide +kernel) (Nat.le_of_ble_eq_true rfl) rfl (fun X hl hE hro hX hq hn => t_R0_X0_credit_0 (fk := fk) (by rw [hro]; exact List.mem_singleton.mpr rfl) hX hq ⟨rfl, rfl⟩ a1 a2 a3 a4 hf)
def f_R0_X6_says (fm fn : Int32) (a2 : Int32) (S : MS) : Option (Int32 × MS) :=
  cb (f_X9_begins 10 S) fun _ S1 =>
  some ((a2 + fn), S1)
set_option maxRecDepth 100000 in
set_option maxHeartbeats 4000000 in
theorem t_R0_X6_says_0 {X : Cx} {ad : Nat → Nat} {q : Nat} {fk fm fn : Int32} (hro : (q, .inr (0, [.int fk, .int fm, .int fn])) ∈ X.ro) {PostX : Option Value → va_W → Prop} (hX : Ok X cX6_says 3 RX6) (hq : Rq X 1 0 0 (some .int) PostX) {u : (Int32 × MS)} (hp : PostX (some (.int u.1)) (tW X.E ad u.2)) (a2 : Int32) (S : MS) (hf : f_R0_X6_says fm fn a2 S = some u) : G X 3 0 0 0 [(0, .ref q), (1, .ref (ad 0)), (2, .int a2)] [] (tW X.E ad S) := by
  unfold f_R0_X6_says at hf
  refine g_aloadn hX 1 rfl rfl dX6_says_0 ?_
  refine g_bipush hX (v := 10) (by decide) dX6_says_1 ?_
  obtain ⟨z3, S1, h2, hf⟩ := cb_open hf
  refine g_eqW (app1 _) (g_callV (pre := []) (mid := _) (post := []) [.int 10] hX hq kw_RX6_X9_begins (c_X9_begins h2) (fun _ h => absurd h List.not_mem_nil) (by decide) (by decide) (by decide) rfl (Recv.of 0 9 rfl rfl) rfl (Nat.le_of_ble_eq_true rfl) dX6_says_3 (fun rv ws2 hp2 => ?_))
  obtain ⟨rfl, rfl⟩ := hp2
  refine g_eqW (app1 _).symm ?_
  refine g_iloadn hX 2 rfl rfl dX6_says_6 ?_
  refine g_aloadn hX 0 rfl rfl dX6_says_7 ?_
  refine g_getR (C := RX0) (T := TX0) (N := 3) hX inX0 hro rfl 2 (by decide) wd_1_151 (fun _ h => h) rfl dX6_says_8 ?_
  refine g_iadd hX dX6_says_11 ?_
  obtain rfl := oi hf
  exact g_iret hX hq (by decide) (by decide) hp dX6_says_12
theorem c_R0_X6_says {l : Launch} {E : En} {ad : Nat → Nat} {q : Nat} {fk fm fn : Int32} {a2 r : Int32} {S S2 : MS} (hf : f_R0_X6_says fm fn a2 S = some (r, S2)) : CP l E yX6_says cX6_says 3 (some .int) 1 0 0 [(q, .inr (0, [.int fk, .int fm, .int fn]))] [.ref q, .ref (ad 0), .int a2] (tW E ad S) (fun rv w => rv = some (.int r) ∧ w = tW E ad S2) :=
  CP.of (lv := [(0, .ref q), (1, .ref (ad 0)), (2, .int a2)]) (by decide +kernel) (Nat.le_of_ble_eq_true rfl) rfl (fun X hl hE hro hX hq hn => by subst hl; subst hE; exact t_R0_X6_says_0 (fk := fk) (by rw [hro]; exact List.mem_singleton.mpr rfl) hX hq ⟨rfl, rfl⟩ a2 S hf)
theorem kwr_RX0_19_special_0 : KwSU RX0 19 yX6_says cX6_says 3 (some .int) 2 := ⟨mem_wsSU wd_4_61 wd_4_53 wd_1_160 wd_4_51 wd_1_9 wd_4_67, ⟨by decide +kernel, by decide +kernel⟩, by decide⟩
def f_R0_X0_says (fm fn : Int32) (a2 : Int32) (S : MS) : Option (Int32 × MS) :=
  cb (f_X9_begins 20 S) fun _ S1 =>
  cb (f_R0_X6_says fm fn a2 S1) fun r4 S6 =>
  some ((r4 * 3), S6)
set_option maxRecDepth 100000 in
set_option maxHeartbeats 4000000 in
theorem t_R0_X0_says_0 {X : Cx} {ad : Nat → Nat} {q : Nat} {fk fm fn : Int32} (hro : (q, .inr (0, [.int fk, .int fm, .int fn])) ∈ X.ro) {PostX : Option Value → va_W → Prop} (hX : Ok X cX0_says 3 RX0) (hq : Rq X 2 0 0 (some .int) PostX) {u : (Int32 × MS)} (hp : PostX (some (.int u.1)) (tW X.E ad u.2)) (a2 : Int32) (S : MS) (hf : f_R0_X0_says fm fn a2 S = some u) : G X 3 0 0 0 [(0, .ref q), (1, .ref (ad 0)), (2, .int a2)] [] (tW X.E ad S) := by
  unfold f_R0_X0_says at hf
  refine g_aloadn hX 1 rfl rfl dX0_says_0 ?_
  refine g_bipush hX (v := 20) (by decide) dX0_says_1 ?_
  obtain ⟨z3, S1, h2, hf⟩ := cb_open hf
  refine g_eqW (app1 _) (g_callV (pre := []) (mid := _) (post := []) [.int 20] hX hq kw_RX0_X9_begins (c_X9_begins h2) (fun _ h => absurd h List.not_mem_nil) (by decide) (by decide) (by decide) rfl (Recv.of 0 9 rfl rfl) rfl (Nat.le_of_ble_eq_true rfl) dX0_says_3 (fun rv ws2 hp2 => ?_))
  obtain ⟨rfl, rfl⟩ := hp2
  refine g_eqW (app1 _).symm ?_
  refine g_aloadn hX 0 rfl rfl dX0_says_6 ?_
  refine g_aloadn hX 1 rfl rfl dX0_says_7 ?_
  refine g_iloadn hX 2 rfl rfl dX0_says_8 ?_
  obtain ⟨r4, S6, h5, hf⟩ := cb_open hf
  refine g_eqW (app1 _) (g_callSU (pre := []) (mid := _) (post := []) [.ref (ad 0), .int a2] hX hq kwr_RX0_19_special_0 (c_R0_X6_says h5) (fun z hz => (List.mem_singleton.mp hz) ▸ hro) (by decide) (by decide) (by decide) rfl (Recv.ro 0 hro rfl) rfl (Nat.le_of_ble_eq_true rfl) dX0_says_9 (fun rv ws2 hp2 => ?_))
  obtain ⟨rfl, rfl⟩ := hp2
  refine g_eqW (app1 _).symm ?_
  refine g_iconst hX (v := 3) (by decide) dX0_says_12 ?_
  refine g_imul hX dX0_says_13 ?_
  obtain rfl := oi hf
  exact g_iret hX hq (by decide) (by decide) hp dX0_says_14
theorem c_R0_X0_says {l : Launch} {E : En} {ad : Nat → Nat} {q : Nat} {fk fm fn : Int32} {a2 r : Int32} {S S2 : MS} (hf : f_R0_X0_says fm fn a2 S = some (r, S2)) : CP l E yX0_says cX0_says 3 (some .int) 2 0 0 [(q, .inr (0, [.int fk, .int fm, .int fn]))] [.ref q, .ref (ad 0), .int a2] (tW E ad S) (fun rv w => rv = some (.int r) ∧ w = tW E ad S2) :=
  CP.of (lv := [(0, .ref q), (1, .ref (ad 0)), (2, .int a2)]) (by decide +kernel) (Nat.le_of_ble_eq_true rfl) rfl (fun X hl hE hro hX hq hn => by subst hl; subst hE; exact t_R0_X0_says_0 (fk := fk) (by rw [hro]; exact List.mem_singleton.mpr rfl) hX hq ⟨rfl, rfl⟩ a2 S hf)
def f_R0_X6_doubts (fm fn : Int32) (a2 : Int32) (S : MS) : Option (Int32 × MS) :=
  cb (f_X9_begins 12 S) fun _ S1 =>
  some ((a2 - fm), S1)
set_option maxRecDepth 100000 in
set_option maxHeartbeats 4000000 in
theorem t_R0_X6_doubts_0 {X : Cx} {ad : Nat → Nat} {q : Nat} {fk fm fn : Int32} (hro : (q, .inr (0, [.int fk, .int fm, .int fn])) ∈ X.ro) {PostX : Option Value → va_W → Prop} (hX : Ok X cX6_doubts 3 RX6) (hq : Rq X 1 0 0 (some .int) PostX) {u : (Int32 × MS)} (hp : PostX (some (.int u.1)) (tW X.E ad u.2)) (a2 : Int32) (S : MS) (hf : f_R0_X6_doubts fm fn a2 S = some u) : G X 3 0 0 0 [(0, .ref q), (1, .ref (ad 0)), (2, .int a2)] [] (tW X.E ad S) := by
  unfold f_R0_X6_doubts at hf
  refine g_aloadn hX 1 rfl rfl dX6_doubts_0 ?_
  refine g_bipush hX (v := 12) (by decide) dX6_doubts_1 ?_
  obtain ⟨z3, S1, h2, hf⟩ := cb_open hf
  refine g_eqW (app1 _) (g_callV (pre := []) (mid := _) (post := []) [.int 12] hX hq kw_RX6_X9_begins (c_X9_begins h2) (fun _ h => absurd h List.not_mem_nil) (by decide) (by decide) (by decide) rfl (Recv.of 0 9 rfl rfl) rfl (Nat.le_of_ble_eq_true rfl) dX6_doubts_3 (fun rv ws2 hp2 => ?_))
  obtain ⟨rfl, rfl⟩ := hp2
  refine g_eqW (app1 _).symm ?_
  refine g_iloadn hX 2 rfl rfl dX6_doubts_6 ?_
  refine g_aloadn hX 0 rfl rfl dX6_doubts_7 ?_
  refine g_getR (C := RX0) (T := TX0) (N := 3) hX inX0 hro rfl 1 (by decide) wd_1_147 (fun _ h => h) rfl dX6_doubts_8 ?_
  refine g_isub hX dX6_doubts_11 ?_
  obtain rfl := oi hf
  exact g_iret hX hq (by decide) (by decide) hp dX6_doubts_12
theorem c_R0_X6_doubts {l : Launch} {E : En} {ad : Nat → Nat} {q : Nat} {fk fm fn : Int32} {a2 r : Int32} {S S2 : MS} (hf : f_R0_X6_doubts fm fn a2 S = some (r, S2)) : CP l E yX6_doubts cX6_doubts 3 (some .int) 1 0 0 [(q, .inr (0, [.int fk, .int fm, .int fn]))] [.ref q, .ref (ad 0), .int a2] (tW E ad S) (fun rv w => rv = some (.int r) ∧ w = tW E ad S2) :=
  CP.of (lv := [(0, .ref q), (1, .ref (ad 0)), (2, .int a2)]) (by decide +kernel) (Nat.le_of_ble_eq_true rfl) rfl (fun X hl hE hro hX hq hn => by subst hl; subst hE; exact t_R0_X6_doubts_0 (fk := fk) (by rw [hro]; exact List.mem_singleton.mpr rfl) hX hq ⟨rfl, rfl⟩ a2 S hf)
theorem kwr_RX6_25_virtual_0 : KwO RX6 25 RX0 RX6 yX6_says yX0_says cX0_says 3 (some .int) 2 := ⟨mem_wsO wd_4_95 wd_4_53 wd_4_51 wd_4_54 wd_4_55 wd_1_10 wd_4_56, ⟨_, _, _, wd_4_67⟩, ⟨by decide +kernel, by decide +kernel, by decide +kernel⟩, by decide⟩
def f_R0_X6_rises (fm fn : Int32) (a2 : Int32) (S : MS) : Option (Int32 × MS) :=
  cb (f_X9_begins 11 S) fun _ S1 =>
  cb (f_R0_X0_says fm fn a2 S1) fun r4 S6 =>
  some ((r4 * 2), S6)
set_option maxRecDepth 100000 in
set_option maxHeartbeats 4000000 in
theorem t_R0_X6_rises_0 {X : Cx} {ad : Nat → Nat} {q : Nat} {fk fm fn : Int32} (hro : (q, .inr (0, [.int fk, .int fm, .int fn])) ∈ X.ro) {PostX : Option Value → va_W → Prop} (hX : Ok X cX6_rises 3 RX6) (hq : Rq X 3 0 0 (some .int) PostX) {u : (Int32 × MS)} (hp : PostX (some (.int u.1)) (tW X.E ad u.2)) (a2 : Int32) (S : MS) (hf : f_R0_X6_rises fm fn a2 S = some u) : G X 3 0 0 0 [(0, .ref q), (1, .ref (ad 0)), (2, .int a2)] [] (tW X.E ad S) := by
  unfold f_R0_X6_rises at hf
  refine g_aloadn hX 1 rfl rfl dX6_rises_0 ?_
  refine g_bipush hX (v := 11) (by decide) dX6_rises_1 ?_
  obtain ⟨z3, S1, h2, hf⟩ := cb_open hf
  refine g_eqW (app1 _) (g_callV (pre := []) (mid := _) (post := []) [.int 11] hX hq kw_RX6_X9_begins (c_X9_begins h2) (fun _ h => absurd h List.not_mem_nil) (by decide) (by decide) (by decide) rfl (Recv.of 0 9 rfl rfl) rfl (Nat.le_of_ble_eq_true rfl) dX6_rises_3 (fun rv ws2 hp2 => ?_))
  obtain ⟨rfl, rfl⟩ := hp2
  refine g_eqW (app1 _).symm ?_
  refine g_aloadn hX 0 rfl rfl dX6_rises_6 ?_
  refine g_aloadn hX 1 rfl rfl dX6_rises_7 ?_
  refine g_iloadn hX 2 rfl rfl dX6_rises_8 ?_
  obtain ⟨r4, S6, h5, hf⟩ := cb_open hf
  refine g_eqW (app1 _) (g_callO (pre := []) (mid := _) (post := []) [.ref (ad 0), .int a2] hX hq kwr_RX6_25_virtual_0 (c_R0_X0_says h5) (fun z hz => (List.mem_singleton.mp hz) ▸ hro) (by decide) (by decide) (by decide) rfl (Recv.ro 0 hro rfl) rfl (Nat.le_of_ble_eq_true rfl) dX6_rises_9 (fun rv ws2 hp2 => ?_))
  obtain ⟨rfl, rfl⟩ := hp2
  refine g_eqW (app1 _).symm ?_
  refine g_iconst hX (v := 2) (by decide) dX6_rises_12 ?_
  refine g_imul hX dX6_rises_13 ?_
  obtain rfl := oi hf
  exact g_iret hX hq (by decide) (by decide) hp dX6_rises_14
theorem c_R0_X6_rises {l : Launch} {E : En} {ad : Nat → Nat} {q : Nat} {fk fm fn : Int32} {a2 r : Int32} {S S2 : MS} (hf : f_R0_X6_rises fm fn a2 S = some (r, S2)) : CP l E yX6_rises cX6_rises 3 (some .int) 3 0 0 [(q, .inr (0, [.int fk, .int fm, .int fn]))] [.ref q, .ref (ad 0), .int a2] (tW E ad S) (fun rv w => rv = some (.int r) ∧ w = tW E ad S2) :=
  CP.of (lv := [(0, .ref q), (1, .ref (ad 0)), (2, .int a2)]) (by decide +kernel) (Nat.le_of_ble_eq_true rfl) rfl (fun X hl hE hro hX hq hn => by subst hl; subst hE; exact t_R0_X6_rises_0 (fk := fk) (by rw [hro]; exact List.mem_singleton.mpr rfl) hX hq ⟨rfl, rfl⟩ a2 S hf)
theorem kwr_RX6_29_virtual_0 : KwO RX6 29 RX0 RX6 yX6_rises yX6_rises cX6_rises 3 (some .int) 2 := ⟨mem_wsO wd_4_134 wd_4_72 wd_4_70 wd_4_73 wd_4_70 wd_1_9 wd_4_94, ⟨_, _, _, wd_4_94⟩, ⟨by decide +kernel, by decide +kernel, by decide +kernel⟩, by decide⟩
theorem kwr_RX6_32_virtual_0 : KwO RX6 32 RX0 RX6 yX6_doubts yX6_doubts cX6_doubts 3 (some .int) 2 := ⟨mem_wsO wd_4_135 wd_6_175 wd_4_85 wd_6_176 wd_4_85 wd_1_9 wd_4_86, ⟨_, _, _, wd_4_86⟩, ⟨by decide +kernel, by decide +kernel, by decide +kernel⟩, by decide⟩
def f_R0_X6_tells (fm fn : Int32) (a2 : Int32) (S : MS) : Option (Int32 × MS) :=
  cb (f_X9_begins 13 S) fun _ S1 =>
  cb (f_R0_X6_rises fm fn a2 S1) fun r4 S6 =>
  cb (f_R0_X6_doubts fm fn a2 S6) fun r7 S9 =>
  some ((r4 ^^^ r7), S9)
set_option maxRecDepth 100000 in
set_option maxHeartbeats 4000000 in
theorem t_R0_X6_tells_0 {X : Cx} {ad : Nat → Nat} {q : Nat} {fk fm fn : Int32} (hro : (q, .inr (0, [.int fk, .int fm, .int fn])) ∈ X.ro) {PostX : Option Value → va_W → Prop} (hX : Ok X cX6_tells 3 RX6) (hq : Rq X 4 0 0 (some .int) PostX) {u : (Int32 × MS)} (hp : PostX (some (.int u.1)) (tW X.E ad u.2)) (a2 : Int32) (S : MS) (hf : f_R0_X6_tells fm fn a2 S = some u) : G X 3 0 0 0 [(0, .ref q), (1, .ref (ad 0)), (2, .int a2)] [] (tW X.E ad S) := by
  unfold f_R0_X6_tells at hf
  refine g_aloadn hX 1 rfl rfl dX6_tells_0 ?_
  refine g_bipush hX (v := 13) (by decide) dX6_tells_1 ?_
  obtain ⟨z3, S1, h2, hf⟩ := cb_open hf
  refine g_eqW (app1 _) (g_callV (pre := []) (mid := _) (post := []) [.int 13] hX hq kw_RX6_X9_begins (c_X9_begins h2) (fun _ h => absurd h List.not_mem_nil) (by decide) (by decide) (by decide) rfl (Recv.of 0 9 rfl rfl) rfl (Nat.le_of_ble_eq_true rfl) dX6_tells_3 (fun rv ws2 hp2 => ?_))
  obtain ⟨rfl, rfl⟩ := hp2
  refine g_eqW (app1 _).symm ?_
  refine g_aloadn hX 0 rfl rfl dX6_tells_6 ?_
  refine g_aloadn hX 1 rfl rfl dX6_tells_7 ?_
  refine g_iloadn hX 2 rfl rfl dX6_tells_8 ?_
  obtain ⟨r4, S6, h5, hf⟩ := cb_open hf
  refine g_eqW (app1 _) (g_callO (pre := []) (mid := _) (post := []) [.ref (ad 0), .int a2] hX hq kwr_RX6_29_virtual_0 (c_R0_X6_rises h5) (fun z hz => (List.mem_singleton.mp hz) ▸ hro) (by decide) (by decide) (by decide) rfl (Recv.ro 0 hro rfl) rfl (Nat.le_of_ble_eq_true rfl) dX6_tells_9 (fun rv ws2 hp2 => ?_))
  obtain ⟨rfl, rfl⟩ := hp2
  refine g_eqW (app1 _).symm ?_
  refine g_aloadn hX 0 rfl rfl dX6_tells_12 ?_
  refine g_aloadn hX 1 rfl rfl dX6_tells_13 ?_
  refine g_iloadn hX 2 rfl rfl dX6_tells_14 ?_
  obtain ⟨r7, S9, h8, hf⟩ := cb_open hf
  refine g_eqW (app1 _) (g_callO (pre := []) (mid := _) (post := []) [.ref (ad 0), .int a2] hX hq kwr_RX6_32_virtual_0 (c_R0_X6_doubts h8) (fun z hz => (List.mem_singleton.mp hz) ▸ hro) (by decide) (by decide) (by decide) rfl (Recv.ro 0 hro rfl) rfl (Nat.le_of_ble_eq_true rfl) dX6_tells_15 (fun rv ws2 hp2 => ?_))
  obtain ⟨rfl, rfl⟩ := hp2
  refine g_eqW (app1 _).symm ?_
  refine g_ixor hX dX6_tells_18 ?_
  obtain rfl := oi hf
  exact g_iret hX hq (by decide) (by decide) hp dX6_tells_19
theorem c_R0_X6_tells {l : Launch} {E : En} {ad : Nat → Nat} {q : Nat} {fk fm fn : Int32} {a2 r : Int32} {S S2 : MS} (hf : f_R0_X6_tells fm fn a2 S = some (r, S2)) : CP l E yX6_tells cX6_tells 3 (some .int) 4 0 0 [(q, .inr (0, [.int fk, .int fm, .int fn]))] [.ref q, .ref (ad 0), .int a2] (tW E ad S) (fun rv w => rv = some (.int r) ∧ w = tW E ad S2) :=
  CP.of (lv := [(0, .ref q), (1, .ref (ad 0)), (2, .int a2)]) (by decide +kernel) (Nat.le_of_ble_eq_true rfl) rfl (fun X hl hE hro hX hq hn => by subst hl; subst hE; exact t_R0_X6_tells_0 (fk := fk) (by rw [hro]; exact List.mem_singleton.mpr rfl) hX hq ⟨rfl, rfl⟩ a2 S hf)
def f_R1_X6_counted (fm fn : Int32) (a1 : Int32) : Option Int32 :=
  some a1
set_option maxRecDepth 100000 in
set_option maxHeartbeats 4000000 in
theorem t_R1_X6_counted_0 {X : Cx} {q : Nat} {fk fm fn : Int32} (hro : (q, .inr (1, [.int fk, .int fm, .int fn])) ∈ X.ro) {PostX : Option Value → va_W → Prop} (hX : Ok X cX6_counted 2 RX6) (hq : Rq X 0 0 0 (some .int) PostX) {u : Int32} (hp : PostX (some (.int u)) []) (a1 : Int32) (hf : f_R1_X6_counted fm fn a1 = some u) : G X 2 0 0 0 [(0, .ref q), (1, .int a1)] [] [] := by
  unfold f_R1_X6_counted at hf
  refine g_iloadn hX 1 rfl rfl dX6_counted_0 ?_
  obtain rfl := oi hf
  exact g_iret hX hq (by decide) (by decide) hp dX6_counted_1
theorem c_R1_X6_counted {l : Launch} {E : En} {q : Nat} {fk fm fn : Int32} {a1 r : Int32} (hf : f_R1_X6_counted fm fn a1 = some r) : CP l E yX6_counted cX6_counted 2 (some .int) 0 0 0 [(q, .inr (1, [.int fk, .int fm, .int fn]))] [.ref q, .int a1] [] (fun rv w => rv = some (.int r) ∧ w = []) :=
  CP.of (lv := [(0, .ref q), (1, .int a1)]) (by decide +kernel) (Nat.le_of_ble_eq_true rfl) rfl (fun X hl hE hro hX hq hn => t_R1_X6_counted_0 (fk := fk) (by rw [hro]; exact List.mem_singleton.mpr rfl) hX hq ⟨rfl, rfl⟩ a1 hf)
def f_R1_X6_credit (fm fn : Int32) (a1 : Int32) (a2 : Int32) (a3 : Int32) (a4 : Int32) : Option Int32 :=
  some a1
set_option maxRecDepth 100000 in
set_option maxHeartbeats 4000000 in
theorem t_R1_X6_credit_0 {X : Cx} {q : Nat} {fk fm fn : Int32} (hro : (q, .inr (1, [.int fk, .int fm, .int fn])) ∈ X.ro) {PostX : Option Value → va_W → Prop} (hX : Ok X cX6_credit 5 RX6) (hq : Rq X 0 0 0 (some .int) PostX) {u : Int32} (hp : PostX (some (.int u)) []) (a1 : Int32) (a2 : Int32) (a3 : Int32) (a4 : Int32) (hf : f_R1_X6_credit fm fn a1 a2 a3 a4 = some u) : G X 5 0 0 0 [(0, .ref q), (1, .int a1), (2, .int a2), (3, .int a3), (4, .int a4)] [] [] := by
  unfold f_R1_X6_credit at hf
  refine g_iloadn hX 1 rfl rfl dX6_credit_0 ?_
  obtain rfl := oi hf
  exact g_iret hX hq (by decide) (by decide) hp dX6_credit_1
theorem c_R1_X6_credit {l : Launch} {E : En} {q : Nat} {fk fm fn : Int32} {a1 a2 a3 a4 r : Int32} (hf : f_R1_X6_credit fm fn a1 a2 a3 a4 = some r) : CP l E yX6_credit cX6_credit 5 (some .int) 0 0 0 [(q, .inr (1, [.int fk, .int fm, .int fn]))] [.ref q, .int a1, .int a2, .int a3, .int a4] [] (fun rv w => rv = some (.int r) ∧ w = []) :=
  CP.of (lv := [(0, .ref q), (1, .int a1), (2, .int a2), (3, .int a3), (4, .int a4)]) (by decide +kernel) (Nat.le_of_ble_eq_true rfl) rfl (fun X hl hE hro hX hq hn => t_R1_X6_credit_0 (fk := fk) (by rw [hro]; exact List.mem_singleton.mpr rfl) hX hq ⟨rfl, rfl⟩ a1 a2 a3 a4 hf)
def f_R1_X0_credit (fm fn : Int32) (a1 : Int32) (a2 : Int32) (a3 : Int32) (a4 : Int32) : Option Int32 :=
  some (jmin 5 a1)
set_option maxRecDepth 100000 in
set_option maxHeartbeats 4000000 in
theorem t_R1_X0_credit_0 {X : Cx} {q : Nat} {fk fm fn : Int32} (hro : (q, .inr (1, [.int fk, .int fm, .int fn])) ∈ X.ro) {PostX : Option Value → va_W → Prop} (hX : Ok X cX0_credit 5 RX0) (hq : Rq X 1 0 0 (some .int) PostX) {u : Int32} (hp : PostX (some (.int u)) []) (a1 : Int32) (a2 : Int32) (a3 : Int32) (a4 : Int32) (hf : f_R1_X0_credit fm fn a1 a2 a3 a4 = some u) : G X 5 0 0 0 [(0, .ref q), (1, .int a1), (2, .int a2), (3, .int a3), (4, .int a4)] [] [] := by
  unfold f_R1_X0_credit at hf
  refine g_iconst hX (v := 5) (by decide) dX0_credit_0 ?_
  refine g_iloadn hX 1 rfl rfl dX0_credit_1 ?_
  refine g_jmin hX hq km_RX0_min (by decide) (by decide) (by decide) (Nat.le_of_ble_eq_true rfl) dX0_credit_2 ?_
  obtain rfl := oi hf
  exact g_iret hX hq (by decide) (by decide) hp dX0_credit_5
theorem c_R1_X0_credit {l : Launch} {E : En} {q : Nat} {fk fm fn : Int32} {a1 a2 a3 a4 r : Int32} (hf : f_R1_X0_credit fm fn a1 a2 a3 a4 = some r) : CP l E yX0_credit cX0_credit 5 (some .int) 1 0 0 [(q, .inr (1, [.int fk, .int fm, .int fn]))] [.ref q, .int a1, .int a2, .int a3, .int a4] [] (fun rv w => rv = some (.int r) ∧ w = []) :=
  CP.of (lv := [(0, .ref q), (1, .int a1), (2, .int a2), (3, .int a3), (4, .int a4)]) (by decide +kernel) (Nat.le_of_ble_eq_true rfl) rfl (fun X hl hE hro hX hq hn => t_R1_X0_credit_0 (fk := fk) (by rw [hro]; exact List.mem_singleton.mpr rfl) hX hq ⟨rfl, rfl⟩ a1 a2 a3 a4 hf)
theorem kwr_RX1_7_special_1 : KwSU RX1 7 yX0_credit cX0_credit 5 (some .int) 4 := ⟨mem_wsSU wd_3_79 wd_6_172 wd_1_190 wd_3_73 wd_1_10 wd_3_74, ⟨by decide +kernel, by decide +kernel⟩, by decide⟩
def f_R1_X1_credit (fm fn : Int32) (a1 : Int32) (a2 : Int32) (a3 : Int32) (a4 : Int32) : Option Int32 :=
  cs (f_R1_X0_credit fm fn a1 a2 a3 a4) fun r1 =>
  some (r1 + fm)
set_option maxRecDepth 100000 in
set_option maxHeartbeats 4000000 in
theorem t_R1_X1_credit_0 {X : Cx} {q : Nat} {fk fm fn : Int32} (hro : (q, .inr (1, [.int fk, .int fm, .int fn])) ∈ X.ro) {PostX : Option Value → va_W → Prop} (hX : Ok X cX1_credit 5 RX1) (hq : Rq X 2 0 0 (some .int) PostX) {u : Int32} (hp : PostX (some (.int u)) []) (a1 : Int32) (a2 : Int32) (a3 : Int32) (a4 : Int32) (hf : f_R1_X1_credit fm fn a1 a2 a3 a4 = some u) : G X 5 0 0 0 [(0, .ref q), (1, .int a1), (2, .int a2), (3, .int a3), (4, .int a4)] [] [] := by
  unfold f_R1_X1_credit at hf
  refine g_aloadn hX 0 rfl rfl dX1_credit_0 ?_
  refine g_iloadn hX 1 rfl rfl dX1_credit_1 ?_
  refine g_iloadn hX 2 rfl rfl dX1_credit_2 ?_
  refine g_iloadn hX 3 rfl rfl dX1_credit_3 ?_
  refine g_iload hX 4 rfl dX1_credit_4 ?_
  obtain ⟨r1, h2, hf⟩ := cs_open hf
  refine g_eqW (app0 _) (g_callSU (pre := _) (mid := []) (post := []) [.int a1, .int a2, .int a3, .int a4] hX hq kwr_RX1_7_special_1 (c_R1_X0_credit h2) (fun z hz => (List.mem_singleton.mp hz) ▸ hro) (by decide) (by decide) (by decide) rfl (Recv.ro 1 hro rfl) rfl (Nat.le_of_ble_eq_true rfl) dX1_credit_6 (fun rv ws2 hp2 => ?_))
  obtain ⟨rfl, rfl⟩ := hp2
  refine g_eqW (app0 _).symm ?_
  refine g_aloadn hX 0 rfl rfl dX1_credit_9 ?_
  refine g_getR (C := RX1) (T := TX1) (N := 3) hX inX1 hro rfl 1 (by decide) wd_1_148 (fun x h => u_same (hX.hts _ wd_1_149) x h) rfl dX1_credit_10 ?_
  refine g_iadd hX dX1_credit_13 ?_
  obtain rfl := oi hf
  exact g_iret hX hq (by decide) (by decide) hp dX1_credit_14
theorem c_R1_X1_credit {l : Launch} {E : En} {q : Nat} {fk fm fn : Int32} {a1 a2 a3 a4 r : Int32} (hf : f_R1_X1_credit fm fn a1 a2 a3 a4 = some r) : CP l E yX1_credit cX1_credit 5 (some .int) 2 0 0 [(q, .inr (1, [.int fk, .int fm, .int fn]))] [.ref q, .int a1, .int a2, .int a3, .int a4] [] (fun rv w => rv = some (.int r) ∧ w = []) :=
  CP.of (lv := [(0, .ref q), (1, .int a1), (2, .int a2), (3, .int a3), (4, .int a4)]) (by decide +kernel) (Nat.le_of_ble_eq_true rfl) rfl (fun X hl hE hro hX hq hn => t_R1_X1_credit_0 (fk := fk) (by rw [hro]; exact List.mem_singleton.mpr rfl) hX hq ⟨rfl, rfl⟩ a1 a2 a3 a4 hf)
def f_R1_X6_says (fm fn : Int32) (a2 : Int32) (S : MS) : Option (Int32 × MS) :=
  cb (f_X9_begins 10 S) fun _ S1 =>
  some ((a2 + fn), S1)
set_option maxRecDepth 100000 in
set_option maxHeartbeats 4000000 in
theorem t_R1_X6_says_0 {X : Cx} {ad : Nat → Nat} {q : Nat} {fk fm fn : Int32} (hro : (q, .inr (1, [.int fk, .int fm, .int fn])) ∈ X.ro) {PostX : Option Value → va_W → Prop} (hX : Ok X cX6_says 3 RX6) (hq : Rq X 1 0 0 (some .int) PostX) {u : (Int32 × MS)} (hp : PostX (some (.int u.1)) (tW X.E ad u.2)) (a2 : Int32) (S : MS) (hf : f_R1_X6_says fm fn a2 S = some u) : G X 3 0 0 0 [(0, .ref q), (1, .ref (ad 0)), (2, .int a2)] [] (tW X.E ad S) := by
  unfold f_R1_X6_says at hf
  refine g_aloadn hX 1 rfl rfl dX6_says_0 ?_
  refine g_bipush hX (v := 10) (by decide) dX6_says_1 ?_
  obtain ⟨z3, S1, h2, hf⟩ := cb_open hf
  refine g_eqW (app1 _) (g_callV (pre := []) (mid := _) (post := []) [.int 10] hX hq kw_RX6_X9_begins (c_X9_begins h2) (fun _ h => absurd h List.not_mem_nil) (by decide) (by decide) (by decide) rfl (Recv.of 0 9 rfl rfl) rfl (Nat.le_of_ble_eq_true rfl) dX6_says_3 (fun rv ws2 hp2 => ?_))
  obtain ⟨rfl, rfl⟩ := hp2
  refine g_eqW (app1 _).symm ?_
  refine g_iloadn hX 2 rfl rfl dX6_says_6 ?_
  refine g_aloadn hX 0 rfl rfl dX6_says_7 ?_
  refine g_getR (C := RX1) (T := TX1) (N := 3) hX inX1 hro rfl 2 (by decide) wd_1_151 (fun _ h => h) rfl dX6_says_8 ?_
  refine g_iadd hX dX6_says_11 ?_
  obtain rfl := oi hf
  exact g_iret hX hq (by decide) (by decide) hp dX6_says_12
theorem c_R1_X6_says {l : Launch} {E : En} {ad : Nat → Nat} {q : Nat} {fk fm fn : Int32} {a2 r : Int32} {S S2 : MS} (hf : f_R1_X6_says fm fn a2 S = some (r, S2)) : CP l E yX6_says cX6_says 3 (some .int) 1 0 0 [(q, .inr (1, [.int fk, .int fm, .int fn]))] [.ref q, .ref (ad 0), .int a2] (tW E ad S) (fun rv w => rv = some (.int r) ∧ w = tW E ad S2) :=
  CP.of (lv := [(0, .ref q), (1, .ref (ad 0)), (2, .int a2)]) (by decide +kernel) (Nat.le_of_ble_eq_true rfl) rfl (fun X hl hE hro hX hq hn => by subst hl; subst hE; exact t_R1_X6_says_0 (fk := fk) (by rw [hro]; exact List.mem_singleton.mpr rfl) hX hq ⟨rfl, rfl⟩ a2 S hf)
theorem kwr_RX0_19_special_1 : KwSU RX0 19 yX6_says cX6_says 3 (some .int) 2 := ⟨mem_wsSU wd_4_61 wd_4_53 wd_1_160 wd_4_51 wd_1_9 wd_4_67, ⟨by decide +kernel, by decide +kernel⟩, by decide⟩
def f_R1_X0_says (fm fn : Int32) (a2 : Int32) (S : MS) : Option (Int32 × MS) :=
  cb (f_X9_begins 20 S) fun _ S1 =>
  cb (f_R1_X6_says fm fn a2 S1) fun r4 S6 =>
  some ((r4 * 3), S6)
set_option maxRecDepth 100000 in
set_option maxHeartbeats 4000000 in
theorem t_R1_X0_says_0 {X : Cx} {ad : Nat → Nat} {q : Nat} {fk fm fn : Int32} (hro : (q, .inr (1, [.int fk, .int fm, .int fn])) ∈ X.ro) {PostX : Option Value → va_W → Prop} (hX : Ok X cX0_says 3 RX0) (hq : Rq X 2 0 0 (some .int) PostX) {u : (Int32 × MS)} (hp : PostX (some (.int u.1)) (tW X.E ad u.2)) (a2 : Int32) (S : MS) (hf : f_R1_X0_says fm fn a2 S = some u) : G X 3 0 0 0 [(0, .ref q), (1, .ref (ad 0)), (2, .int a2)] [] (tW X.E ad S) := by
  unfold f_R1_X0_says at hf
  refine g_aloadn hX 1 rfl rfl dX0_says_0 ?_
  refine g_bipush hX (v := 20) (by decide) dX0_says_1 ?_
  obtain ⟨z3, S1, h2, hf⟩ := cb_open hf
  refine g_eqW (app1 _) (g_callV (pre := []) (mid := _) (post := []) [.int 20] hX hq kw_RX0_X9_begins (c_X9_begins h2) (fun _ h => absurd h List.not_mem_nil) (by decide) (by decide) (by decide) rfl (Recv.of 0 9 rfl rfl) rfl (Nat.le_of_ble_eq_true rfl) dX0_says_3 (fun rv ws2 hp2 => ?_))
  obtain ⟨rfl, rfl⟩ := hp2
  refine g_eqW (app1 _).symm ?_
  refine g_aloadn hX 0 rfl rfl dX0_says_6 ?_
  refine g_aloadn hX 1 rfl rfl dX0_says_7 ?_
  refine g_iloadn hX 2 rfl rfl dX0_says_8 ?_
  obtain ⟨r4, S6, h5, hf⟩ := cb_open hf
  refine g_eqW (app1 _) (g_callSU (pre := []) (mid := _) (post := []) [.ref (ad 0), .int a2] hX hq kwr_RX0_19_special_1 (c_R1_X6_says h5) (fun z hz => (List.mem_singleton.mp hz) ▸ hro) (by decide) (by decide) (by decide) rfl (Recv.ro 1 hro rfl) rfl (Nat.le_of_ble_eq_true rfl) dX0_says_9 (fun rv ws2 hp2 => ?_))
  obtain ⟨rfl, rfl⟩ := hp2
  refine g_eqW (app1 _).symm ?_
  refine g_iconst hX (v := 3) (by decide) dX0_says_12 ?_
  refine g_imul hX dX0_says_13 ?_
  obtain rfl := oi hf
  exact g_iret hX hq (by decide) (by decide) hp dX0_says_14
theorem c_R1_X0_says {l : Launch} {E : En} {ad : Nat → Nat} {q : Nat} {fk fm fn : Int32} {a2 r : Int32} {S S2 : MS} (hf : f_R1_X0_says fm fn a2 S = some (r, S2)) : CP l E yX0_says cX0_says 3 (some .int) 2 0 0 [(q, .inr (1, [.int fk, .int fm, .int fn]))] [.ref q, .ref (ad 0), .int a2] (tW E ad S) (fun rv w => rv = some (.int r) ∧ w = tW E ad S2) :=
  CP.of (lv := [(0, .ref q), (1, .ref (ad 0)), (2, .int a2)]) (by decide +kernel) (Nat.le_of_ble_eq_true rfl) rfl (fun X hl hE hro hX hq hn => by subst hl; subst hE; exact t_R1_X0_says_0 (fk := fk) (by rw [hro]; exact List.mem_singleton.mpr rfl) hX hq ⟨rfl, rfl⟩ a2 S hf)
def f_R1_X6_doubts (fm fn : Int32) (a2 : Int32) (S : MS) : Option (Int32 × MS) :=
  cb (f_X9_begins 12 S) fun _ S1 =>
  some ((a2 - fm), S1)
set_option maxRecDepth 100000 in
set_option maxHeartbeats 4000000 in
theorem t_R1_X6_doubts_0 {X : Cx} {ad : Nat → Nat} {q : Nat} {fk fm fn : Int32} (hro : (q, .inr (1, [.int fk, .int fm, .int fn])) ∈ X.ro) {PostX : Option Value → va_W → Prop} (hX : Ok X cX6_doubts 3 RX6) (hq : Rq X 1 0 0 (some .int) PostX) {u : (Int32 × MS)} (hp : PostX (some (.int u.1)) (tW X.E ad u.2)) (a2 : Int32) (S : MS) (hf : f_R1_X6_doubts fm fn a2 S = some u) : G X 3 0 0 0 [(0, .ref q), (1, .ref (ad 0)), (2, .int a2)] [] (tW X.E ad S) := by
  unfold f_R1_X6_doubts at hf
  refine g_aloadn hX 1 rfl rfl dX6_doubts_0 ?_
  refine g_bipush hX (v := 12) (by decide) dX6_doubts_1 ?_
  obtain ⟨z3, S1, h2, hf⟩ := cb_open hf
  refine g_eqW (app1 _) (g_callV (pre := []) (mid := _) (post := []) [.int 12] hX hq kw_RX6_X9_begins (c_X9_begins h2) (fun _ h => absurd h List.not_mem_nil) (by decide) (by decide) (by decide) rfl (Recv.of 0 9 rfl rfl) rfl (Nat.le_of_ble_eq_true rfl) dX6_doubts_3 (fun rv ws2 hp2 => ?_))
  obtain ⟨rfl, rfl⟩ := hp2
  refine g_eqW (app1 _).symm ?_
  refine g_iloadn hX 2 rfl rfl dX6_doubts_6 ?_
  refine g_aloadn hX 0 rfl rfl dX6_doubts_7 ?_
  refine g_getR (C := RX1) (T := TX1) (N := 3) hX inX1 hro rfl 1 (by decide) wd_1_147 (fun _ h => h) rfl dX6_doubts_8 ?_
  refine g_isub hX dX6_doubts_11 ?_
  obtain rfl := oi hf
  exact g_iret hX hq (by decide) (by decide) hp dX6_doubts_12
theorem c_R1_X6_doubts {l : Launch} {E : En} {ad : Nat → Nat} {q : Nat} {fk fm fn : Int32} {a2 r : Int32} {S S2 : MS} (hf : f_R1_X6_doubts fm fn a2 S = some (r, S2)) : CP l E yX6_doubts cX6_doubts 3 (some .int) 1 0 0 [(q, .inr (1, [.int fk, .int fm, .int fn]))] [.ref q, .ref (ad 0), .int a2] (tW E ad S) (fun rv w => rv = some (.int r) ∧ w = tW E ad S2) :=
  CP.of (lv := [(0, .ref q), (1, .ref (ad 0)), (2, .int a2)]) (by decide +kernel) (Nat.le_of_ble_eq_true rfl) rfl (fun X hl hE hro hX hq hn => by subst hl; subst hE; exact t_R1_X6_doubts_0 (fk := fk) (by rw [hro]; exact List.mem_singleton.mpr rfl) hX hq ⟨rfl, rfl⟩ a2 S hf)
theorem kwr_RX6_25_virtual_1 : KwO RX6 25 RX1 RX6 yX6_says yX0_says cX0_says 3 (some .int) 2 := ⟨mem_wsO wd_4_95 wd_4_53 wd_4_51 wd_4_62 wd_4_55 wd_1_10 wd_4_56, ⟨_, _, _, wd_4_67⟩, ⟨by decide +kernel, by decide +kernel, by decide +kernel⟩, by decide⟩
def f_R1_X6_rises (fm fn : Int32) (a2 : Int32) (S : MS) : Option (Int32 × MS) :=
  cb (f_X9_begins 11 S) fun _ S1 =>
  cb (f_R1_X0_says fm fn a2 S1) fun r4 S6 =>
  some ((r4 * 2), S6)
set_option maxRecDepth 100000 in
set_option maxHeartbeats 4000000 in
theorem t_R1_X6_rises_0 {X : Cx} {ad : Nat → Nat} {q : Nat} {fk fm fn : Int32} (hro : (q, .inr (1, [.int fk, .int fm, .int fn])) ∈ X.ro) {PostX : Option Value → va_W → Prop} (hX : Ok X cX6_rises 3 RX6) (hq : Rq X 3 0 0 (some .int) PostX) {u : (Int32 × MS)} (hp : PostX (some (.int u.1)) (tW X.E ad u.2)) (a2 : Int32) (S : MS) (hf : f_R1_X6_rises fm fn a2 S = some u) : G X 3 0 0 0 [(0, .ref q), (1, .ref (ad 0)), (2, .int a2)] [] (tW X.E ad S) := by
  unfold f_R1_X6_rises at hf
  refine g_aloadn hX 1 rfl rfl dX6_rises_0 ?_
  refine g_bipush hX (v := 11) (by decide) dX6_rises_1 ?_
  obtain ⟨z3, S1, h2, hf⟩ := cb_open hf
  refine g_eqW (app1 _) (g_callV (pre := []) (mid := _) (post := []) [.int 11] hX hq kw_RX6_X9_begins (c_X9_begins h2) (fun _ h => absurd h List.not_mem_nil) (by decide) (by decide) (by decide) rfl (Recv.of 0 9 rfl rfl) rfl (Nat.le_of_ble_eq_true rfl) dX6_rises_3 (fun rv ws2 hp2 => ?_))
  obtain ⟨rfl, rfl⟩ := hp2
  refine g_eqW (app1 _).symm ?_
  refine g_aloadn hX 0 rfl rfl dX6_rises_6 ?_
  refine g_aloadn hX 1 rfl rfl dX6_rises_7 ?_
  refine g_iloadn hX 2 rfl rfl dX6_rises_8 ?_
  obtain ⟨r4, S6, h5, hf⟩ := cb_open hf
  refine g_eqW (app1 _) (g_callO (pre := []) (mid := _) (post := []) [.ref (ad 0), .int a2] hX hq kwr_RX6_25_virtual_1 (c_R1_X0_says h5) (fun z hz => (List.mem_singleton.mp hz) ▸ hro) (by decide) (by decide) (by decide) rfl (Recv.ro 1 hro rfl) rfl (Nat.le_of_ble_eq_true rfl) dX6_rises_9 (fun rv ws2 hp2 => ?_))
  obtain ⟨rfl, rfl⟩ := hp2
  refine g_eqW (app1 _).symm ?_
  refine g_iconst hX (v := 2) (by decide) dX6_rises_12 ?_
  refine g_imul hX dX6_rises_13 ?_
  obtain rfl := oi hf
  exact g_iret hX hq (by decide) (by decide) hp dX6_rises_14
theorem c_R1_X6_rises {l : Launch} {E : En} {ad : Nat → Nat} {q : Nat} {fk fm fn : Int32} {a2 r : Int32} {S S2 : MS} (hf : f_R1_X6_rises fm fn a2 S = some (r, S2)) : CP l E yX6_rises cX6_rises 3 (some .int) 3 0 0 [(q, .inr (1, [.int fk, .int fm, .int fn]))] [.ref q, .ref (ad 0), .int a2] (tW E ad S) (fun rv w => rv = some (.int r) ∧ w = tW E ad S2) :=
  CP.of (lv := [(0, .ref q), (1, .ref (ad 0)), (2, .int a2)]) (by decide +kernel) (Nat.le_of_ble_eq_true rfl) rfl (fun X hl hE hro hX hq hn => by subst hl; subst hE; exact t_R1_X6_rises_0 (fk := fk) (by rw [hro]; exact List.mem_singleton.mpr rfl) hX hq ⟨rfl, rfl⟩ a2 S hf)
theorem kwr_RX6_29_virtual_1 : KwO RX6 29 RX1 RX6 yX6_rises yX6_rises cX6_rises 3 (some .int) 2 := ⟨mem_wsO wd_4_134 wd_4_72 wd_4_70 wd_4_74 wd_4_70 wd_1_9 wd_4_94, ⟨_, _, _, wd_4_94⟩, ⟨by decide +kernel, by decide +kernel, by decide +kernel⟩, by decide⟩
theorem kwr_RX6_32_virtual_1 : KwO RX6 32 RX1 RX6 yX6_doubts yX6_doubts cX6_doubts 3 (some .int) 2 := ⟨mem_wsO wd_4_135 wd_6_175 wd_4_85 wd_6_177 wd_4_85 wd_1_9 wd_4_86, ⟨_, _, _, wd_4_86⟩, ⟨by decide +kernel, by decide +kernel, by decide +kernel⟩, by decide⟩
def f_R1_X6_tells (fm fn : Int32) (a2 : Int32) (S : MS) : Option (Int32 × MS) :=
  cb (f_X9_begins 13 S) fun _ S1 =>
  cb (f_R1_X6_rises fm fn a2 S1) fun r4 S6 =>
  cb (f_R1_X6_doubts fm fn a2 S6) fun r7 S9 =>
  some ((r4 ^^^ r7), S9)
set_option maxRecDepth 100000 in
set_option maxHeartbeats 4000000 in
theorem t_R1_X6_tells_0 {X : Cx} {ad : Nat → Nat} {q : Nat} {fk fm fn : Int32} (hro : (q, .inr (1, [.int fk, .int fm, .int fn])) ∈ X.ro) {PostX : Option Value → va_W → Prop} (hX : Ok X cX6_tells 3 RX6) (hq : Rq X 4 0 0 (some .int) PostX) {u : (Int32 × MS)} (hp : PostX (some (.int u.1)) (tW X.E ad u.2)) (a2 : Int32) (S : MS) (hf : f_R1_X6_tells fm fn a2 S = some u) : G X 3 0 0 0 [(0, .ref q), (1, .ref (ad 0)), (2, .int a2)] [] (tW X.E ad S) := by
  unfold f_R1_X6_tells at hf
  refine g_aloadn hX 1 rfl rfl dX6_tells_0 ?_
  refine g_bipush hX (v := 13) (by decide) dX6_tells_1 ?_
  obtain ⟨z3, S1, h2, hf⟩ := cb_open hf
  refine g_eqW (app1 _) (g_callV (pre := []) (mid := _) (post := []) [.int 13] hX hq kw_RX6_X9_begins (c_X9_begins h2) (fun _ h => absurd h List.not_mem_nil) (by decide) (by decide) (by decide) rfl (Recv.of 0 9 rfl rfl) rfl (Nat.le_of_ble_eq_true rfl) dX6_tells_3 (fun rv ws2 hp2 => ?_))
  obtain ⟨rfl, rfl⟩ := hp2
  refine g_eqW (app1 _).symm ?_
  refine g_aloadn hX 0 rfl rfl dX6_tells_6 ?_
  refine g_aloadn hX 1 rfl rfl dX6_tells_7 ?_
  refine g_iloadn hX 2 rfl rfl dX6_tells_8 ?_
  obtain ⟨r4, S6, h5, hf⟩ := cb_open hf
  refine g_eqW (app1 _) (g_callO (pre := []) (mid := _) (post := []) [.ref (ad 0), .int a2] hX hq kwr_RX6_29_virtual_1 (c_R1_X6_rises h5) (fun z hz => (List.mem_singleton.mp hz) ▸ hro) (by decide) (by decide) (by decide) rfl (Recv.ro 1 hro rfl) rfl (Nat.le_of_ble_eq_true rfl) dX6_tells_9 (fun rv ws2 hp2 => ?_))
  obtain ⟨rfl, rfl⟩ := hp2
  refine g_eqW (app1 _).symm ?_
  refine g_aloadn hX 0 rfl rfl dX6_tells_12 ?_
  refine g_aloadn hX 1 rfl rfl dX6_tells_13 ?_
  refine g_iloadn hX 2 rfl rfl dX6_tells_14 ?_
  obtain ⟨r7, S9, h8, hf⟩ := cb_open hf
  refine g_eqW (app1 _) (g_callO (pre := []) (mid := _) (post := []) [.ref (ad 0), .int a2] hX hq kwr_RX6_32_virtual_1 (c_R1_X6_doubts h8) (fun z hz => (List.mem_singleton.mp hz) ▸ hro) (by decide) (by decide) (by decide) rfl (Recv.ro 1 hro rfl) rfl (Nat.le_of_ble_eq_true rfl) dX6_tells_15 (fun rv ws2 hp2 => ?_))
  obtain ⟨rfl, rfl⟩ := hp2
  refine g_eqW (app1 _).symm ?_
  refine g_ixor hX dX6_tells_18 ?_
  obtain rfl := oi hf
  exact g_iret hX hq (by decide) (by decide) hp dX6_tells_19
theorem c_R1_X6_tells {l : Launch} {E : En} {ad : Nat → Nat} {q : Nat} {fk fm fn : Int32} {a2 r : Int32} {S S2 : MS} (hf : f_R1_X6_tells fm fn a2 S = some (r, S2)) : CP l E yX6_tells cX6_tells 3 (some .int) 4 0 0 [(q, .inr (1, [.int fk, .int fm, .int fn]))] [.ref q, .ref (ad 0), .int a2] (tW E ad S) (fun rv w => rv = some (.int r) ∧ w = tW E ad S2) :=
  CP.of (lv := [(0, .ref q), (1, .ref (ad 0)), (2, .int a2)]) (by decide +kernel) (Nat.le_of_ble_eq_true rfl) rfl (fun X hl hE hro hX hq hn => by subst hl; subst hE; exact t_R1_X6_tells_0 (fk := fk) (by rw [hro]; exact List.mem_singleton.mpr rfl) hX hq ⟨rfl, rfl⟩ a2 S hf)
theorem kwr_RX1_23_special_1 : KwSX RX1 23 (⟨RX0, "tells", "(LLiftCredit$Trace;I)I"⟩ : MethodName) yX6_tells cX6_tells 3 (some .int) 2 := ⟨⟨wd_4_114, wd_4_115, wd_1_190, wd_1_160, wd_1_9, wd_4_133⟩, rfl, ⟨by decide +kernel, by decide +kernel⟩, by decide⟩
theorem kwr_RX1_27_virtual_1 : KwO RX1 27 RX1 RX0 (⟨RX1, "says", "(LLiftCredit$Trace;I)I"⟩ : MethodName) yX0_says cX0_says 3 (some .int) 2 := ⟨mem_wsO wd_4_117 wd_4_118 wd_4_55 wd_4_120 wd_4_55 wd_1_10 wd_4_56, ⟨_, _, _, wd_4_56⟩, ⟨by decide +kernel, by decide +kernel, by decide +kernel⟩, by decide⟩
def f_R1_X1_tells (fm fn : Int32) (a2 : Int32) (S : MS) : Option (Int32 × MS) :=
  cb (f_X9_begins 50 S) fun _ S1 =>
  cb (f_R1_X6_tells fm fn a2 S1) fun r4 S6 =>
  cb (f_R1_X0_says fm fn 2 S6) fun r7 S9 =>
  some ((r4 - r7), S9)
set_option maxRecDepth 100000 in
set_option maxHeartbeats 4000000 in
theorem t_R1_X1_tells_0 {X : Cx} {ad : Nat → Nat} {q : Nat} {fk fm fn : Int32} (hro : (q, .inr (1, [.int fk, .int fm, .int fn])) ∈ X.ro) {PostX : Option Value → va_W → Prop} (hX : Ok X cX1_tells 3 RX1) (hq : Rq X 5 0 0 (some .int) PostX) {u : (Int32 × MS)} (hp : PostX (some (.int u.1)) (tW X.E ad u.2)) (a2 : Int32) (S : MS) (hf : f_R1_X1_tells fm fn a2 S = some u) : G X 3 0 0 0 [(0, .ref q), (1, .ref (ad 0)), (2, .int a2)] [] (tW X.E ad S) := by
  unfold f_R1_X1_tells at hf
  refine g_aloadn hX 1 rfl rfl dX1_tells_0 ?_
  refine g_bipush hX (v := 50) (by decide) dX1_tells_1 ?_
  obtain ⟨z3, S1, h2, hf⟩ := cb_open hf
  refine g_eqW (app1 _) (g_callV (pre := []) (mid := _) (post := []) [.int 50] hX hq kw_RX1_X9_begins (c_X9_begins h2) (fun _ h => absurd h List.not_mem_nil) (by decide) (by decide) (by decide) rfl (Recv.of 0 9 rfl rfl) rfl (Nat.le_of_ble_eq_true rfl) dX1_tells_3 (fun rv ws2 hp2 => ?_))
  obtain ⟨rfl, rfl⟩ := hp2
  refine g_eqW (app1 _).symm ?_
  refine g_aloadn hX 0 rfl rfl dX1_tells_6 ?_
  refine g_aloadn hX 1 rfl rfl dX1_tells_7 ?_
  refine g_iloadn hX 2 rfl rfl dX1_tells_8 ?_
  obtain ⟨r4, S6, h5, hf⟩ := cb_open hf
  refine g_eqW (app1 _) (g_callSX (pre := []) (mid := _) (post := []) [.ref (ad 0), .int a2] hX hq kwr_RX1_23_special_1 wd_4_106 (c_R1_X6_tells h5) (fun z hz => (List.mem_singleton.mp hz) ▸ hro) (by decide) (by decide) (by decide) rfl (Recv.ro 1 hro rfl) rfl (Nat.le_of_ble_eq_true rfl) dX1_tells_9 (fun rv ws2 hp2 => ?_))
  obtain ⟨rfl, rfl⟩ := hp2
  refine g_eqW (app1 _).symm ?_
  refine g_aloadn hX 0 rfl rfl dX1_tells_12 ?_
  refine g_aloadn hX 1 rfl rfl dX1_tells_13 ?_
  refine g_iconst hX (v := 2) (by decide) dX1_tells_14 ?_
  obtain ⟨r7, S9, h8, hf⟩ := cb_open hf
  refine g_eqW (app1 _) (g_callO (pre := []) (mid := _) (post := []) [.ref (ad 0), .int 2] hX hq kwr_RX1_27_virtual_1 (c_R1_X0_says h8) (fun z hz => (List.mem_singleton.mp hz) ▸ hro) (by decide) (by decide) (by decide) rfl (Recv.ro 1 hro rfl) rfl (Nat.le_of_ble_eq_true rfl) dX1_tells_15 (fun rv ws2 hp2 => ?_))
  obtain ⟨rfl, rfl⟩ := hp2
  refine g_eqW (app1 _).symm ?_
  refine g_isub hX dX1_tells_18 ?_
  obtain rfl := oi hf
  exact g_iret hX hq (by decide) (by decide) hp dX1_tells_19
theorem c_R1_X1_tells {l : Launch} {E : En} {ad : Nat → Nat} {q : Nat} {fk fm fn : Int32} {a2 r : Int32} {S S2 : MS} (hf : f_R1_X1_tells fm fn a2 S = some (r, S2)) : CP l E yX1_tells cX1_tells 3 (some .int) 5 0 0 [(q, .inr (1, [.int fk, .int fm, .int fn]))] [.ref q, .ref (ad 0), .int a2] (tW E ad S) (fun rv w => rv = some (.int r) ∧ w = tW E ad S2) :=
  CP.of (lv := [(0, .ref q), (1, .ref (ad 0)), (2, .int a2)]) (by decide +kernel) (Nat.le_of_ble_eq_true rfl) rfl (fun X hl hE hro hX hq hn => by subst hl; subst hE; exact t_R1_X1_tells_0 (fk := fk) (by rw [hro]; exact List.mem_singleton.mpr rfl) hX hq ⟨rfl, rfl⟩ a2 S hf)
def f_R3_X6_counted (fm fn : Int32) (a1 : Int32) : Option Int32 :=
  some a1
set_option maxRecDepth 100000 in
set_option maxHeartbeats 4000000 in
theorem t_R3_X6_counted_0 {X : Cx} {q : Nat} {fk fm fn : Int32} (hro : (q, .inr (3, [.int fk, .int fm, .int fn])) ∈ X.ro) {PostX : Option Value → va_W → Prop} (hX : Ok X cX6_counted 2 RX6) (hq : Rq X 0 0 0 (some .int) PostX) {u : Int32} (hp : PostX (some (.int u)) []) (a1 : Int32) (hf : f_R3_X6_counted fm fn a1 = some u) : G X 2 0 0 0 [(0, .ref q), (1, .int a1)] [] [] := by
  unfold f_R3_X6_counted at hf
  refine g_iloadn hX 1 rfl rfl dX6_counted_0 ?_
  obtain rfl := oi hf
  exact g_iret hX hq (by decide) (by decide) hp dX6_counted_1
theorem c_R3_X6_counted {l : Launch} {E : En} {q : Nat} {fk fm fn : Int32} {a1 r : Int32} (hf : f_R3_X6_counted fm fn a1 = some r) : CP l E yX6_counted cX6_counted 2 (some .int) 0 0 0 [(q, .inr (3, [.int fk, .int fm, .int fn]))] [.ref q, .int a1] [] (fun rv w => rv = some (.int r) ∧ w = []) :=
  CP.of (lv := [(0, .ref q), (1, .int a1)]) (by decide +kernel) (Nat.le_of_ble_eq_true rfl) rfl (fun X hl hE hro hX hq hn => t_R3_X6_counted_0 (fk := fk) (by rw [hro]; exact List.mem_singleton.mpr rfl) hX hq ⟨rfl, rfl⟩ a1 hf)
def f_R3_X3_counted (fm fn : Int32) (a1 : Int32) : Option Int32 :=
  some (a1 / 2)
set_option maxRecDepth 100000 in
set_option maxHeartbeats 4000000 in
theorem t_R3_X3_counted_0 {X : Cx} {q : Nat} {fk fm fn : Int32} (hro : (q, .inr (3, [.int fk, .int fm, .int fn])) ∈ X.ro) {PostX : Option Value → va_W → Prop} (hX : Ok X cX3_counted 2 RX3) (hq : Rq X 0 0 0 (some .int) PostX) {u : Int32} (hp : PostX (some (.int u)) []) (a1 : Int32) (hf : f_R3_X3_counted fm fn a1 = some u) : G X 2 0 0 0 [(0, .ref q), (1, .int a1)] [] [] := by
  unfold f_R3_X3_counted at hf
  refine g_iloadn hX 1 rfl rfl dX3_counted_0 ?_
  refine g_iconst hX (v := 2) (by decide) dX3_counted_1 ?_
  refine g_idiv hX (by decide) dX3_counted_2 ?_
  obtain rfl := oi hf
  exact g_iret hX hq (by decide) (by decide) hp dX3_counted_3
theorem c_R3_X3_counted {l : Launch} {E : En} {q : Nat} {fk fm fn : Int32} {a1 r : Int32} (hf : f_R3_X3_counted fm fn a1 = some r) : CP l E yX3_counted cX3_counted 2 (some .int) 0 0 0 [(q, .inr (3, [.int fk, .int fm, .int fn]))] [.ref q, .int a1] [] (fun rv w => rv = some (.int r) ∧ w = []) :=
  CP.of (lv := [(0, .ref q), (1, .int a1)]) (by decide +kernel) (Nat.le_of_ble_eq_true rfl) rfl (fun X hl hE hro hX hq hn => t_R3_X3_counted_0 (fk := fk) (by rw [hro]; exact List.mem_singleton.mpr rfl) hX hq ⟨rfl, rfl⟩ a1 hf)
def f_R3_X6_credit (fm fn : Int32) (a1 : Int32) (a2 : Int32) (a3 : Int32) (a4 : Int32) : Option Int32 :=
  some a1
set_option maxRecDepth 100000 in
set_option maxHeartbeats 4000000 in
theorem t_R3_X6_credit_0 {X : Cx} {q : Nat} {fk fm fn : Int32} (hro : (q, .inr (3, [.int fk, .int fm, .int fn])) ∈ X.ro) {PostX : Option Value → va_W → Prop} (hX : Ok X cX6_credit 5 RX6) (hq : Rq X 0 0 0 (some .int) PostX) {u : Int32} (hp : PostX (some (.int u)) []) (a1 : Int32) (a2 : Int32) (a3 : Int32) (a4 : Int32) (hf : f_R3_X6_credit fm fn a1 a2 a3 a4 = some u) : G X 5 0 0 0 [(0, .ref q), (1, .int a1), (2, .int a2), (3, .int a3), (4, .int a4)] [] [] := by
  unfold f_R3_X6_credit at hf
  refine g_iloadn hX 1 rfl rfl dX6_credit_0 ?_
  obtain rfl := oi hf
  exact g_iret hX hq (by decide) (by decide) hp dX6_credit_1
theorem c_R3_X6_credit {l : Launch} {E : En} {q : Nat} {fk fm fn : Int32} {a1 a2 a3 a4 r : Int32} (hf : f_R3_X6_credit fm fn a1 a2 a3 a4 = some r) : CP l E yX6_credit cX6_credit 5 (some .int) 0 0 0 [(q, .inr (3, [.int fk, .int fm, .int fn]))] [.ref q, .int a1, .int a2, .int a3, .int a4] [] (fun rv w => rv = some (.int r) ∧ w = []) :=
  CP.of (lv := [(0, .ref q), (1, .int a1), (2, .int a2), (3, .int a3), (4, .int a4)]) (by decide +kernel) (Nat.le_of_ble_eq_true rfl) rfl (fun X hl hE hro hX hq hn => t_R3_X6_credit_0 (fk := fk) (by rw [hro]; exact List.mem_singleton.mpr rfl) hX hq ⟨rfl, rfl⟩ a1 a2 a3 a4 hf)
def f_R3_X6_says (fm fn : Int32) (a2 : Int32) (S : MS) : Option (Int32 × MS) :=
  cb (f_X9_begins 10 S) fun _ S1 =>
  some ((a2 + fn), S1)
set_option maxRecDepth 100000 in
set_option maxHeartbeats 4000000 in
theorem t_R3_X6_says_0 {X : Cx} {ad : Nat → Nat} {q : Nat} {fk fm fn : Int32} (hro : (q, .inr (3, [.int fk, .int fm, .int fn])) ∈ X.ro) {PostX : Option Value → va_W → Prop} (hX : Ok X cX6_says 3 RX6) (hq : Rq X 1 0 0 (some .int) PostX) {u : (Int32 × MS)} (hp : PostX (some (.int u.1)) (tW X.E ad u.2)) (a2 : Int32) (S : MS) (hf : f_R3_X6_says fm fn a2 S = some u) : G X 3 0 0 0 [(0, .ref q), (1, .ref (ad 0)), (2, .int a2)] [] (tW X.E ad S) := by
  unfold f_R3_X6_says at hf
  refine g_aloadn hX 1 rfl rfl dX6_says_0 ?_
  refine g_bipush hX (v := 10) (by decide) dX6_says_1 ?_
  obtain ⟨z3, S1, h2, hf⟩ := cb_open hf
  refine g_eqW (app1 _) (g_callV (pre := []) (mid := _) (post := []) [.int 10] hX hq kw_RX6_X9_begins (c_X9_begins h2) (fun _ h => absurd h List.not_mem_nil) (by decide) (by decide) (by decide) rfl (Recv.of 0 9 rfl rfl) rfl (Nat.le_of_ble_eq_true rfl) dX6_says_3 (fun rv ws2 hp2 => ?_))
  obtain ⟨rfl, rfl⟩ := hp2
  refine g_eqW (app1 _).symm ?_
  refine g_iloadn hX 2 rfl rfl dX6_says_6 ?_
  refine g_aloadn hX 0 rfl rfl dX6_says_7 ?_
  refine g_getR (C := RX3) (T := TX3) (N := 3) hX inX3 hro rfl 2 (by decide) wd_1_151 (fun _ h => h) rfl dX6_says_8 ?_
  refine g_iadd hX dX6_says_11 ?_
  obtain rfl := oi hf
  exact g_iret hX hq (by decide) (by decide) hp dX6_says_12
theorem c_R3_X6_says {l : Launch} {E : En} {ad : Nat → Nat} {q : Nat} {fk fm fn : Int32} {a2 r : Int32} {S S2 : MS} (hf : f_R3_X6_says fm fn a2 S = some (r, S2)) : CP l E yX6_says cX6_says 3 (some .int) 1 0 0 [(q, .inr (3, [.int fk, .int fm, .int fn]))] [.ref q, .ref (ad 0), .int a2] (tW E ad S) (fun rv w => rv = some (.int r) ∧ w = tW E ad S2) :=
  CP.of (lv := [(0, .ref q), (1, .ref (ad 0)), (2, .int a2)]) (by decide +kernel) (Nat.le_of_ble_eq_true rfl) rfl (fun X hl hE hro hX hq hn => by subst hl; subst hE; exact t_R3_X6_says_0 (fk := fk) (by rw [hro]; exact List.mem_singleton.mpr rfl) hX hq ⟨rfl, rfl⟩ a2 S hf)
def f_R3_X6_doubts (fm fn : Int32) (a2 : Int32) (S : MS) : Option (Int32 × MS) :=
  cb (f_X9_begins 12 S) fun _ S1 =>
  some ((a2 - fm), S1)
set_option maxRecDepth 100000 in
set_option maxHeartbeats 4000000 in
theorem t_R3_X6_doubts_0 {X : Cx} {ad : Nat → Nat} {q : Nat} {fk fm fn : Int32} (hro : (q, .inr (3, [.int fk, .int fm, .int fn])) ∈ X.ro) {PostX : Option Value → va_W → Prop} (hX : Ok X cX6_doubts 3 RX6) (hq : Rq X 1 0 0 (some .int) PostX) {u : (Int32 × MS)} (hp : PostX (some (.int u.1)) (tW X.E ad u.2)) (a2 : Int32) (S : MS) (hf : f_R3_X6_doubts fm fn a2 S = some u) : G X 3 0 0 0 [(0, .ref q), (1, .ref (ad 0)), (2, .int a2)] [] (tW X.E ad S) := by
  unfold f_R3_X6_doubts at hf
  refine g_aloadn hX 1 rfl rfl dX6_doubts_0 ?_
  refine g_bipush hX (v := 12) (by decide) dX6_doubts_1 ?_
  obtain ⟨z3, S1, h2, hf⟩ := cb_open hf
  refine g_eqW (app1 _) (g_callV (pre := []) (mid := _) (post := []) [.int 12] hX hq kw_RX6_X9_begins (c_X9_begins h2) (fun _ h => absurd h List.not_mem_nil) (by decide) (by decide) (by decide) rfl (Recv.of 0 9 rfl rfl) rfl (Nat.le_of_ble_eq_true rfl) dX6_doubts_3 (fun rv ws2 hp2 => ?_))
  obtain ⟨rfl, rfl⟩ := hp2
  refine g_eqW (app1 _).symm ?_
  refine g_iloadn hX 2 rfl rfl dX6_doubts_6 ?_
  refine g_aloadn hX 0 rfl rfl dX6_doubts_7 ?_
  refine g_getR (C := RX3) (T := TX3) (N := 3) hX inX3 hro rfl 1 (by decide) wd_1_147 (fun _ h => h) rfl dX6_doubts_8 ?_
  refine g_isub hX dX6_doubts_11 ?_
  obtain rfl := oi hf
  exact g_iret hX hq (by decide) (by decide) hp dX6_doubts_12
theorem c_R3_X6_doubts {l : Launch} {E : En} {ad : Nat → Nat} {q : Nat} {fk fm fn : Int32} {a2 r : Int32} {S S2 : MS} (hf : f_R3_X6_doubts fm fn a2 S = some (r, S2)) : CP l E yX6_doubts cX6_doubts 3 (some .int) 1 0 0 [(q, .inr (3, [.int fk, .int fm, .int fn]))] [.ref q, .ref (ad 0), .int a2] (tW E ad S) (fun rv w => rv = some (.int r) ∧ w = tW E ad S2) :=
  CP.of (lv := [(0, .ref q), (1, .ref (ad 0)), (2, .int a2)]) (by decide +kernel) (Nat.le_of_ble_eq_true rfl) rfl (fun X hl hE hro hX hq hn => by subst hl; subst hE; exact t_R3_X6_doubts_0 (fk := fk) (by rw [hro]; exact List.mem_singleton.mpr rfl) hX hq ⟨rfl, rfl⟩ a2 S hf)
theorem kwr_RX6_25_virtual_3 : KwO RX6 25 RX3 RX6 yX6_says yX6_says cX6_says 3 (some .int) 2 := ⟨mem_wsO wd_4_95 wd_4_53 wd_4_51 wd_4_63 wd_4_51 wd_1_9 wd_4_67, ⟨_, _, _, wd_4_67⟩, ⟨by decide +kernel, by decide +kernel, by decide +kernel⟩, by decide⟩
def f_R3_X6_rises (fm fn : Int32) (a2 : Int32) (S : MS) : Option (Int32 × MS) :=
  cb (f_X9_begins 11 S) fun _ S1 =>
  cb (f_R3_X6_says fm fn a2 S1) fun r4 S6 =>
  some ((r4 * 2), S6)
set_option maxRecDepth 100000 in
set_option maxHeartbeats 4000000 in
theorem t_R3_X6_rises_0 {X : Cx} {ad : Nat → Nat} {q : Nat} {fk fm fn : Int32} (hro : (q, .inr (3, [.int fk, .int fm, .int fn])) ∈ X.ro) {PostX : Option Value → va_W → Prop} (hX : Ok X cX6_rises 3 RX6) (hq : Rq X 2 0 0 (some .int) PostX) {u : (Int32 × MS)} (hp : PostX (some (.int u.1)) (tW X.E ad u.2)) (a2 : Int32) (S : MS) (hf : f_R3_X6_rises fm fn a2 S = some u) : G X 3 0 0 0 [(0, .ref q), (1, .ref (ad 0)), (2, .int a2)] [] (tW X.E ad S) := by
  unfold f_R3_X6_rises at hf
  refine g_aloadn hX 1 rfl rfl dX6_rises_0 ?_
  refine g_bipush hX (v := 11) (by decide) dX6_rises_1 ?_
  obtain ⟨z3, S1, h2, hf⟩ := cb_open hf
  refine g_eqW (app1 _) (g_callV (pre := []) (mid := _) (post := []) [.int 11] hX hq kw_RX6_X9_begins (c_X9_begins h2) (fun _ h => absurd h List.not_mem_nil) (by decide) (by decide) (by decide) rfl (Recv.of 0 9 rfl rfl) rfl (Nat.le_of_ble_eq_true rfl) dX6_rises_3 (fun rv ws2 hp2 => ?_))
  obtain ⟨rfl, rfl⟩ := hp2
  refine g_eqW (app1 _).symm ?_
  refine g_aloadn hX 0 rfl rfl dX6_rises_6 ?_
  refine g_aloadn hX 1 rfl rfl dX6_rises_7 ?_
  refine g_iloadn hX 2 rfl rfl dX6_rises_8 ?_
  obtain ⟨r4, S6, h5, hf⟩ := cb_open hf
  refine g_eqW (app1 _) (g_callO (pre := []) (mid := _) (post := []) [.ref (ad 0), .int a2] hX hq kwr_RX6_25_virtual_3 (c_R3_X6_says h5) (fun z hz => (List.mem_singleton.mp hz) ▸ hro) (by decide) (by decide) (by decide) rfl (Recv.ro 3 hro rfl) rfl (Nat.le_of_ble_eq_true rfl) dX6_rises_9 (fun rv ws2 hp2 => ?_))
  obtain ⟨rfl, rfl⟩ := hp2
  refine g_eqW (app1 _).symm ?_
  refine g_iconst hX (v := 2) (by decide) dX6_rises_12 ?_
  refine g_imul hX dX6_rises_13 ?_
  obtain rfl := oi hf
  exact g_iret hX hq (by decide) (by decide) hp dX6_rises_14
theorem c_R3_X6_rises {l : Launch} {E : En} {ad : Nat → Nat} {q : Nat} {fk fm fn : Int32} {a2 r : Int32} {S S2 : MS} (hf : f_R3_X6_rises fm fn a2 S = some (r, S2)) : CP l E yX6_rises cX6_rises 3 (some .int) 2 0 0 [(q, .inr (3, [.int fk, .int fm, .int fn]))] [.ref q, .ref (ad 0), .int a2] (tW E ad S) (fun rv w => rv = some (.int r) ∧ w = tW E ad S2) :=
  CP.of (lv := [(0, .ref q), (1, .ref (ad 0)), (2, .int a2)]) (by decide +kernel) (Nat.le_of_ble_eq_true rfl) rfl (fun X hl hE hro hX hq hn => by subst hl; subst hE; exact t_R3_X6_rises_0 (fk := fk) (by rw [hro]; exact List.mem_singleton.mpr rfl) hX hq ⟨rfl, rfl⟩ a2 S hf)
theorem kwr_RX3_13_special_3 : KwSU RX3 13 yX6_rises cX6_rises 3 (some .int) 2 := ⟨mem_wsSU wd_4_79 wd_4_72 wd_1_170 wd_4_70 wd_1_9 wd_4_94, ⟨by decide +kernel, by decide +kernel⟩, by decide⟩
theorem kwr_RX3_17_virtual_3 : KwO RX3 17 RX3 RX6 (⟨RX3, "doubts", "(LLiftCredit$Trace;I)I"⟩ : MethodName) yX6_doubts cX6_doubts 3 (some .int) 2 := ⟨mem_wsO wd_4_80 wd_4_81 wd_4_85 wd_4_83 wd_4_85 wd_1_9 wd_4_86, ⟨_, _, _, wd_4_86⟩, ⟨by decide +kernel, by decide +kernel, by decide +kernel⟩, by decide⟩
def f_R3_X3_rises (fm fn : Int32) (a2 : Int32) (S : MS) : Option (Int32 × MS) :=
  cb (f_X9_begins 30 S) fun _ S1 =>
  cb (f_R3_X6_rises fm fn a2 S1) fun r4 S6 =>
  cb (f_R3_X6_doubts fm fn 1 S6) fun r7 S9 =>
  some ((r4 - r7), S9)
set_option maxRecDepth 100000 in
set_option maxHeartbeats 4000000 in
theorem t_R3_X3_rises_0 {X : Cx} {ad : Nat → Nat} {q : Nat} {fk fm fn : Int32} (hro : (q, .inr (3, [.int fk, .int fm, .int fn])) ∈ X.ro) {PostX : Option Value → va_W → Prop} (hX : Ok X cX3_rises 3 RX3) (hq : Rq X 3 0 0 (some .int) PostX) {u : (Int32 × MS)} (hp : PostX (some (.int u.1)) (tW X.E ad u.2)) (a2 : Int32) (S : MS) (hf : f_R3_X3_rises fm fn a2 S = some u) : G X 3 0 0 0 [(0, .ref q), (1, .ref (ad 0)), (2, .int a2)] [] (tW X.E ad S) := by
  unfold f_R3_X3_rises at hf
  refine g_aloadn hX 1 rfl rfl dX3_rises_0 ?_
  refine g_bipush hX (v := 30) (by decide) dX3_rises_1 ?_
  obtain ⟨z3, S1, h2, hf⟩ := cb_open hf
  refine g_eqW (app1 _) (g_callV (pre := []) (mid := _) (post := []) [.int 30] hX hq kw_RX3_X9_begins (c_X9_begins h2) (fun _ h => absurd h List.not_mem_nil) (by decide) (by decide) (by decide) rfl (Recv.of 0 9 rfl rfl) rfl (Nat.le_of_ble_eq_true rfl) dX3_rises_3 (fun rv ws2 hp2 => ?_))
  obtain ⟨rfl, rfl⟩ := hp2
  refine g_eqW (app1 _).symm ?_
  refine g_aloadn hX 0 rfl rfl dX3_rises_6 ?_
  refine g_aloadn hX 1 rfl rfl dX3_rises_7 ?_
  refine g_iloadn hX 2 rfl rfl dX3_rises_8 ?_
  obtain ⟨r4, S6, h5, hf⟩ := cb_open hf
  refine g_eqW (app1 _) (g_callSU (pre := []) (mid := _) (post := []) [.ref (ad 0), .int a2] hX hq kwr_RX3_13_special_3 (c_R3_X6_rises h5) (fun z hz => (List.mem_singleton.mp hz) ▸ hro) (by decide) (by decide) (by decide) rfl (Recv.ro 3 hro rfl) rfl (Nat.le_of_ble_eq_true rfl) dX3_rises_9 (fun rv ws2 hp2 => ?_))
  obtain ⟨rfl, rfl⟩ := hp2
  refine g_eqW (app1 _).symm ?_
  refine g_aloadn hX 0 rfl rfl dX3_rises_12 ?_
  refine g_aloadn hX 1 rfl rfl dX3_rises_13 ?_
  refine g_iconst hX (v := 1) (by decide) dX3_rises_14 ?_
  obtain ⟨r7, S9, h8, hf⟩ := cb_open hf
  refine g_eqW (app1 _) (g_callO (pre := []) (mid := _) (post := []) [.ref (ad 0), .int 1] hX hq kwr_RX3_17_virtual_3 (c_R3_X6_doubts h8) (fun z hz => (List.mem_singleton.mp hz) ▸ hro) (by decide) (by decide) (by decide) rfl (Recv.ro 3 hro rfl) rfl (Nat.le_of_ble_eq_true rfl) dX3_rises_15 (fun rv ws2 hp2 => ?_))
  obtain ⟨rfl, rfl⟩ := hp2
  refine g_eqW (app1 _).symm ?_
  refine g_isub hX dX3_rises_18 ?_
  obtain rfl := oi hf
  exact g_iret hX hq (by decide) (by decide) hp dX3_rises_19
theorem c_R3_X3_rises {l : Launch} {E : En} {ad : Nat → Nat} {q : Nat} {fk fm fn : Int32} {a2 r : Int32} {S S2 : MS} (hf : f_R3_X3_rises fm fn a2 S = some (r, S2)) : CP l E yX3_rises cX3_rises 3 (some .int) 3 0 0 [(q, .inr (3, [.int fk, .int fm, .int fn]))] [.ref q, .ref (ad 0), .int a2] (tW E ad S) (fun rv w => rv = some (.int r) ∧ w = tW E ad S2) :=
  CP.of (lv := [(0, .ref q), (1, .ref (ad 0)), (2, .int a2)]) (by decide +kernel) (Nat.le_of_ble_eq_true rfl) rfl (fun X hl hE hro hX hq hn => by subst hl; subst hE; exact t_R3_X3_rises_0 (fk := fk) (by rw [hro]; exact List.mem_singleton.mpr rfl) hX hq ⟨rfl, rfl⟩ a2 S hf)
theorem kwr_RX6_29_virtual_3 : KwO RX6 29 RX3 RX6 yX6_rises yX3_rises cX3_rises 3 (some .int) 2 := ⟨mem_wsO wd_4_134 wd_4_72 wd_4_70 wd_4_75 wd_4_76 wd_1_11 wd_4_77, ⟨_, _, _, wd_4_94⟩, ⟨by decide +kernel, by decide +kernel, by decide +kernel⟩, by decide⟩
theorem kwr_RX6_32_virtual_3 : KwO RX6 32 RX3 RX6 yX6_doubts yX6_doubts cX6_doubts 3 (some .int) 2 := ⟨mem_wsO wd_4_135 wd_6_175 wd_4_85 wd_6_178 wd_4_85 wd_1_9 wd_4_86, ⟨_, _, _, wd_4_86⟩, ⟨by decide +kernel, by decide +kernel, by decide +kernel⟩, by decide⟩
def f_R3_X6_tells (fm fn : Int32) (a2 : Int32) (S : MS) : Option (Int32 × MS) :=
  cb (f_X9_begins 13 S) fun _ S1 =>
  cb (f_R3_X3_rises fm fn a2 S1) fun r4 S6 =>
  cb (f_R3_X6_doubts fm fn a2 S6) fun r7 S9 =>
  some ((r4 ^^^ r7), S9)
set_option maxRecDepth 100000 in
set_option maxHeartbeats 4000000 in
theorem t_R3_X6_tells_0 {X : Cx} {ad : Nat → Nat} {q : Nat} {fk fm fn : Int32} (hro : (q, .inr (3, [.int fk, .int fm, .int fn])) ∈ X.ro) {PostX : Option Value → va_W → Prop} (hX : Ok X cX6_tells 3 RX6) (hq : Rq X 4 0 0 (some .int) PostX) {u : (Int32 × MS)} (hp : PostX (some (.int u.1)) (tW X.E ad u.2)) (a2 : Int32) (S : MS) (hf : f_R3_X6_tells fm fn a2 S = some u) : G X 3 0 0 0 [(0, .ref q), (1, .ref (ad 0)), (2, .int a2)] [] (tW X.E ad S) := by
  unfold f_R3_X6_tells at hf
  refine g_aloadn hX 1 rfl rfl dX6_tells_0 ?_
  refine g_bipush hX (v := 13) (by decide) dX6_tells_1 ?_
  obtain ⟨z3, S1, h2, hf⟩ := cb_open hf
  refine g_eqW (app1 _) (g_callV (pre := []) (mid := _) (post := []) [.int 13] hX hq kw_RX6_X9_begins (c_X9_begins h2) (fun _ h => absurd h List.not_mem_nil) (by decide) (by decide) (by decide) rfl (Recv.of 0 9 rfl rfl) rfl (Nat.le_of_ble_eq_true rfl) dX6_tells_3 (fun rv ws2 hp2 => ?_))
  obtain ⟨rfl, rfl⟩ := hp2
  refine g_eqW (app1 _).symm ?_
  refine g_aloadn hX 0 rfl rfl dX6_tells_6 ?_
  refine g_aloadn hX 1 rfl rfl dX6_tells_7 ?_
  refine g_iloadn hX 2 rfl rfl dX6_tells_8 ?_
  obtain ⟨r4, S6, h5, hf⟩ := cb_open hf
  refine g_eqW (app1 _) (g_callO (pre := []) (mid := _) (post := []) [.ref (ad 0), .int a2] hX hq kwr_RX6_29_virtual_3 (c_R3_X3_rises h5) (fun z hz => (List.mem_singleton.mp hz) ▸ hro) (by decide) (by decide) (by decide) rfl (Recv.ro 3 hro rfl) rfl (Nat.le_of_ble_eq_true rfl) dX6_tells_9 (fun rv ws2 hp2 => ?_))
  obtain ⟨rfl, rfl⟩ := hp2
  refine g_eqW (app1 _).symm ?_
  refine g_aloadn hX 0 rfl rfl dX6_tells_12 ?_
  refine g_aloadn hX 1 rfl rfl dX6_tells_13 ?_
  refine g_iloadn hX 2 rfl rfl dX6_tells_14 ?_
  obtain ⟨r7, S9, h8, hf⟩ := cb_open hf
  refine g_eqW (app1 _) (g_callO (pre := []) (mid := _) (post := []) [.ref (ad 0), .int a2] hX hq kwr_RX6_32_virtual_3 (c_R3_X6_doubts h8) (fun z hz => (List.mem_singleton.mp hz) ▸ hro) (by decide) (by decide) (by decide) rfl (Recv.ro 3 hro rfl) rfl (Nat.le_of_ble_eq_true rfl) dX6_tells_15 (fun rv ws2 hp2 => ?_))
  obtain ⟨rfl, rfl⟩ := hp2
  refine g_eqW (app1 _).symm ?_
  refine g_ixor hX dX6_tells_18 ?_
  obtain rfl := oi hf
  exact g_iret hX hq (by decide) (by decide) hp dX6_tells_19
theorem c_R3_X6_tells {l : Launch} {E : En} {ad : Nat → Nat} {q : Nat} {fk fm fn : Int32} {a2 r : Int32} {S S2 : MS} (hf : f_R3_X6_tells fm fn a2 S = some (r, S2)) : CP l E yX6_tells cX6_tells 3 (some .int) 4 0 0 [(q, .inr (3, [.int fk, .int fm, .int fn]))] [.ref q, .ref (ad 0), .int a2] (tW E ad S) (fun rv w => rv = some (.int r) ∧ w = tW E ad S2) :=
  CP.of (lv := [(0, .ref q), (1, .ref (ad 0)), (2, .int a2)]) (by decide +kernel) (Nat.le_of_ble_eq_true rfl) rfl (fun X hl hE hro hX hq hn => by subst hl; subst hE; exact t_R3_X6_tells_0 (fk := fk) (by rw [hro]; exact List.mem_singleton.mpr rfl) hX hq ⟨rfl, rfl⟩ a2 S hf)
def f_R5_X6_counted (fm fn : Int32) (a1 : Int32) : Option Int32 :=
  some a1
set_option maxRecDepth 100000 in
set_option maxHeartbeats 4000000 in
theorem t_R5_X6_counted_0 {X : Cx} {q : Nat} {fk fm fn : Int32} (hro : (q, .inr (5, [.int fk, .int fm, .int fn])) ∈ X.ro) {PostX : Option Value → va_W → Prop} (hX : Ok X cX6_counted 2 RX6) (hq : Rq X 0 0 0 (some .int) PostX) {u : Int32} (hp : PostX (some (.int u)) []) (a1 : Int32) (hf : f_R5_X6_counted fm fn a1 = some u) : G X 2 0 0 0 [(0, .ref q), (1, .int a1)] [] [] := by
  unfold f_R5_X6_counted at hf
  refine g_iloadn hX 1 rfl rfl dX6_counted_0 ?_
  obtain rfl := oi hf
  exact g_iret hX hq (by decide) (by decide) hp dX6_counted_1
theorem c_R5_X6_counted {l : Launch} {E : En} {q : Nat} {fk fm fn : Int32} {a1 r : Int32} (hf : f_R5_X6_counted fm fn a1 = some r) : CP l E yX6_counted cX6_counted 2 (some .int) 0 0 0 [(q, .inr (5, [.int fk, .int fm, .int fn]))] [.ref q, .int a1] [] (fun rv w => rv = some (.int r) ∧ w = []) :=
  CP.of (lv := [(0, .ref q), (1, .int a1)]) (by decide +kernel) (Nat.le_of_ble_eq_true rfl) rfl (fun X hl hE hro hX hq hn => t_R5_X6_counted_0 (fk := fk) (by rw [hro]; exact List.mem_singleton.mpr rfl) hX hq ⟨rfl, rfl⟩ a1 hf)
def f_R5_X3_counted (fm fn : Int32) (a1 : Int32) : Option Int32 :=
  some (a1 / 2)
set_option maxRecDepth 100000 in
set_option maxHeartbeats 4000000 in
theorem t_R5_X3_counted_0 {X : Cx} {q : Nat} {fk fm fn : Int32} (hro : (q, .inr (5, [.int fk, .int fm, .int fn])) ∈ X.ro) {PostX : Option Value → va_W → Prop} (hX : Ok X cX3_counted 2 RX3) (hq : Rq X 0 0 0 (some .int) PostX) {u : Int32} (hp : PostX (some (.int u)) []) (a1 : Int32) (hf : f_R5_X3_counted fm fn a1 = some u) : G X 2 0 0 0 [(0, .ref q), (1, .int a1)] [] [] := by
  unfold f_R5_X3_counted at hf
  refine g_iloadn hX 1 rfl rfl dX3_counted_0 ?_
  refine g_iconst hX (v := 2) (by decide) dX3_counted_1 ?_
  refine g_idiv hX (by decide) dX3_counted_2 ?_
  obtain rfl := oi hf
  exact g_iret hX hq (by decide) (by decide) hp dX3_counted_3
theorem c_R5_X3_counted {l : Launch} {E : En} {q : Nat} {fk fm fn : Int32} {a1 r : Int32} (hf : f_R5_X3_counted fm fn a1 = some r) : CP l E yX3_counted cX3_counted 2 (some .int) 0 0 0 [(q, .inr (5, [.int fk, .int fm, .int fn]))] [.ref q, .int a1] [] (fun rv w => rv = some (.int r) ∧ w = []) :=
  CP.of (lv := [(0, .ref q), (1, .int a1)]) (by decide +kernel) (Nat.le_of_ble_eq_true rfl) rfl (fun X hl hE hro hX hq hn => t_R5_X3_counted_0 (fk := fk) (by rw [hro]; exact List.mem_singleton.mpr rfl) hX hq ⟨rfl, rfl⟩ a1 hf)
def f_R5_X6_credit (fm fn : Int32) (a1 : Int32) (a2 : Int32) (a3 : Int32) (a4 : Int32) : Option Int32 :=
  some a1
set_option maxRecDepth 100000 in
set_option maxHeartbeats 4000000 in
theorem t_R5_X6_credit_0 {X : Cx} {q : Nat} {fk fm fn : Int32} (hro : (q, .inr (5, [.int fk, .int fm, .int fn])) ∈ X.ro) {PostX : Option Value → va_W → Prop} (hX : Ok X cX6_credit 5 RX6) (hq : Rq X 0 0 0 (some .int) PostX) {u : Int32} (hp : PostX (some (.int u)) []) (a1 : Int32) (a2 : Int32) (a3 : Int32) (a4 : Int32) (hf : f_R5_X6_credit fm fn a1 a2 a3 a4 = some u) : G X 5 0 0 0 [(0, .ref q), (1, .int a1), (2, .int a2), (3, .int a3), (4, .int a4)] [] [] := by
  unfold f_R5_X6_credit at hf
  refine g_iloadn hX 1 rfl rfl dX6_credit_0 ?_
  obtain rfl := oi hf
  exact g_iret hX hq (by decide) (by decide) hp dX6_credit_1
theorem c_R5_X6_credit {l : Launch} {E : En} {q : Nat} {fk fm fn : Int32} {a1 a2 a3 a4 r : Int32} (hf : f_R5_X6_credit fm fn a1 a2 a3 a4 = some r) : CP l E yX6_credit cX6_credit 5 (some .int) 0 0 0 [(q, .inr (5, [.int fk, .int fm, .int fn]))] [.ref q, .int a1, .int a2, .int a3, .int a4] [] (fun rv w => rv = some (.int r) ∧ w = []) :=
  CP.of (lv := [(0, .ref q), (1, .int a1), (2, .int a2), (3, .int a3), (4, .int a4)]) (by decide +kernel) (Nat.le_of_ble_eq_true rfl) rfl (fun X hl hE hro hX hq hn => t_R5_X6_credit_0 (fk := fk) (by rw [hro]; exact List.mem_singleton.mpr rfl) hX hq ⟨rfl, rfl⟩ a1 a2 a3 a4 hf)
theorem kwr_RX5_7_special_5 : KwSX RX5 7 (⟨RX3, "credit", "(IIII)I"⟩ : MethodName) yX6_credit cX6_credit 5 (some .int) 4 := ⟨⟨wd_3_84, wd_3_85, wd_1_200, wd_1_170, wd_1_9, wd_3_94⟩, rfl, ⟨by decide +kernel, by decide +kernel⟩, by decide⟩
def f_R5_X5_credit (fm fn : Int32) (a1 : Int32) (a2 : Int32) (a3 : Int32) (a4 : Int32) : Option Int32 :=
  cs (f_R5_X6_credit fm fn a1 a2 a3 a4) fun r1 =>
  some (r1 + a4)
set_option maxRecDepth 100000 in
set_option maxHeartbeats 4000000 in
theorem t_R5_X5_credit_0 {X : Cx} {q : Nat} {fk fm fn : Int32} (hro : (q, .inr (5, [.int fk, .int fm, .int fn])) ∈ X.ro) {PostX : Option Value → va_W → Prop} (hX : Ok X cX5_credit 5 RX5) (hq : Rq X 1 0 0 (some .int) PostX) {u : Int32} (hp : PostX (some (.int u)) []) (a1 : Int32) (a2 : Int32) (a3 : Int32) (a4 : Int32) (hf : f_R5_X5_credit fm fn a1 a2 a3 a4 = some u) : G X 5 0 0 0 [(0, .ref q), (1, .int a1), (2, .int a2), (3, .int a3), (4, .int a4)] [] [] := by
  unfold f_R5_X5_credit at hf
  refine g_aloadn hX 0 rfl rfl dX5_credit_0 ?_
  refine g_iloadn hX 1 rfl rfl dX5_credit_1 ?_
  refine g_iloadn hX 2 rfl rfl dX5_credit_2 ?_
  refine g_iloadn hX 3 rfl rfl dX5_credit_3 ?_
  refine g_iload hX 4 rfl dX5_credit_4 ?_
  obtain ⟨r1, h2, hf⟩ := cs_open hf
  refine g_eqW (app0 _) (g_callSX (pre := _) (mid := []) (post := []) [.int a1, .int a2, .int a3, .int a4] hX hq kwr_RX5_7_special_5 wd_3_69 (c_R5_X6_credit h2) (fun z hz => (List.mem_singleton.mp hz) ▸ hro) (by decide) (by decide) (by decide) rfl (Recv.ro 5 hro rfl) rfl (Nat.le_of_ble_eq_true rfl) dX5_credit_6 (fun rv ws2 hp2 => ?_))
  obtain ⟨rfl, rfl⟩ := hp2
  refine g_eqW (app0 _).symm ?_
  refine g_iload hX 4 rfl dX5_credit_9 ?_
  refine g_iadd hX dX5_credit_11 ?_
  obtain rfl := oi hf
  exact g_iret hX hq (by decide) (by decide) hp dX5_credit_12
theorem c_R5_X5_credit {l : Launch} {E : En} {q : Nat} {fk fm fn : Int32} {a1 a2 a3 a4 r : Int32} (hf : f_R5_X5_credit fm fn a1 a2 a3 a4 = some r) : CP l E yX5_credit cX5_credit 5 (some .int) 1 0 0 [(q, .inr (5, [.int fk, .int fm, .int fn]))] [.ref q, .int a1, .int a2, .int a3, .int a4] [] (fun rv w => rv = some (.int r) ∧ w = []) :=
  CP.of (lv := [(0, .ref q), (1, .int a1), (2, .int a2), (3, .int a3), (4, .int a4)]) (by decide +kernel) (Nat.le_of_ble_eq_true rfl) rfl (fun X hl hE hro hX hq hn => t_R5_X5_credit_0 (fk := fk) (by rw [hro]; exact List.mem_singleton.mpr rfl) hX hq ⟨rfl, rfl⟩ a1 a2 a3 a4 hf)
def f_R5_X6_says (fm fn : Int32) (a2 : Int32) (S : MS) : Option (Int32 × MS) :=
  cb (f_X9_begins 10 S) fun _ S1 =>
  some ((a2 + fn), S1)
set_option maxRecDepth 100000 in
set_option maxHeartbeats 4000000 in
theorem t_R5_X6_says_0 {X : Cx} {ad : Nat → Nat} {q : Nat} {fk fm fn : Int32} (hro : (q, .inr (5, [.int fk, .int fm, .int fn])) ∈ X.ro) {PostX : Option Value → va_W → Prop} (hX : Ok X cX6_says 3 RX6) (hq : Rq X 1 0 0 (some .int) PostX) {u : (Int32 × MS)} (hp : PostX (some (.int u.1)) (tW X.E ad u.2)) (a2 : Int32) (S : MS) (hf : f_R5_X6_says fm fn a2 S = some u) : G X 3 0 0 0 [(0, .ref q), (1, .ref (ad 0)), (2, .int a2)] [] (tW X.E ad S) := by
  unfold f_R5_X6_says at hf
  refine g_aloadn hX 1 rfl rfl dX6_says_0 ?_
  refine g_bipush hX (v := 10) (by decide) dX6_says_1 ?_
  obtain ⟨z3, S1, h2, hf⟩ := cb_open hf
  refine g_eqW (app1 _) (g_callV (pre := []) (mid := _) (post := []) [.int 10] hX hq kw_RX6_X9_begins (c_X9_begins h2) (fun _ h => absurd h List.not_mem_nil) (by decide) (by decide) (by decide) rfl (Recv.of 0 9 rfl rfl) rfl (Nat.le_of_ble_eq_true rfl) dX6_says_3 (fun rv ws2 hp2 => ?_))
  obtain ⟨rfl, rfl⟩ := hp2
  refine g_eqW (app1 _).symm ?_
  refine g_iloadn hX 2 rfl rfl dX6_says_6 ?_
  refine g_aloadn hX 0 rfl rfl dX6_says_7 ?_
  refine g_getR (C := RX5) (T := TX5) (N := 3) hX inX5 hro rfl 2 (by decide) wd_1_151 (fun _ h => h) rfl dX6_says_8 ?_
  refine g_iadd hX dX6_says_11 ?_
  obtain rfl := oi hf
  exact g_iret hX hq (by decide) (by decide) hp dX6_says_12
theorem c_R5_X6_says {l : Launch} {E : En} {ad : Nat → Nat} {q : Nat} {fk fm fn : Int32} {a2 r : Int32} {S S2 : MS} (hf : f_R5_X6_says fm fn a2 S = some (r, S2)) : CP l E yX6_says cX6_says 3 (some .int) 1 0 0 [(q, .inr (5, [.int fk, .int fm, .int fn]))] [.ref q, .ref (ad 0), .int a2] (tW E ad S) (fun rv w => rv = some (.int r) ∧ w = tW E ad S2) :=
  CP.of (lv := [(0, .ref q), (1, .ref (ad 0)), (2, .int a2)]) (by decide +kernel) (Nat.le_of_ble_eq_true rfl) rfl (fun X hl hE hro hX hq hn => by subst hl; subst hE; exact t_R5_X6_says_0 (fk := fk) (by rw [hro]; exact List.mem_singleton.mpr rfl) hX hq ⟨rfl, rfl⟩ a2 S hf)
def f_R5_X6_doubts (fm fn : Int32) (a2 : Int32) (S : MS) : Option (Int32 × MS) :=
  cb (f_X9_begins 12 S) fun _ S1 =>
  some ((a2 - fm), S1)
set_option maxRecDepth 100000 in
set_option maxHeartbeats 4000000 in
theorem t_R5_X6_doubts_0 {X : Cx} {ad : Nat → Nat} {q : Nat} {fk fm fn : Int32} (hro : (q, .inr (5, [.int fk, .int fm, .int fn])) ∈ X.ro) {PostX : Option Value → va_W → Prop} (hX : Ok X cX6_doubts 3 RX6) (hq : Rq X 1 0 0 (some .int) PostX) {u : (Int32 × MS)} (hp : PostX (some (.int u.1)) (tW X.E ad u.2)) (a2 : Int32) (S : MS) (hf : f_R5_X6_doubts fm fn a2 S = some u) : G X 3 0 0 0 [(0, .ref q), (1, .ref (ad 0)), (2, .int a2)] [] (tW X.E ad S) := by
  unfold f_R5_X6_doubts at hf
  refine g_aloadn hX 1 rfl rfl dX6_doubts_0 ?_
  refine g_bipush hX (v := 12) (by decide) dX6_doubts_1 ?_
  obtain ⟨z3, S1, h2, hf⟩ := cb_open hf
  refine g_eqW (app1 _) (g_callV (pre := []) (mid := _) (post := []) [.int 12] hX hq kw_RX6_X9_begins (c_X9_begins h2) (fun _ h => absurd h List.not_mem_nil) (by decide) (by decide) (by decide) rfl (Recv.of 0 9 rfl rfl) rfl (Nat.le_of_ble_eq_true rfl) dX6_doubts_3 (fun rv ws2 hp2 => ?_))
  obtain ⟨rfl, rfl⟩ := hp2
  refine g_eqW (app1 _).symm ?_
  refine g_iloadn hX 2 rfl rfl dX6_doubts_6 ?_
  refine g_aloadn hX 0 rfl rfl dX6_doubts_7 ?_
  refine g_getR (C := RX5) (T := TX5) (N := 3) hX inX5 hro rfl 1 (by decide) wd_1_147 (fun _ h => h) rfl dX6_doubts_8 ?_
  refine g_isub hX dX6_doubts_11 ?_
  obtain rfl := oi hf
  exact g_iret hX hq (by decide) (by decide) hp dX6_doubts_12
theorem c_R5_X6_doubts {l : Launch} {E : En} {ad : Nat → Nat} {q : Nat} {fk fm fn : Int32} {a2 r : Int32} {S S2 : MS} (hf : f_R5_X6_doubts fm fn a2 S = some (r, S2)) : CP l E yX6_doubts cX6_doubts 3 (some .int) 1 0 0 [(q, .inr (5, [.int fk, .int fm, .int fn]))] [.ref q, .ref (ad 0), .int a2] (tW E ad S) (fun rv w => rv = some (.int r) ∧ w = tW E ad S2) :=
  CP.of (lv := [(0, .ref q), (1, .ref (ad 0)), (2, .int a2)]) (by decide +kernel) (Nat.le_of_ble_eq_true rfl) rfl (fun X hl hE hro hX hq hn => by subst hl; subst hE; exact t_R5_X6_doubts_0 (fk := fk) (by rw [hro]; exact List.mem_singleton.mpr rfl) hX hq ⟨rfl, rfl⟩ a2 S hf)
theorem kwr_RX6_25_virtual_5 : KwO RX6 25 RX5 RX6 yX6_says yX6_says cX6_says 3 (some .int) 2 := ⟨mem_wsO wd_4_95 wd_4_53 wd_4_51 wd_4_64 wd_4_51 wd_1_9 wd_4_67, ⟨_, _, _, wd_4_67⟩, ⟨by decide +kernel, by decide +kernel, by decide +kernel⟩, by decide⟩
def f_R5_X6_rises (fm fn : Int32) (a2 : Int32) (S : MS) : Option (Int32 × MS) :=
  cb (f_X9_begins 11 S) fun _ S1 =>
  cb (f_R5_X6_says fm fn a2 S1) fun r4 S6 =>
  some ((r4 * 2), S6)
set_option maxRecDepth 100000 in
set_option maxHeartbeats 4000000 in
theorem t_R5_X6_rises_0 {X : Cx} {ad : Nat → Nat} {q : Nat} {fk fm fn : Int32} (hro : (q, .inr (5, [.int fk, .int fm, .int fn])) ∈ X.ro) {PostX : Option Value → va_W → Prop} (hX : Ok X cX6_rises 3 RX6) (hq : Rq X 2 0 0 (some .int) PostX) {u : (Int32 × MS)} (hp : PostX (some (.int u.1)) (tW X.E ad u.2)) (a2 : Int32) (S : MS) (hf : f_R5_X6_rises fm fn a2 S = some u) : G X 3 0 0 0 [(0, .ref q), (1, .ref (ad 0)), (2, .int a2)] [] (tW X.E ad S) := by
  unfold f_R5_X6_rises at hf
  refine g_aloadn hX 1 rfl rfl dX6_rises_0 ?_
  refine g_bipush hX (v := 11) (by decide) dX6_rises_1 ?_
  obtain ⟨z3, S1, h2, hf⟩ := cb_open hf
  refine g_eqW (app1 _) (g_callV (pre := []) (mid := _) (post := []) [.int 11] hX hq kw_RX6_X9_begins (c_X9_begins h2) (fun _ h => absurd h List.not_mem_nil) (by decide) (by decide) (by decide) rfl (Recv.of 0 9 rfl rfl) rfl (Nat.le_of_ble_eq_true rfl) dX6_rises_3 (fun rv ws2 hp2 => ?_))
  obtain ⟨rfl, rfl⟩ := hp2
  refine g_eqW (app1 _).symm ?_
  refine g_aloadn hX 0 rfl rfl dX6_rises_6 ?_
  refine g_aloadn hX 1 rfl rfl dX6_rises_7 ?_
  refine g_iloadn hX 2 rfl rfl dX6_rises_8 ?_
  obtain ⟨r4, S6, h5, hf⟩ := cb_open hf
  refine g_eqW (app1 _) (g_callO (pre := []) (mid := _) (post := []) [.ref (ad 0), .int a2] hX hq kwr_RX6_25_virtual_5 (c_R5_X6_says h5) (fun z hz => (List.mem_singleton.mp hz) ▸ hro) (by decide) (by decide) (by decide) rfl (Recv.ro 5 hro rfl) rfl (Nat.le_of_ble_eq_true rfl) dX6_rises_9 (fun rv ws2 hp2 => ?_))
  obtain ⟨rfl, rfl⟩ := hp2
  refine g_eqW (app1 _).symm ?_
  refine g_iconst hX (v := 2) (by decide) dX6_rises_12 ?_
  refine g_imul hX dX6_rises_13 ?_
  obtain rfl := oi hf
  exact g_iret hX hq (by decide) (by decide) hp dX6_rises_14
theorem c_R5_X6_rises {l : Launch} {E : En} {ad : Nat → Nat} {q : Nat} {fk fm fn : Int32} {a2 r : Int32} {S S2 : MS} (hf : f_R5_X6_rises fm fn a2 S = some (r, S2)) : CP l E yX6_rises cX6_rises 3 (some .int) 2 0 0 [(q, .inr (5, [.int fk, .int fm, .int fn]))] [.ref q, .ref (ad 0), .int a2] (tW E ad S) (fun rv w => rv = some (.int r) ∧ w = tW E ad S2) :=
  CP.of (lv := [(0, .ref q), (1, .ref (ad 0)), (2, .int a2)]) (by decide +kernel) (Nat.le_of_ble_eq_true rfl) rfl (fun X hl hE hro hX hq hn => by subst hl; subst hE; exact t_R5_X6_rises_0 (fk := fk) (by rw [hro]; exact List.mem_singleton.mpr rfl) hX hq ⟨rfl, rfl⟩ a2 S hf)
theorem kwr_RX3_13_special_5 : KwSU RX3 13 yX6_rises cX6_rises 3 (some .int) 2 := ⟨mem_wsSU wd_4_79 wd_4_72 wd_1_170 wd_4_70 wd_1_9 wd_4_94, ⟨by decide +kernel, by decide +kernel⟩, by decide⟩
theorem kwr_RX3_17_virtual_5 : KwO RX3 17 RX5 RX6 (⟨RX3, "doubts", "(LLiftCredit$Trace;I)I"⟩ : MethodName) yX6_doubts cX6_doubts 3 (some .int) 2 := ⟨mem_wsO wd_4_80 wd_4_81 wd_4_85 wd_4_84 wd_4_85 wd_1_9 wd_4_86, ⟨_, _, _, wd_4_86⟩, ⟨by decide +kernel, by decide +kernel, by decide +kernel⟩, by decide⟩
def f_R5_X3_rises (fm fn : Int32) (a2 : Int32) (S : MS) : Option (Int32 × MS) :=
  cb (f_X9_begins 30 S) fun _ S1 =>
  cb (f_R5_X6_rises fm fn a2 S1) fun r4 S6 =>
  cb (f_R5_X6_doubts fm fn 1 S6) fun r7 S9 =>
  some ((r4 - r7), S9)
set_option maxRecDepth 100000 in
set_option maxHeartbeats 4000000 in
theorem t_R5_X3_rises_0 {X : Cx} {ad : Nat → Nat} {q : Nat} {fk fm fn : Int32} (hro : (q, .inr (5, [.int fk, .int fm, .int fn])) ∈ X.ro) {PostX : Option Value → va_W → Prop} (hX : Ok X cX3_rises 3 RX3) (hq : Rq X 3 0 0 (some .int) PostX) {u : (Int32 × MS)} (hp : PostX (some (.int u.1)) (tW X.E ad u.2)) (a2 : Int32) (S : MS) (hf : f_R5_X3_rises fm fn a2 S = some u) : G X 3 0 0 0 [(0, .ref q), (1, .ref (ad 0)), (2, .int a2)] [] (tW X.E ad S) := by
  unfold f_R5_X3_rises at hf
  refine g_aloadn hX 1 rfl rfl dX3_rises_0 ?_
  refine g_bipush hX (v := 30) (by decide) dX3_rises_1 ?_
  obtain ⟨z3, S1, h2, hf⟩ := cb_open hf
  refine g_eqW (app1 _) (g_callV (pre := []) (mid := _) (post := []) [.int 30] hX hq kw_RX3_X9_begins (c_X9_begins h2) (fun _ h => absurd h List.not_mem_nil) (by decide) (by decide) (by decide) rfl (Recv.of 0 9 rfl rfl) rfl (Nat.le_of_ble_eq_true rfl) dX3_rises_3 (fun rv ws2 hp2 => ?_))
  obtain ⟨rfl, rfl⟩ := hp2
  refine g_eqW (app1 _).symm ?_
  refine g_aloadn hX 0 rfl rfl dX3_rises_6 ?_
  refine g_aloadn hX 1 rfl rfl dX3_rises_7 ?_
  refine g_iloadn hX 2 rfl rfl dX3_rises_8 ?_
  obtain ⟨r4, S6, h5, hf⟩ := cb_open hf
  refine g_eqW (app1 _) (g_callSU (pre := []) (mid := _) (post := []) [.ref (ad 0), .int a2] hX hq kwr_RX3_13_special_5 (c_R5_X6_rises h5) (fun z hz => (List.mem_singleton.mp hz) ▸ hro) (by decide) (by decide) (by decide) rfl (Recv.ro 5 hro rfl) rfl (Nat.le_of_ble_eq_true rfl) dX3_rises_9 (fun rv ws2 hp2 => ?_))
  obtain ⟨rfl, rfl⟩ := hp2
  refine g_eqW (app1 _).symm ?_
  refine g_aloadn hX 0 rfl rfl dX3_rises_12 ?_
  refine g_aloadn hX 1 rfl rfl dX3_rises_13 ?_
  refine g_iconst hX (v := 1) (by decide) dX3_rises_14 ?_
  obtain ⟨r7, S9, h8, hf⟩ := cb_open hf
  refine g_eqW (app1 _) (g_callO (pre := []) (mid := _) (post := []) [.ref (ad 0), .int 1] hX hq kwr_RX3_17_virtual_5 (c_R5_X6_doubts h8) (fun z hz => (List.mem_singleton.mp hz) ▸ hro) (by decide) (by decide) (by decide) rfl (Recv.ro 5 hro rfl) rfl (Nat.le_of_ble_eq_true rfl) dX3_rises_15 (fun rv ws2 hp2 => ?_))
  obtain ⟨rfl, rfl⟩ := hp2
  refine g_eqW (app1 _).symm ?_
  refine g_isub hX dX3_rises_18 ?_
  obtain rfl := oi hf
  exact g_iret hX hq (by decide) (by decide) hp dX3_rises_19
theorem c_R5_X3_rises {l : Launch} {E : En} {ad : Nat → Nat} {q : Nat} {fk fm fn : Int32} {a2 r : Int32} {S S2 : MS} (hf : f_R5_X3_rises fm fn a2 S = some (r, S2)) : CP l E yX3_rises cX3_rises 3 (some .int) 3 0 0 [(q, .inr (5, [.int fk, .int fm, .int fn]))] [.ref q, .ref (ad 0), .int a2] (tW E ad S) (fun rv w => rv = some (.int r) ∧ w = tW E ad S2) :=
  CP.of (lv := [(0, .ref q), (1, .ref (ad 0)), (2, .int a2)]) (by decide +kernel) (Nat.le_of_ble_eq_true rfl) rfl (fun X hl hE hro hX hq hn => by subst hl; subst hE; exact t_R5_X3_rises_0 (fk := fk) (by rw [hro]; exact List.mem_singleton.mpr rfl) hX hq ⟨rfl, rfl⟩ a2 S hf)
theorem kwr_RX5_17_special_5 : KwSU RX5 17 yX3_rises cX3_rises 3 (some .int) 2 := ⟨mem_wsSU wd_4_91 wd_6_174 wd_1_200 wd_4_76 wd_1_11 wd_4_77, ⟨by decide +kernel, by decide +kernel⟩, by decide⟩
def f_R5_X5_rises (fm fn : Int32) (a2 : Int32) (S : MS) : Option (Int32 × MS) :=
  cb (f_X9_begins 60 S) fun _ S1 =>
  cb (f_R5_X3_rises fm fn (a2 + 1) S1) fun r4 S6 =>
  some (r4, S6)
set_option maxRecDepth 100000 in
set_option maxHeartbeats 4000000 in
theorem t_R5_X5_rises_0 {X : Cx} {ad : Nat → Nat} {q : Nat} {fk fm fn : Int32} (hro : (q, .inr (5, [.int fk, .int fm, .int fn])) ∈ X.ro) {PostX : Option Value → va_W → Prop} (hX : Ok X cX5_rises 3 RX5) (hq : Rq X 4 0 0 (some .int) PostX) {u : (Int32 × MS)} (hp : PostX (some (.int u.1)) (tW X.E ad u.2)) (a2 : Int32) (S : MS) (hf : f_R5_X5_rises fm fn a2 S = some u) : G X 3 0 0 0 [(0, .ref q), (1, .ref (ad 0)), (2, .int a2)] [] (tW X.E ad S) := by
  unfold f_R5_X5_rises at hf
  refine g_aloadn hX 1 rfl rfl dX5_rises_0 ?_
  refine g_bipush hX (v := 60) (by decide) dX5_rises_1 ?_
  obtain ⟨z3, S1, h2, hf⟩ := cb_open hf
  refine g_eqW (app1 _) (g_callV (pre := []) (mid := _) (post := []) [.int 60] hX hq kw_RX5_X9_begins (c_X9_begins h2) (fun _ h => absurd h List.not_mem_nil) (by decide) (by decide) (by decide) rfl (Recv.of 0 9 rfl rfl) rfl (Nat.le_of_ble_eq_true rfl) dX5_rises_3 (fun rv ws2 hp2 => ?_))
  obtain ⟨rfl, rfl⟩ := hp2
  refine g_eqW (app1 _).symm ?_
  refine g_aloadn hX 0 rfl rfl dX5_rises_6 ?_
  refine g_aloadn hX 1 rfl rfl dX5_rises_7 ?_
  refine g_iloadn hX 2 rfl rfl dX5_rises_8 ?_
  refine g_iconst hX (v := 1) (by decide) dX5_rises_9 ?_
  refine g_iadd hX dX5_rises_10 ?_
  obtain ⟨r4, S6, h5, hf⟩ := cb_open hf
  refine g_eqW (app1 _) (g_callSU (pre := []) (mid := _) (post := []) [.ref (ad 0), .int (a2 + 1)] hX hq kwr_RX5_17_special_5 (c_R5_X3_rises h5) (fun z hz => (List.mem_singleton.mp hz) ▸ hro) (by decide) (by decide) (by decide) rfl (Recv.ro 5 hro rfl) rfl (Nat.le_of_ble_eq_true rfl) dX5_rises_11 (fun rv ws2 hp2 => ?_))
  obtain ⟨rfl, rfl⟩ := hp2
  refine g_eqW (app1 _).symm ?_
  obtain rfl := oi hf
  exact g_iret hX hq (by decide) (by decide) hp dX5_rises_14
theorem c_R5_X5_rises {l : Launch} {E : En} {ad : Nat → Nat} {q : Nat} {fk fm fn : Int32} {a2 r : Int32} {S S2 : MS} (hf : f_R5_X5_rises fm fn a2 S = some (r, S2)) : CP l E yX5_rises cX5_rises 3 (some .int) 4 0 0 [(q, .inr (5, [.int fk, .int fm, .int fn]))] [.ref q, .ref (ad 0), .int a2] (tW E ad S) (fun rv w => rv = some (.int r) ∧ w = tW E ad S2) :=
  CP.of (lv := [(0, .ref q), (1, .ref (ad 0)), (2, .int a2)]) (by decide +kernel) (Nat.le_of_ble_eq_true rfl) rfl (fun X hl hE hro hX hq hn => by subst hl; subst hE; exact t_R5_X5_rises_0 (fk := fk) (by rw [hro]; exact List.mem_singleton.mpr rfl) hX hq ⟨rfl, rfl⟩ a2 S hf)
theorem kwr_RX6_29_virtual_5 : KwO RX6 29 RX5 RX6 yX6_rises yX5_rises cX5_rises 3 (some .int) 2 := ⟨mem_wsO wd_4_134 wd_4_72 wd_4_70 wd_4_87 wd_4_88 wd_1_14 wd_4_89, ⟨_, _, _, wd_4_94⟩, ⟨by decide +kernel, by decide +kernel, by decide +kernel⟩, by decide⟩
theorem kwr_RX6_32_virtual_5 : KwO RX6 32 RX5 RX6 yX6_doubts yX6_doubts cX6_doubts 3 (some .int) 2 := ⟨mem_wsO wd_4_135 wd_6_175 wd_4_85 wd_6_179 wd_4_85 wd_1_9 wd_4_86, ⟨_, _, _, wd_4_86⟩, ⟨by decide +kernel, by decide +kernel, by decide +kernel⟩, by decide⟩
def f_R5_X6_tells (fm fn : Int32) (a2 : Int32) (S : MS) : Option (Int32 × MS) :=
  cb (f_X9_begins 13 S) fun _ S1 =>
  cb (f_R5_X5_rises fm fn a2 S1) fun r4 S6 =>
  cb (f_R5_X6_doubts fm fn a2 S6) fun r7 S9 =>
  some ((r4 ^^^ r7), S9)
set_option maxRecDepth 100000 in
set_option maxHeartbeats 4000000 in
theorem t_R5_X6_tells_0 {X : Cx} {ad : Nat → Nat} {q : Nat} {fk fm fn : Int32} (hro : (q, .inr (5, [.int fk, .int fm, .int fn])) ∈ X.ro) {PostX : Option Value → va_W → Prop} (hX : Ok X cX6_tells 3 RX6) (hq : Rq X 5 0 0 (some .int) PostX) {u : (Int32 × MS)} (hp : PostX (some (.int u.1)) (tW X.E ad u.2)) (a2 : Int32) (S : MS) (hf : f_R5_X6_tells fm fn a2 S = some u) : G X 3 0 0 0 [(0, .ref q), (1, .ref (ad 0)), (2, .int a2)] [] (tW X.E ad S) := by
  unfold f_R5_X6_tells at hf
  refine g_aloadn hX 1 rfl rfl dX6_tells_0 ?_
  refine g_bipush hX (v := 13) (by decide) dX6_tells_1 ?_
  obtain ⟨z3, S1, h2, hf⟩ := cb_open hf
  refine g_eqW (app1 _) (g_callV (pre := []) (mid := _) (post := []) [.int 13] hX hq kw_RX6_X9_begins (c_X9_begins h2) (fun _ h => absurd h List.not_mem_nil) (by decide) (by decide) (by decide) rfl (Recv.of 0 9 rfl rfl) rfl (Nat.le_of_ble_eq_true rfl) dX6_tells_3 (fun rv ws2 hp2 => ?_))
  obtain ⟨rfl, rfl⟩ := hp2
  refine g_eqW (app1 _).symm ?_
  refine g_aloadn hX 0 rfl rfl dX6_tells_6 ?_
  refine g_aloadn hX 1 rfl rfl dX6_tells_7 ?_
  refine g_iloadn hX 2 rfl rfl dX6_tells_8 ?_
  obtain ⟨r4, S6, h5, hf⟩ := cb_open hf
  refine g_eqW (app1 _) (g_callO (pre := []) (mid := _) (post := []) [.ref (ad 0), .int a2] hX hq kwr_RX6_29_virtual_5 (c_R5_X5_rises h5) (fun z hz => (List.mem_singleton.mp hz) ▸ hro) (by decide) (by decide) (by decide) rfl (Recv.ro 5 hro rfl) rfl (Nat.le_of_ble_eq_true rfl) dX6_tells_9 (fun rv ws2 hp2 => ?_))
  obtain ⟨rfl, rfl⟩ := hp2
  refine g_eqW (app1 _).symm ?_
  refine g_aloadn hX 0 rfl rfl dX6_tells_12 ?_
  refine g_aloadn hX 1 rfl rfl dX6_tells_13 ?_
  refine g_iloadn hX 2 rfl rfl dX6_tells_14 ?_
  obtain ⟨r7, S9, h8, hf⟩ := cb_open hf
  refine g_eqW (app1 _) (g_callO (pre := []) (mid := _) (post := []) [.ref (ad 0), .int a2] hX hq kwr_RX6_32_virtual_5 (c_R5_X6_doubts h8) (fun z hz => (List.mem_singleton.mp hz) ▸ hro) (by decide) (by decide) (by decide) rfl (Recv.ro 5 hro rfl) rfl (Nat.le_of_ble_eq_true rfl) dX6_tells_15 (fun rv ws2 hp2 => ?_))
  obtain ⟨rfl, rfl⟩ := hp2
  refine g_eqW (app1 _).symm ?_
  refine g_ixor hX dX6_tells_18 ?_
  obtain rfl := oi hf
  exact g_iret hX hq (by decide) (by decide) hp dX6_tells_19
theorem c_R5_X6_tells {l : Launch} {E : En} {ad : Nat → Nat} {q : Nat} {fk fm fn : Int32} {a2 r : Int32} {S S2 : MS} (hf : f_R5_X6_tells fm fn a2 S = some (r, S2)) : CP l E yX6_tells cX6_tells 3 (some .int) 5 0 0 [(q, .inr (5, [.int fk, .int fm, .int fn]))] [.ref q, .ref (ad 0), .int a2] (tW E ad S) (fun rv w => rv = some (.int r) ∧ w = tW E ad S2) :=
  CP.of (lv := [(0, .ref q), (1, .ref (ad 0)), (2, .int a2)]) (by decide +kernel) (Nat.le_of_ble_eq_true rfl) rfl (fun X hl hE hro hX hq hn => by subst hl; subst hE; exact t_R5_X6_tells_0 (fk := fk) (by rw [hro]; exact List.mem_singleton.mpr rfl) hX hq ⟨rfl, rfl⟩ a2 S hf)
def f_R6_X6_counted (fm fn : Int32) (a1 : Int32) : Option Int32 :=
  some a1
set_option maxRecDepth 100000 in
set_option maxHeartbeats 4000000 in
theorem t_R6_X6_counted_0 {X : Cx} {q : Nat} {fk fm fn : Int32} (hro : (q, .inr (6, [.int fk, .int fm, .int fn])) ∈ X.ro) {PostX : Option Value → va_W → Prop} (hX : Ok X cX6_counted 2 RX6) (hq : Rq X 0 0 0 (some .int) PostX) {u : Int32} (hp : PostX (some (.int u)) []) (a1 : Int32) (hf : f_R6_X6_counted fm fn a1 = some u) : G X 2 0 0 0 [(0, .ref q), (1, .int a1)] [] [] := by
  unfold f_R6_X6_counted at hf
  refine g_iloadn hX 1 rfl rfl dX6_counted_0 ?_
  obtain rfl := oi hf
  exact g_iret hX hq (by decide) (by decide) hp dX6_counted_1
theorem c_R6_X6_counted {l : Launch} {E : En} {q : Nat} {fk fm fn : Int32} {a1 r : Int32} (hf : f_R6_X6_counted fm fn a1 = some r) : CP l E yX6_counted cX6_counted 2 (some .int) 0 0 0 [(q, .inr (6, [.int fk, .int fm, .int fn]))] [.ref q, .int a1] [] (fun rv w => rv = some (.int r) ∧ w = []) :=
  CP.of (lv := [(0, .ref q), (1, .int a1)]) (by decide +kernel) (Nat.le_of_ble_eq_true rfl) rfl (fun X hl hE hro hX hq hn => t_R6_X6_counted_0 (fk := fk) (by rw [hro]; exact List.mem_singleton.mpr rfl) hX hq ⟨rfl, rfl⟩ a1 hf)
def f_R6_X6_credit (fm fn : Int32) (a1 : Int32) (a2 : Int32) (a3 : Int32) (a4 : Int32) : Option Int32 :=
  some a1
set_option maxRecDepth 100000 in
set_option maxHeartbeats 4000000 in
theorem t_R6_X6_credit_0 {X : Cx} {q : Nat} {fk fm fn : Int32} (hro : (q, .inr (6, [.int fk, .int fm, .int fn])) ∈ X.ro) {PostX : Option Value → va_W → Prop} (hX : Ok X cX6_credit 5 RX6) (hq : Rq X 0 0 0 (some .int) PostX) {u : Int32} (hp : PostX (some (.int u)) []) (a1 : Int32) (a2 : Int32) (a3 : Int32) (a4 : Int32) (hf : f_R6_X6_credit fm fn a1 a2 a3 a4 = some u) : G X 5 0 0 0 [(0, .ref q), (1, .int a1), (2, .int a2), (3, .int a3), (4, .int a4)] [] [] := by
  unfold f_R6_X6_credit at hf
  refine g_iloadn hX 1 rfl rfl dX6_credit_0 ?_
  obtain rfl := oi hf
  exact g_iret hX hq (by decide) (by decide) hp dX6_credit_1
theorem c_R6_X6_credit {l : Launch} {E : En} {q : Nat} {fk fm fn : Int32} {a1 a2 a3 a4 r : Int32} (hf : f_R6_X6_credit fm fn a1 a2 a3 a4 = some r) : CP l E yX6_credit cX6_credit 5 (some .int) 0 0 0 [(q, .inr (6, [.int fk, .int fm, .int fn]))] [.ref q, .int a1, .int a2, .int a3, .int a4] [] (fun rv w => rv = some (.int r) ∧ w = []) :=
  CP.of (lv := [(0, .ref q), (1, .int a1), (2, .int a2), (3, .int a3), (4, .int a4)]) (by decide +kernel) (Nat.le_of_ble_eq_true rfl) rfl (fun X hl hE hro hX hq hn => t_R6_X6_credit_0 (fk := fk) (by rw [hro]; exact List.mem_singleton.mpr rfl) hX hq ⟨rfl, rfl⟩ a1 a2 a3 a4 hf)
def f_R6_X6_says (fm fn : Int32) (a2 : Int32) (S : MS) : Option (Int32 × MS) :=
  cb (f_X9_begins 10 S) fun _ S1 =>
  some ((a2 + fn), S1)
set_option maxRecDepth 100000 in
set_option maxHeartbeats 4000000 in
theorem t_R6_X6_says_0 {X : Cx} {ad : Nat → Nat} {q : Nat} {fk fm fn : Int32} (hro : (q, .inr (6, [.int fk, .int fm, .int fn])) ∈ X.ro) {PostX : Option Value → va_W → Prop} (hX : Ok X cX6_says 3 RX6) (hq : Rq X 1 0 0 (some .int) PostX) {u : (Int32 × MS)} (hp : PostX (some (.int u.1)) (tW X.E ad u.2)) (a2 : Int32) (S : MS) (hf : f_R6_X6_says fm fn a2 S = some u) : G X 3 0 0 0 [(0, .ref q), (1, .ref (ad 0)), (2, .int a2)] [] (tW X.E ad S) := by
  unfold f_R6_X6_says at hf
  refine g_aloadn hX 1 rfl rfl dX6_says_0 ?_
  refine g_bipush hX (v := 10) (by decide) dX6_says_1 ?_
  obtain ⟨z3, S1, h2, hf⟩ := cb_open hf
  refine g_eqW (app1 _) (g_callV (pre := []) (mid := _) (post := []) [.int 10] hX hq kw_RX6_X9_begins (c_X9_begins h2) (fun _ h => absurd h List.not_mem_nil) (by decide) (by decide) (by decide) rfl (Recv.of 0 9 rfl rfl) rfl (Nat.le_of_ble_eq_true rfl) dX6_says_3 (fun rv ws2 hp2 => ?_))
  obtain ⟨rfl, rfl⟩ := hp2
  refine g_eqW (app1 _).symm ?_
  refine g_iloadn hX 2 rfl rfl dX6_says_6 ?_
  refine g_aloadn hX 0 rfl rfl dX6_says_7 ?_
  refine g_getR (C := RX6) (T := TX6) (N := 3) hX inX6 hro rfl 2 (by decide) wd_1_151 (fun _ h => h) rfl dX6_says_8 ?_
  refine g_iadd hX dX6_says_11 ?_
  obtain rfl := oi hf
  exact g_iret hX hq (by decide) (by decide) hp dX6_says_12
theorem c_R6_X6_says {l : Launch} {E : En} {ad : Nat → Nat} {q : Nat} {fk fm fn : Int32} {a2 r : Int32} {S S2 : MS} (hf : f_R6_X6_says fm fn a2 S = some (r, S2)) : CP l E yX6_says cX6_says 3 (some .int) 1 0 0 [(q, .inr (6, [.int fk, .int fm, .int fn]))] [.ref q, .ref (ad 0), .int a2] (tW E ad S) (fun rv w => rv = some (.int r) ∧ w = tW E ad S2) :=
  CP.of (lv := [(0, .ref q), (1, .ref (ad 0)), (2, .int a2)]) (by decide +kernel) (Nat.le_of_ble_eq_true rfl) rfl (fun X hl hE hro hX hq hn => by subst hl; subst hE; exact t_R6_X6_says_0 (fk := fk) (by rw [hro]; exact List.mem_singleton.mpr rfl) hX hq ⟨rfl, rfl⟩ a2 S hf)
def f_R6_X6_doubts (fm fn : Int32) (a2 : Int32) (S : MS) : Option (Int32 × MS) :=
  cb (f_X9_begins 12 S) fun _ S1 =>
  some ((a2 - fm), S1)
set_option maxRecDepth 100000 in
set_option maxHeartbeats 4000000 in
theorem t_R6_X6_doubts_0 {X : Cx} {ad : Nat → Nat} {q : Nat} {fk fm fn : Int32} (hro : (q, .inr (6, [.int fk, .int fm, .int fn])) ∈ X.ro) {PostX : Option Value → va_W → Prop} (hX : Ok X cX6_doubts 3 RX6) (hq : Rq X 1 0 0 (some .int) PostX) {u : (Int32 × MS)} (hp : PostX (some (.int u.1)) (tW X.E ad u.2)) (a2 : Int32) (S : MS) (hf : f_R6_X6_doubts fm fn a2 S = some u) : G X 3 0 0 0 [(0, .ref q), (1, .ref (ad 0)), (2, .int a2)] [] (tW X.E ad S) := by
  unfold f_R6_X6_doubts at hf
  refine g_aloadn hX 1 rfl rfl dX6_doubts_0 ?_
  refine g_bipush hX (v := 12) (by decide) dX6_doubts_1 ?_
  obtain ⟨z3, S1, h2, hf⟩ := cb_open hf
  refine g_eqW (app1 _) (g_callV (pre := []) (mid := _) (post := []) [.int 12] hX hq kw_RX6_X9_begins (c_X9_begins h2) (fun _ h => absurd h List.not_mem_nil) (by decide) (by decide) (by decide) rfl (Recv.of 0 9 rfl rfl) rfl (Nat.le_of_ble_eq_true rfl) dX6_doubts_3 (fun rv ws2 hp2 => ?_))
  obtain ⟨rfl, rfl⟩ := hp2
  refine g_eqW (app1 _).symm ?_
  refine g_iloadn hX 2 rfl rfl dX6_doubts_6 ?_
  refine g_aloadn hX 0 rfl rfl dX6_doubts_7 ?_
  refine g_getR (C := RX6) (T := TX6) (N := 3) hX inX6 hro rfl 1 (by decide) wd_1_147 (fun _ h => h) rfl dX6_doubts_8 ?_
  refine g_isub hX dX6_doubts_11 ?_
  obtain rfl := oi hf
  exact g_iret hX hq (by decide) (by decide) hp dX6_doubts_12
theorem c_R6_X6_doubts {l : Launch} {E : En} {ad : Nat → Nat} {q : Nat} {fk fm fn : Int32} {a2 r : Int32} {S S2 : MS} (hf : f_R6_X6_doubts fm fn a2 S = some (r, S2)) : CP l E yX6_doubts cX6_doubts 3 (some .int) 1 0 0 [(q, .inr (6, [.int fk, .int fm, .int fn]))] [.ref q, .ref (ad 0), .int a2] (tW E ad S) (fun rv w => rv = some (.int r) ∧ w = tW E ad S2) :=
  CP.of (lv := [(0, .ref q), (1, .ref (ad 0)), (2, .int a2)]) (by decide +kernel) (Nat.le_of_ble_eq_true rfl) rfl (fun X hl hE hro hX hq hn => by subst hl; subst hE; exact t_R6_X6_doubts_0 (fk := fk) (by rw [hro]; exact List.mem_singleton.mpr rfl) hX hq ⟨rfl, rfl⟩ a2 S hf)
theorem kwr_RX6_25_virtual_6 : KwV RX6 25 RX6 yX6_says cX6_says 3 (some .int) 2 := ⟨mem_wsV wd_4_95 wd_4_51 wd_4_52 wd_1_9 wd_4_67, rfl, ⟨by decide +kernel, by decide +kernel, by decide +kernel⟩, by decide⟩
def f_R6_X6_rises (fm fn : Int32) (a2 : Int32) (S : MS) : Option (Int32 × MS) :=
  cb (f_X9_begins 11 S) fun _ S1 =>
  cb (f_R6_X6_says fm fn a2 S1) fun r4 S6 =>
  some ((r4 * 2), S6)
set_option maxRecDepth 100000 in
set_option maxHeartbeats 4000000 in
theorem t_R6_X6_rises_0 {X : Cx} {ad : Nat → Nat} {q : Nat} {fk fm fn : Int32} (hro : (q, .inr (6, [.int fk, .int fm, .int fn])) ∈ X.ro) {PostX : Option Value → va_W → Prop} (hX : Ok X cX6_rises 3 RX6) (hq : Rq X 2 0 0 (some .int) PostX) {u : (Int32 × MS)} (hp : PostX (some (.int u.1)) (tW X.E ad u.2)) (a2 : Int32) (S : MS) (hf : f_R6_X6_rises fm fn a2 S = some u) : G X 3 0 0 0 [(0, .ref q), (1, .ref (ad 0)), (2, .int a2)] [] (tW X.E ad S) := by
  unfold f_R6_X6_rises at hf
  refine g_aloadn hX 1 rfl rfl dX6_rises_0 ?_
  refine g_bipush hX (v := 11) (by decide) dX6_rises_1 ?_
  obtain ⟨z3, S1, h2, hf⟩ := cb_open hf
  refine g_eqW (app1 _) (g_callV (pre := []) (mid := _) (post := []) [.int 11] hX hq kw_RX6_X9_begins (c_X9_begins h2) (fun _ h => absurd h List.not_mem_nil) (by decide) (by decide) (by decide) rfl (Recv.of 0 9 rfl rfl) rfl (Nat.le_of_ble_eq_true rfl) dX6_rises_3 (fun rv ws2 hp2 => ?_))
  obtain ⟨rfl, rfl⟩ := hp2
  refine g_eqW (app1 _).symm ?_
  refine g_aloadn hX 0 rfl rfl dX6_rises_6 ?_
  refine g_aloadn hX 1 rfl rfl dX6_rises_7 ?_
  refine g_iloadn hX 2 rfl rfl dX6_rises_8 ?_
  obtain ⟨r4, S6, h5, hf⟩ := cb_open hf
  refine g_eqW (app1 _) (g_callV (pre := []) (mid := _) (post := []) [.ref (ad 0), .int a2] hX hq kwr_RX6_25_virtual_6 (c_R6_X6_says h5) (fun z hz => (List.mem_singleton.mp hz) ▸ hro) (by decide) (by decide) (by decide) rfl (Recv.ro 6 hro rfl) rfl (Nat.le_of_ble_eq_true rfl) dX6_rises_9 (fun rv ws2 hp2 => ?_))
  obtain ⟨rfl, rfl⟩ := hp2
  refine g_eqW (app1 _).symm ?_
  refine g_iconst hX (v := 2) (by decide) dX6_rises_12 ?_
  refine g_imul hX dX6_rises_13 ?_
  obtain rfl := oi hf
  exact g_iret hX hq (by decide) (by decide) hp dX6_rises_14
theorem c_R6_X6_rises {l : Launch} {E : En} {ad : Nat → Nat} {q : Nat} {fk fm fn : Int32} {a2 r : Int32} {S S2 : MS} (hf : f_R6_X6_rises fm fn a2 S = some (r, S2)) : CP l E yX6_rises cX6_rises 3 (some .int) 2 0 0 [(q, .inr (6, [.int fk, .int fm, .int fn]))] [.ref q, .ref (ad 0), .int a2] (tW E ad S) (fun rv w => rv = some (.int r) ∧ w = tW E ad S2) :=
  CP.of (lv := [(0, .ref q), (1, .ref (ad 0)), (2, .int a2)]) (by decide +kernel) (Nat.le_of_ble_eq_true rfl) rfl (fun X hl hE hro hX hq hn => by subst hl; subst hE; exact t_R6_X6_rises_0 (fk := fk) (by rw [hro]; exact List.mem_singleton.mpr rfl) hX hq ⟨rfl, rfl⟩ a2 S hf)
theorem kwr_RX6_29_virtual_6 : KwV RX6 29 RX6 yX6_rises cX6_rises 3 (some .int) 2 := ⟨mem_wsV wd_4_134 wd_4_70 wd_4_71 wd_1_9 wd_4_94, rfl, ⟨by decide +kernel, by decide +kernel, by decide +kernel⟩, by decide⟩
theorem kwr_RX6_32_virtual_6 : KwV RX6 32 RX6 yX6_doubts cX6_doubts 3 (some .int) 2 := ⟨mem_wsV wd_4_135 wd_4_85 wd_6_180 wd_1_9 wd_4_86, rfl, ⟨by decide +kernel, by decide +kernel, by decide +kernel⟩, by decide⟩
def f_R6_X6_tells (fm fn : Int32) (a2 : Int32) (S : MS) : Option (Int32 × MS) :=
  cb (f_X9_begins 13 S) fun _ S1 =>
  cb (f_R6_X6_rises fm fn a2 S1) fun r4 S6 =>
  cb (f_R6_X6_doubts fm fn a2 S6) fun r7 S9 =>
  some ((r4 ^^^ r7), S9)
set_option maxRecDepth 100000 in
set_option maxHeartbeats 4000000 in
theorem t_R6_X6_tells_0 {X : Cx} {ad : Nat → Nat} {q : Nat} {fk fm fn : Int32} (hro : (q, .inr (6, [.int fk, .int fm, .int fn])) ∈ X.ro) {PostX : Option Value → va_W → Prop} (hX : Ok X cX6_tells 3 RX6) (hq : Rq X 3 0 0 (some .int) PostX) {u : (Int32 × MS)} (hp : PostX (some (.int u.1)) (tW X.E ad u.2)) (a2 : Int32) (S : MS) (hf : f_R6_X6_tells fm fn a2 S = some u) : G X 3 0 0 0 [(0, .ref q), (1, .ref (ad 0)), (2, .int a2)] [] (tW X.E ad S) := by
  unfold f_R6_X6_tells at hf
  refine g_aloadn hX 1 rfl rfl dX6_tells_0 ?_
  refine g_bipush hX (v := 13) (by decide) dX6_tells_1 ?_
  obtain ⟨z3, S1, h2, hf⟩ := cb_open hf
  refine g_eqW (app1 _) (g_callV (pre := []) (mid := _) (post := []) [.int 13] hX hq kw_RX6_X9_begins (c_X9_begins h2) (fun _ h => absurd h List.not_mem_nil) (by decide) (by decide) (by decide) rfl (Recv.of 0 9 rfl rfl) rfl (Nat.le_of_ble_eq_true rfl) dX6_tells_3 (fun rv ws2 hp2 => ?_))
  obtain ⟨rfl, rfl⟩ := hp2
  refine g_eqW (app1 _).symm ?_
  refine g_aloadn hX 0 rfl rfl dX6_tells_6 ?_
  refine g_aloadn hX 1 rfl rfl dX6_tells_7 ?_
  refine g_iloadn hX 2 rfl rfl dX6_tells_8 ?_
  obtain ⟨r4, S6, h5, hf⟩ := cb_open hf
  refine g_eqW (app1 _) (g_callV (pre := []) (mid := _) (post := []) [.ref (ad 0), .int a2] hX hq kwr_RX6_29_virtual_6 (c_R6_X6_rises h5) (fun z hz => (List.mem_singleton.mp hz) ▸ hro) (by decide) (by decide) (by decide) rfl (Recv.ro 6 hro rfl) rfl (Nat.le_of_ble_eq_true rfl) dX6_tells_9 (fun rv ws2 hp2 => ?_))
  obtain ⟨rfl, rfl⟩ := hp2
  refine g_eqW (app1 _).symm ?_
  refine g_aloadn hX 0 rfl rfl dX6_tells_12 ?_
  refine g_aloadn hX 1 rfl rfl dX6_tells_13 ?_
  refine g_iloadn hX 2 rfl rfl dX6_tells_14 ?_
  obtain ⟨r7, S9, h8, hf⟩ := cb_open hf
  refine g_eqW (app1 _) (g_callV (pre := []) (mid := _) (post := []) [.ref (ad 0), .int a2] hX hq kwr_RX6_32_virtual_6 (c_R6_X6_doubts h8) (fun z hz => (List.mem_singleton.mp hz) ▸ hro) (by decide) (by decide) (by decide) rfl (Recv.ro 6 hro rfl) rfl (Nat.le_of_ble_eq_true rfl) dX6_tells_15 (fun rv ws2 hp2 => ?_))
  obtain ⟨rfl, rfl⟩ := hp2
  refine g_eqW (app1 _).symm ?_
  refine g_ixor hX dX6_tells_18 ?_
  obtain rfl := oi hf
  exact g_iret hX hq (by decide) (by decide) hp dX6_tells_19
theorem c_R6_X6_tells {l : Launch} {E : En} {ad : Nat → Nat} {q : Nat} {fk fm fn : Int32} {a2 r : Int32} {S S2 : MS} (hf : f_R6_X6_tells fm fn a2 S = some (r, S2)) : CP l E yX6_tells cX6_tells 3 (some .int) 3 0 0 [(q, .inr (6, [.int fk, .int fm, .int fn]))] [.ref q, .ref (ad 0), .int a2] (tW E ad S) (fun rv w => rv = some (.int r) ∧ w = tW E ad S2) :=
  CP.of (lv := [(0, .ref q), (1, .ref (ad 0)), (2, .int a2)]) (by decide +kernel) (Nat.le_of_ble_eq_true rfl) rfl (fun X hl hE hro hX hq hn => by subst hl; subst hE; exact t_R6_X6_tells_0 (fk := fk) (by rw [hro]; exact List.mem_singleton.mpr rfl) hX hq ⟨rfl, rfl⟩ a2 S hf)
def f_R8_X6_counted (fm fn : Int32) (a1 : Int32) : Option Int32 :=
  some a1
set_option maxRecDepth 100000 in
set_option maxHeartbeats 4000000 in
theorem t_R8_X6_counted_0 {X : Cx} {q : Nat} {fk fm fn : Int32} (hro : (q, .inr (8, [.int fk, .int fm, .int fn])) ∈ X.ro) {PostX : Option Value → va_W → Prop} (hX : Ok X cX6_counted 2 RX6) (hq : Rq X 0 0 0 (some .int) PostX) {u : Int32} (hp : PostX (some (.int u)) []) (a1 : Int32) (hf : f_R8_X6_counted fm fn a1 = some u) : G X 2 0 0 0 [(0, .ref q), (1, .int a1)] [] [] := by
  unfold f_R8_X6_counted at hf
  refine g_iloadn hX 1 rfl rfl dX6_counted_0 ?_
  obtain rfl := oi hf
  exact g_iret hX hq (by decide) (by decide) hp dX6_counted_1
theorem c_R8_X6_counted {l : Launch} {E : En} {q : Nat} {fk fm fn : Int32} {a1 r : Int32} (hf : f_R8_X6_counted fm fn a1 = some r) : CP l E yX6_counted cX6_counted 2 (some .int) 0 0 0 [(q, .inr (8, [.int fk, .int fm, .int fn]))] [.ref q, .int a1] [] (fun rv w => rv = some (.int r) ∧ w = []) :=
  CP.of (lv := [(0, .ref q), (1, .int a1)]) (by decide +kernel) (Nat.le_of_ble_eq_true rfl) rfl (fun X hl hE hro hX hq hn => t_R8_X6_counted_0 (fk := fk) (by rw [hro]; exact List.mem_singleton.mpr rfl) hX hq ⟨rfl, rfl⟩ a1 hf)
def f_R8_X6_credit (fm fn : Int32) (a1 : Int32) (a2 : Int32) (a3 : Int32) (a4 : Int32) : Option Int32 :=
  some a1
set_option maxRecDepth 100000 in
set_option maxHeartbeats 4000000 in
theorem t_R8_X6_credit_0 {X : Cx} {q : Nat} {fk fm fn : Int32} (hro : (q, .inr (8, [.int fk, .int fm, .int fn])) ∈ X.ro) {PostX : Option Value → va_W → Prop} (hX : Ok X cX6_credit 5 RX6) (hq : Rq X 0 0 0 (some .int) PostX) {u : Int32} (hp : PostX (some (.int u)) []) (a1 : Int32) (a2 : Int32) (a3 : Int32) (a4 : Int32) (hf : f_R8_X6_credit fm fn a1 a2 a3 a4 = some u) : G X 5 0 0 0 [(0, .ref q), (1, .int a1), (2, .int a2), (3, .int a3), (4, .int a4)] [] [] := by
  unfold f_R8_X6_credit at hf
  refine g_iloadn hX 1 rfl rfl dX6_credit_0 ?_
  obtain rfl := oi hf
  exact g_iret hX hq (by decide) (by decide) hp dX6_credit_1
theorem c_R8_X6_credit {l : Launch} {E : En} {q : Nat} {fk fm fn : Int32} {a1 a2 a3 a4 r : Int32} (hf : f_R8_X6_credit fm fn a1 a2 a3 a4 = some r) : CP l E yX6_credit cX6_credit 5 (some .int) 0 0 0 [(q, .inr (8, [.int fk, .int fm, .int fn]))] [.ref q, .int a1, .int a2, .int a3, .int a4] [] (fun rv w => rv = some (.int r) ∧ w = []) :=
  CP.of (lv := [(0, .ref q), (1, .int a1), (2, .int a2), (3, .int a3), (4, .int a4)]) (by decide +kernel) (Nat.le_of_ble_eq_true rfl) rfl (fun X hl hE hro hX hq hn => t_R8_X6_credit_0 (fk := fk) (by rw [hro]; exact List.mem_singleton.mpr rfl) hX hq ⟨rfl, rfl⟩ a1 a2 a3 a4 hf)
def f_R8_X10_credit (fm fn : Int32) (a1 : Int32) (a2 : Int32) (a3 : Int32) (a4 : Int32) : Option Int32 :=
  if (a3 = 0 : Prop) then
    some (a1 + 3)
  else
    some a1
set_option maxRecDepth 100000 in
set_option maxHeartbeats 4000000 in
theorem t_R8_X10_credit_0 {X : Cx} {q : Nat} {fk fm fn : Int32} (hro : (q, .inr (8, [.int fk, .int fm, .int fn])) ∈ X.ro) {PostX : Option Value → va_W → Prop} (hX : Ok X cX10_credit 5 RX10) (hq : Rq X 0 0 0 (some .int) PostX) {u : Int32} (hp : PostX (some (.int u)) []) (a1 : Int32) (a2 : Int32) (a3 : Int32) (a4 : Int32) (hf : f_R8_X10_credit fm fn a1 a2 a3 a4 = some u) : G X 5 0 0 0 [(0, .ref q), (1, .int a1), (2, .int a2), (3, .int a3), (4, .int a4)] [] [] := by
  unfold f_R8_X10_credit at hf
  refine g_iloadn hX 3 rfl rfl dX10_credit_0 ?_
  refine g_if_ne hX 10 (by decide) dX10_credit_1 (fun c1 => ?_) (fun c1 => ?_)
  · have hf := ite_f c1 hf
    refine g_iloadn hX 1 rfl rfl dX10_credit_10 ?_
    obtain rfl := oi hf
    exact g_iret hX hq (by decide) (by decide) hp dX10_credit_11
  · have hf := ite_t c1 hf
    refine g_iloadn hX 1 rfl rfl dX10_credit_4 ?_
    refine g_iconst hX (v := 3) (by decide) dX10_credit_5 ?_
    refine g_iadd hX dX10_credit_6 ?_
    refine g_goto hX 11 (by decide) dX10_credit_7 ?_
    obtain rfl := oi hf
    exact g_iret hX hq (by decide) (by decide) hp dX10_credit_11
theorem c_R8_X10_credit {l : Launch} {E : En} {q : Nat} {fk fm fn : Int32} {a1 a2 a3 a4 r : Int32} (hf : f_R8_X10_credit fm fn a1 a2 a3 a4 = some r) : CP l E yX10_credit cX10_credit 5 (some .int) 0 0 0 [(q, .inr (8, [.int fk, .int fm, .int fn]))] [.ref q, .int a1, .int a2, .int a3, .int a4] [] (fun rv w => rv = some (.int r) ∧ w = []) :=
  CP.of (lv := [(0, .ref q), (1, .int a1), (2, .int a2), (3, .int a3), (4, .int a4)]) (by decide +kernel) (Nat.le_of_ble_eq_true rfl) rfl (fun X hl hE hro hX hq hn => t_R8_X10_credit_0 (fk := fk) (by rw [hro]; exact List.mem_singleton.mpr rfl) hX hq ⟨rfl, rfl⟩ a1 a2 a3 a4 hf)
theorem kwr_RX8_7_special_8 : KwSU RX8 7 yX10_credit cX10_credit 5 (some .int) 4 := ⟨mem_wsSU wd_3_90 wd_6_173 wd_1_210 wd_3_91 wd_1_12 wd_3_92, ⟨by decide +kernel, by decide +kernel⟩, by decide⟩
def f_R8_X8_credit (fm fn : Int32) (a1 : Int32) (a2 : Int32) (a3 : Int32) (a4 : Int32) : Option Int32 :=
  cs (f_R8_X10_credit fm fn a1 a2 a3 a4) fun r1 =>
  some (r1 - ((a2 + a3) + a4))
set_option maxRecDepth 100000 in
set_option maxHeartbeats 4000000 in
theorem t_R8_X8_credit_0 {X : Cx} {q : Nat} {fk fm fn : Int32} (hro : (q, .inr (8, [.int fk, .int fm, .int fn])) ∈ X.ro) {PostX : Option Value → va_W → Prop} (hX : Ok X cX8_credit 5 RX8) (hq : Rq X 1 0 0 (some .int) PostX) {u : Int32} (hp : PostX (some (.int u)) []) (a1 : Int32) (a2 : Int32) (a3 : Int32) (a4 : Int32) (hf : f_R8_X8_credit fm fn a1 a2 a3 a4 = some u) : G X 5 0 0 0 [(0, .ref q), (1, .int a1), (2, .int a2), (3, .int a3), (4, .int a4)] [] [] := by
  unfold f_R8_X8_credit at hf
  refine g_aloadn hX 0 rfl rfl dX8_credit_0 ?_
  refine g_iloadn hX 1 rfl rfl dX8_credit_1 ?_
  refine g_iloadn hX 2 rfl rfl dX8_credit_2 ?_
  refine g_iloadn hX 3 rfl rfl dX8_credit_3 ?_
  refine g_iload hX 4 rfl dX8_credit_4 ?_
  obtain ⟨r1, h2, hf⟩ := cs_open hf
  refine g_eqW (app0 _) (g_callSU (pre := _) (mid := []) (post := []) [.int a1, .int a2, .int a3, .int a4] hX hq kwr_RX8_7_special_8 (c_R8_X10_credit h2) (fun z hz => (List.mem_singleton.mp hz) ▸ hro) (by decide) (by decide) (by decide) rfl (Recv.ro 8 hro rfl) rfl (Nat.le_of_ble_eq_true rfl) dX8_credit_6 (fun rv ws2 hp2 => ?_))
  obtain ⟨rfl, rfl⟩ := hp2
  refine g_eqW (app0 _).symm ?_
  refine g_iloadn hX 2 rfl rfl dX8_credit_9 ?_
  refine g_iloadn hX 3 rfl rfl dX8_credit_10 ?_
  refine g_iadd hX dX8_credit_11 ?_
  refine g_iload hX 4 rfl dX8_credit_12 ?_
  refine g_iadd hX dX8_credit_14 ?_
  refine g_isub hX dX8_credit_15 ?_
  obtain rfl := oi hf
  exact g_iret hX hq (by decide) (by decide) hp dX8_credit_16
theorem c_R8_X8_credit {l : Launch} {E : En} {q : Nat} {fk fm fn : Int32} {a1 a2 a3 a4 r : Int32} (hf : f_R8_X8_credit fm fn a1 a2 a3 a4 = some r) : CP l E yX8_credit cX8_credit 5 (some .int) 1 0 0 [(q, .inr (8, [.int fk, .int fm, .int fn]))] [.ref q, .int a1, .int a2, .int a3, .int a4] [] (fun rv w => rv = some (.int r) ∧ w = []) :=
  CP.of (lv := [(0, .ref q), (1, .int a1), (2, .int a2), (3, .int a3), (4, .int a4)]) (by decide +kernel) (Nat.le_of_ble_eq_true rfl) rfl (fun X hl hE hro hX hq hn => t_R8_X8_credit_0 (fk := fk) (by rw [hro]; exact List.mem_singleton.mpr rfl) hX hq ⟨rfl, rfl⟩ a1 a2 a3 a4 hf)
def f_R8_X6_says (fm fn : Int32) (a2 : Int32) (S : MS) : Option (Int32 × MS) :=
  cb (f_X9_begins 10 S) fun _ S1 =>
  some ((a2 + fn), S1)
set_option maxRecDepth 100000 in
set_option maxHeartbeats 4000000 in
theorem t_R8_X6_says_0 {X : Cx} {ad : Nat → Nat} {q : Nat} {fk fm fn : Int32} (hro : (q, .inr (8, [.int fk, .int fm, .int fn])) ∈ X.ro) {PostX : Option Value → va_W → Prop} (hX : Ok X cX6_says 3 RX6) (hq : Rq X 1 0 0 (some .int) PostX) {u : (Int32 × MS)} (hp : PostX (some (.int u.1)) (tW X.E ad u.2)) (a2 : Int32) (S : MS) (hf : f_R8_X6_says fm fn a2 S = some u) : G X 3 0 0 0 [(0, .ref q), (1, .ref (ad 0)), (2, .int a2)] [] (tW X.E ad S) := by
  unfold f_R8_X6_says at hf
  refine g_aloadn hX 1 rfl rfl dX6_says_0 ?_
  refine g_bipush hX (v := 10) (by decide) dX6_says_1 ?_
  obtain ⟨z3, S1, h2, hf⟩ := cb_open hf
  refine g_eqW (app1 _) (g_callV (pre := []) (mid := _) (post := []) [.int 10] hX hq kw_RX6_X9_begins (c_X9_begins h2) (fun _ h => absurd h List.not_mem_nil) (by decide) (by decide) (by decide) rfl (Recv.of 0 9 rfl rfl) rfl (Nat.le_of_ble_eq_true rfl) dX6_says_3 (fun rv ws2 hp2 => ?_))
  obtain ⟨rfl, rfl⟩ := hp2
  refine g_eqW (app1 _).symm ?_
  refine g_iloadn hX 2 rfl rfl dX6_says_6 ?_
  refine g_aloadn hX 0 rfl rfl dX6_says_7 ?_
  refine g_getR (C := RX8) (T := TX8) (N := 3) hX inX8 hro rfl 2 (by decide) wd_1_151 (fun _ h => h) rfl dX6_says_8 ?_
  refine g_iadd hX dX6_says_11 ?_
  obtain rfl := oi hf
  exact g_iret hX hq (by decide) (by decide) hp dX6_says_12
theorem c_R8_X6_says {l : Launch} {E : En} {ad : Nat → Nat} {q : Nat} {fk fm fn : Int32} {a2 r : Int32} {S S2 : MS} (hf : f_R8_X6_says fm fn a2 S = some (r, S2)) : CP l E yX6_says cX6_says 3 (some .int) 1 0 0 [(q, .inr (8, [.int fk, .int fm, .int fn]))] [.ref q, .ref (ad 0), .int a2] (tW E ad S) (fun rv w => rv = some (.int r) ∧ w = tW E ad S2) :=
  CP.of (lv := [(0, .ref q), (1, .ref (ad 0)), (2, .int a2)]) (by decide +kernel) (Nat.le_of_ble_eq_true rfl) rfl (fun X hl hE hro hX hq hn => by subst hl; subst hE; exact t_R8_X6_says_0 (fk := fk) (by rw [hro]; exact List.mem_singleton.mpr rfl) hX hq ⟨rfl, rfl⟩ a2 S hf)
def f_R8_X6_doubts (fm fn : Int32) (a2 : Int32) (S : MS) : Option (Int32 × MS) :=
  cb (f_X9_begins 12 S) fun _ S1 =>
  some ((a2 - fm), S1)
set_option maxRecDepth 100000 in
set_option maxHeartbeats 4000000 in
theorem t_R8_X6_doubts_0 {X : Cx} {ad : Nat → Nat} {q : Nat} {fk fm fn : Int32} (hro : (q, .inr (8, [.int fk, .int fm, .int fn])) ∈ X.ro) {PostX : Option Value → va_W → Prop} (hX : Ok X cX6_doubts 3 RX6) (hq : Rq X 1 0 0 (some .int) PostX) {u : (Int32 × MS)} (hp : PostX (some (.int u.1)) (tW X.E ad u.2)) (a2 : Int32) (S : MS) (hf : f_R8_X6_doubts fm fn a2 S = some u) : G X 3 0 0 0 [(0, .ref q), (1, .ref (ad 0)), (2, .int a2)] [] (tW X.E ad S) := by
  unfold f_R8_X6_doubts at hf
  refine g_aloadn hX 1 rfl rfl dX6_doubts_0 ?_
  refine g_bipush hX (v := 12) (by decide) dX6_doubts_1 ?_
  obtain ⟨z3, S1, h2, hf⟩ := cb_open hf
  refine g_eqW (app1 _) (g_callV (pre := []) (mid := _) (post := []) [.int 12] hX hq kw_RX6_X9_begins (c_X9_begins h2) (fun _ h => absurd h List.not_mem_nil) (by decide) (by decide) (by decide) rfl (Recv.of 0 9 rfl rfl) rfl (Nat.le_of_ble_eq_true rfl) dX6_doubts_3 (fun rv ws2 hp2 => ?_))
  obtain ⟨rfl, rfl⟩ := hp2
  refine g_eqW (app1 _).symm ?_
  refine g_iloadn hX 2 rfl rfl dX6_doubts_6 ?_
  refine g_aloadn hX 0 rfl rfl dX6_doubts_7 ?_
  refine g_getR (C := RX8) (T := TX8) (N := 3) hX inX8 hro rfl 1 (by decide) wd_1_147 (fun _ h => h) rfl dX6_doubts_8 ?_
  refine g_isub hX dX6_doubts_11 ?_
  obtain rfl := oi hf
  exact g_iret hX hq (by decide) (by decide) hp dX6_doubts_12
theorem c_R8_X6_doubts {l : Launch} {E : En} {ad : Nat → Nat} {q : Nat} {fk fm fn : Int32} {a2 r : Int32} {S S2 : MS} (hf : f_R8_X6_doubts fm fn a2 S = some (r, S2)) : CP l E yX6_doubts cX6_doubts 3 (some .int) 1 0 0 [(q, .inr (8, [.int fk, .int fm, .int fn]))] [.ref q, .ref (ad 0), .int a2] (tW E ad S) (fun rv w => rv = some (.int r) ∧ w = tW E ad S2) :=
  CP.of (lv := [(0, .ref q), (1, .ref (ad 0)), (2, .int a2)]) (by decide +kernel) (Nat.le_of_ble_eq_true rfl) rfl (fun X hl hE hro hX hq hn => by subst hl; subst hE; exact t_R8_X6_doubts_0 (fk := fk) (by rw [hro]; exact List.mem_singleton.mpr rfl) hX hq ⟨rfl, rfl⟩ a2 S hf)
theorem kwr_RX10_13_special_8 : KwSU RX10 13 yX6_doubts cX6_doubts 3 (some .int) 2 := ⟨mem_wsSU wd_4_104 wd_6_175 wd_1_180 wd_4_85 wd_1_9 wd_4_86, ⟨by decide +kernel, by decide +kernel⟩, by decide⟩
def f_R8_X10_doubts (fm fn : Int32) (a2 : Int32) (S : MS) : Option (Int32 × MS) :=
  cb (f_X9_begins 40 S) fun _ S1 =>
  cb (f_R8_X6_doubts fm fn a2 S1) fun r4 S6 =>
  some ((-r4), S6)
set_option maxRecDepth 100000 in
set_option maxHeartbeats 4000000 in
theorem t_R8_X10_doubts_0 {X : Cx} {ad : Nat → Nat} {q : Nat} {fk fm fn : Int32} (hro : (q, .inr (8, [.int fk, .int fm, .int fn])) ∈ X.ro) {PostX : Option Value → va_W → Prop} (hX : Ok X cX10_doubts 3 RX10) (hq : Rq X 2 0 0 (some .int) PostX) {u : (Int32 × MS)} (hp : PostX (some (.int u.1)) (tW X.E ad u.2)) (a2 : Int32) (S : MS) (hf : f_R8_X10_doubts fm fn a2 S = some u) : G X 3 0 0 0 [(0, .ref q), (1, .ref (ad 0)), (2, .int a2)] [] (tW X.E ad S) := by
  unfold f_R8_X10_doubts at hf
  refine g_aloadn hX 1 rfl rfl dX10_doubts_0 ?_
  refine g_bipush hX (v := 40) (by decide) dX10_doubts_1 ?_
  obtain ⟨z3, S1, h2, hf⟩ := cb_open hf
  refine g_eqW (app1 _) (g_callV (pre := []) (mid := _) (post := []) [.int 40] hX hq kw_RX10_X9_begins (c_X9_begins h2) (fun _ h => absurd h List.not_mem_nil) (by decide) (by decide) (by decide) rfl (Recv.of 0 9 rfl rfl) rfl (Nat.le_of_ble_eq_true rfl) dX10_doubts_3 (fun rv ws2 hp2 => ?_))
  obtain ⟨rfl, rfl⟩ := hp2
  refine g_eqW (app1 _).symm ?_
  refine g_aloadn hX 0 rfl rfl dX10_doubts_6 ?_
  refine g_aloadn hX 1 rfl rfl dX10_doubts_7 ?_
  refine g_iloadn hX 2 rfl rfl dX10_doubts_8 ?_
  obtain ⟨r4, S6, h5, hf⟩ := cb_open hf
  refine g_eqW (app1 _) (g_callSU (pre := []) (mid := _) (post := []) [.ref (ad 0), .int a2] hX hq kwr_RX10_13_special_8 (c_R8_X6_doubts h5) (fun z hz => (List.mem_singleton.mp hz) ▸ hro) (by decide) (by decide) (by decide) rfl (Recv.ro 8 hro rfl) rfl (Nat.le_of_ble_eq_true rfl) dX10_doubts_9 (fun rv ws2 hp2 => ?_))
  obtain ⟨rfl, rfl⟩ := hp2
  refine g_eqW (app1 _).symm ?_
  refine g_ineg hX dX10_doubts_12 ?_
  obtain rfl := oi hf
  exact g_iret hX hq (by decide) (by decide) hp dX10_doubts_13
theorem c_R8_X10_doubts {l : Launch} {E : En} {ad : Nat → Nat} {q : Nat} {fk fm fn : Int32} {a2 r : Int32} {S S2 : MS} (hf : f_R8_X10_doubts fm fn a2 S = some (r, S2)) : CP l E yX10_doubts cX10_doubts 3 (some .int) 2 0 0 [(q, .inr (8, [.int fk, .int fm, .int fn]))] [.ref q, .ref (ad 0), .int a2] (tW E ad S) (fun rv w => rv = some (.int r) ∧ w = tW E ad S2) :=
  CP.of (lv := [(0, .ref q), (1, .ref (ad 0)), (2, .int a2)]) (by decide +kernel) (Nat.le_of_ble_eq_true rfl) rfl (fun X hl hE hro hX hq hn => by subst hl; subst hE; exact t_R8_X10_doubts_0 (fk := fk) (by rw [hro]; exact List.mem_singleton.mpr rfl) hX hq ⟨rfl, rfl⟩ a2 S hf)
theorem kwr_RX8_17_special_8 : KwSU RX8 17 yX10_doubts cX10_doubts 3 (some .int) 2 := ⟨mem_wsSU wd_4_100 wd_6_182 wd_1_210 wd_4_101 wd_1_12 wd_4_102, ⟨by decide +kernel, by decide +kernel⟩, by decide⟩
def f_R8_X8_doubts (fm fn : Int32) (a2 : Int32) (S : MS) : Option (Int32 × MS) :=
  cb (f_X9_begins 70 S) fun _ S1 =>
  cb (f_R8_X10_doubts fm fn a2 S1) fun r4 S6 =>
  some ((r4 ^^^ fn), S6)
set_option maxRecDepth 100000 in
set_option maxHeartbeats 4000000 in
theorem t_R8_X8_doubts_0 {X : Cx} {ad : Nat → Nat} {q : Nat} {fk fm fn : Int32} (hro : (q, .inr (8, [.int fk, .int fm, .int fn])) ∈ X.ro) {PostX : Option Value → va_W → Prop} (hX : Ok X cX8_doubts 3 RX8) (hq : Rq X 3 0 0 (some .int) PostX) {u : (Int32 × MS)} (hp : PostX (some (.int u.1)) (tW X.E ad u.2)) (a2 : Int32) (S : MS) (hf : f_R8_X8_doubts fm fn a2 S = some u) : G X 3 0 0 0 [(0, .ref q), (1, .ref (ad 0)), (2, .int a2)] [] (tW X.E ad S) := by
  unfold f_R8_X8_doubts at hf
  refine g_aloadn hX 1 rfl rfl dX8_doubts_0 ?_
  refine g_bipush hX (v := 70) (by decide) dX8_doubts_1 ?_
  obtain ⟨z3, S1, h2, hf⟩ := cb_open hf
  refine g_eqW (app1 _) (g_callV (pre := []) (mid := _) (post := []) [.int 70] hX hq kw_RX8_X9_begins (c_X9_begins h2) (fun _ h => absurd h List.not_mem_nil) (by decide) (by decide) (by decide) rfl (Recv.of 0 9 rfl rfl) rfl (Nat.le_of_ble_eq_true rfl) dX8_doubts_3 (fun rv ws2 hp2 => ?_))
  obtain ⟨rfl, rfl⟩ := hp2
  refine g_eqW (app1 _).symm ?_
  refine g_aloadn hX 0 rfl rfl dX8_doubts_6 ?_
  refine g_aloadn hX 1 rfl rfl dX8_doubts_7 ?_
  refine g_iloadn hX 2 rfl rfl dX8_doubts_8 ?_
  obtain ⟨r4, S6, h5, hf⟩ := cb_open hf
  refine g_eqW (app1 _) (g_callSU (pre := []) (mid := _) (post := []) [.ref (ad 0), .int a2] hX hq kwr_RX8_17_special_8 (c_R8_X10_doubts h5) (fun z hz => (List.mem_singleton.mp hz) ▸ hro) (by decide) (by decide) (by decide) rfl (Recv.ro 8 hro rfl) rfl (Nat.le_of_ble_eq_true rfl) dX8_doubts_9 (fun rv ws2 hp2 => ?_))
  obtain ⟨rfl, rfl⟩ := hp2
  refine g_eqW (app1 _).symm ?_
  refine g_aloadn hX 0 rfl rfl dX8_doubts_12 ?_
  refine g_getR (C := RX8) (T := TX8) (N := 3) hX inX8 hro rfl 2 (by decide) wd_1_152 (fun x h => u_same (hX.hts _ wd_1_153) x h) rfl dX8_doubts_13 ?_
  refine g_ixor hX dX8_doubts_16 ?_
  obtain rfl := oi hf
  exact g_iret hX hq (by decide) (by decide) hp dX8_doubts_17
theorem c_R8_X8_doubts {l : Launch} {E : En} {ad : Nat → Nat} {q : Nat} {fk fm fn : Int32} {a2 r : Int32} {S S2 : MS} (hf : f_R8_X8_doubts fm fn a2 S = some (r, S2)) : CP l E yX8_doubts cX8_doubts 3 (some .int) 3 0 0 [(q, .inr (8, [.int fk, .int fm, .int fn]))] [.ref q, .ref (ad 0), .int a2] (tW E ad S) (fun rv w => rv = some (.int r) ∧ w = tW E ad S2) :=
  CP.of (lv := [(0, .ref q), (1, .ref (ad 0)), (2, .int a2)]) (by decide +kernel) (Nat.le_of_ble_eq_true rfl) rfl (fun X hl hE hro hX hq hn => by subst hl; subst hE; exact t_R8_X8_doubts_0 (fk := fk) (by rw [hro]; exact List.mem_singleton.mpr rfl) hX hq ⟨rfl, rfl⟩ a2 S hf)
theorem kwr_RX6_25_virtual_8 : KwO RX6 25 RX8 RX6 yX6_says yX6_says cX6_says 3 (some .int) 2 := ⟨mem_wsO wd_4_95 wd_4_53 wd_4_51 wd_4_65 wd_4_51 wd_1_9 wd_4_67, ⟨_, _, _, wd_4_67⟩, ⟨by decide +kernel, by decide +kernel, by decide +kernel⟩, by decide⟩
def f_R8_X6_rises (fm fn : Int32) (a2 : Int32) (S : MS) : Option (Int32 × MS) :=
  cb (f_X9_begins 11 S) fun _ S1 =>
  cb (f_R8_X6_says fm fn a2 S1) fun r4 S6 =>
  some ((r4 * 2), S6)
set_option maxRecDepth 100000 in
set_option maxHeartbeats 4000000 in
theorem t_R8_X6_rises_0 {X : Cx} {ad : Nat → Nat} {q : Nat} {fk fm fn : Int32} (hro : (q, .inr (8, [.int fk, .int fm, .int fn])) ∈ X.ro) {PostX : Option Value → va_W → Prop} (hX : Ok X cX6_rises 3 RX6) (hq : Rq X 2 0 0 (some .int) PostX) {u : (Int32 × MS)} (hp : PostX (some (.int u.1)) (tW X.E ad u.2)) (a2 : Int32) (S : MS) (hf : f_R8_X6_rises fm fn a2 S = some u) : G X 3 0 0 0 [(0, .ref q), (1, .ref (ad 0)), (2, .int a2)] [] (tW X.E ad S) := by
  unfold f_R8_X6_rises at hf
  refine g_aloadn hX 1 rfl rfl dX6_rises_0 ?_
  refine g_bipush hX (v := 11) (by decide) dX6_rises_1 ?_
  obtain ⟨z3, S1, h2, hf⟩ := cb_open hf
  refine g_eqW (app1 _) (g_callV (pre := []) (mid := _) (post := []) [.int 11] hX hq kw_RX6_X9_begins (c_X9_begins h2) (fun _ h => absurd h List.not_mem_nil) (by decide) (by decide) (by decide) rfl (Recv.of 0 9 rfl rfl) rfl (Nat.le_of_ble_eq_true rfl) dX6_rises_3 (fun rv ws2 hp2 => ?_))
  obtain ⟨rfl, rfl⟩ := hp2
  refine g_eqW (app1 _).symm ?_
  refine g_aloadn hX 0 rfl rfl dX6_rises_6 ?_
  refine g_aloadn hX 1 rfl rfl dX6_rises_7 ?_
  refine g_iloadn hX 2 rfl rfl dX6_rises_8 ?_
  obtain ⟨r4, S6, h5, hf⟩ := cb_open hf
  refine g_eqW (app1 _) (g_callO (pre := []) (mid := _) (post := []) [.ref (ad 0), .int a2] hX hq kwr_RX6_25_virtual_8 (c_R8_X6_says h5) (fun z hz => (List.mem_singleton.mp hz) ▸ hro) (by decide) (by decide) (by decide) rfl (Recv.ro 8 hro rfl) rfl (Nat.le_of_ble_eq_true rfl) dX6_rises_9 (fun rv ws2 hp2 => ?_))
  obtain ⟨rfl, rfl⟩ := hp2
  refine g_eqW (app1 _).symm ?_
  refine g_iconst hX (v := 2) (by decide) dX6_rises_12 ?_
  refine g_imul hX dX6_rises_13 ?_
  obtain rfl := oi hf
  exact g_iret hX hq (by decide) (by decide) hp dX6_rises_14
theorem c_R8_X6_rises {l : Launch} {E : En} {ad : Nat → Nat} {q : Nat} {fk fm fn : Int32} {a2 r : Int32} {S S2 : MS} (hf : f_R8_X6_rises fm fn a2 S = some (r, S2)) : CP l E yX6_rises cX6_rises 3 (some .int) 2 0 0 [(q, .inr (8, [.int fk, .int fm, .int fn]))] [.ref q, .ref (ad 0), .int a2] (tW E ad S) (fun rv w => rv = some (.int r) ∧ w = tW E ad S2) :=
  CP.of (lv := [(0, .ref q), (1, .ref (ad 0)), (2, .int a2)]) (by decide +kernel) (Nat.le_of_ble_eq_true rfl) rfl (fun X hl hE hro hX hq hn => by subst hl; subst hE; exact t_R8_X6_rises_0 (fk := fk) (by rw [hro]; exact List.mem_singleton.mpr rfl) hX hq ⟨rfl, rfl⟩ a2 S hf)
theorem kwr_RX6_29_virtual_8 : KwO RX6 29 RX8 RX6 yX6_rises yX6_rises cX6_rises 3 (some .int) 2 := ⟨mem_wsO wd_4_134 wd_4_72 wd_4_70 wd_4_92 wd_4_70 wd_1_9 wd_4_94, ⟨_, _, _, wd_4_94⟩, ⟨by decide +kernel, by decide +kernel, by decide +kernel⟩, by decide⟩
theorem kwr_RX6_32_virtual_8 : KwO RX6 32 RX8 RX6 yX6_doubts yX8_doubts cX8_doubts 3 (some .int) 2 := ⟨mem_wsO wd_4_135 wd_6_175 wd_4_85 wd_6_181 wd_4_97 wd_1_15 wd_4_98, ⟨_, _, _, wd_4_86⟩, ⟨by decide +kernel, by decide +kernel, by decide +kernel⟩, by decide⟩
def f_R8_X6_tells (fm fn : Int32) (a2 : Int32) (S : MS) : Option (Int32 × MS) :=
  cb (f_X9_begins 13 S) fun _ S1 =>
  cb (f_R8_X6_rises fm fn a2 S1) fun r4 S6 =>
  cb (f_R8_X8_doubts fm fn a2 S6) fun r7 S9 =>
  some ((r4 ^^^ r7), S9)
set_option maxRecDepth 100000 in
set_option maxHeartbeats 4000000 in
theorem t_R8_X6_tells_0 {X : Cx} {ad : Nat → Nat} {q : Nat} {fk fm fn : Int32} (hro : (q, .inr (8, [.int fk, .int fm, .int fn])) ∈ X.ro) {PostX : Option Value → va_W → Prop} (hX : Ok X cX6_tells 3 RX6) (hq : Rq X 4 0 0 (some .int) PostX) {u : (Int32 × MS)} (hp : PostX (some (.int u.1)) (tW X.E ad u.2)) (a2 : Int32) (S : MS) (hf : f_R8_X6_tells fm fn a2 S = some u) : G X 3 0 0 0 [(0, .ref q), (1, .ref (ad 0)), (2, .int a2)] [] (tW X.E ad S) := by
  unfold f_R8_X6_tells at hf
  refine g_aloadn hX 1 rfl rfl dX6_tells_0 ?_
  refine g_bipush hX (v := 13) (by decide) dX6_tells_1 ?_
  obtain ⟨z3, S1, h2, hf⟩ := cb_open hf
  refine g_eqW (app1 _) (g_callV (pre := []) (mid := _) (post := []) [.int 13] hX hq kw_RX6_X9_begins (c_X9_begins h2) (fun _ h => absurd h List.not_mem_nil) (by decide) (by decide) (by decide) rfl (Recv.of 0 9 rfl rfl) rfl (Nat.le_of_ble_eq_true rfl) dX6_tells_3 (fun rv ws2 hp2 => ?_))
  obtain ⟨rfl, rfl⟩ := hp2
  refine g_eqW (app1 _).symm ?_
  refine g_aloadn hX 0 rfl rfl dX6_tells_6 ?_
  refine g_aloadn hX 1 rfl rfl dX6_tells_7 ?_
  refine g_iloadn hX 2 rfl rfl dX6_tells_8 ?_
  obtain ⟨r4, S6, h5, hf⟩ := cb_open hf
  refine g_eqW (app1 _) (g_callO (pre := []) (mid := _) (post := []) [.ref (ad 0), .int a2] hX hq kwr_RX6_29_virtual_8 (c_R8_X6_rises h5) (fun z hz => (List.mem_singleton.mp hz) ▸ hro) (by decide) (by decide) (by decide) rfl (Recv.ro 8 hro rfl) rfl (Nat.le_of_ble_eq_true rfl) dX6_tells_9 (fun rv ws2 hp2 => ?_))
  obtain ⟨rfl, rfl⟩ := hp2
  refine g_eqW (app1 _).symm ?_
  refine g_aloadn hX 0 rfl rfl dX6_tells_12 ?_
  refine g_aloadn hX 1 rfl rfl dX6_tells_13 ?_
  refine g_iloadn hX 2 rfl rfl dX6_tells_14 ?_
  obtain ⟨r7, S9, h8, hf⟩ := cb_open hf
  refine g_eqW (app1 _) (g_callO (pre := []) (mid := _) (post := []) [.ref (ad 0), .int a2] hX hq kwr_RX6_32_virtual_8 (c_R8_X8_doubts h8) (fun z hz => (List.mem_singleton.mp hz) ▸ hro) (by decide) (by decide) (by decide) rfl (Recv.ro 8 hro rfl) rfl (Nat.le_of_ble_eq_true rfl) dX6_tells_15 (fun rv ws2 hp2 => ?_))
  obtain ⟨rfl, rfl⟩ := hp2
  refine g_eqW (app1 _).symm ?_
  refine g_ixor hX dX6_tells_18 ?_
  obtain rfl := oi hf
  exact g_iret hX hq (by decide) (by decide) hp dX6_tells_19
theorem c_R8_X6_tells {l : Launch} {E : En} {ad : Nat → Nat} {q : Nat} {fk fm fn : Int32} {a2 r : Int32} {S S2 : MS} (hf : f_R8_X6_tells fm fn a2 S = some (r, S2)) : CP l E yX6_tells cX6_tells 3 (some .int) 4 0 0 [(q, .inr (8, [.int fk, .int fm, .int fn]))] [.ref q, .ref (ad 0), .int a2] (tW E ad S) (fun rv w => rv = some (.int r) ∧ w = tW E ad S2) :=
  CP.of (lv := [(0, .ref q), (1, .ref (ad 0)), (2, .int a2)]) (by decide +kernel) (Nat.le_of_ble_eq_true rfl) rfl (fun X hl hE hro hX hq hn => by subst hl; subst hE; exact t_R8_X6_tells_0 (fk := fk) (by rw [hro]; exact List.mem_singleton.mpr rfl) hX hq ⟨rfl, rfl⟩ a2 S hf)
theorem kwr_RX8_27_virtual_8 : KwO RX8 27 RX8 RX6 (⟨RX8, "rises", "(LLiftCredit$Trace;I)I"⟩ : MethodName) yX6_rises cX6_rises 3 (some .int) 2 := ⟨mem_wsO wd_4_126 wd_4_127 wd_4_70 wd_4_129 wd_4_70 wd_1_9 wd_4_94, ⟨_, _, _, wd_4_94⟩, ⟨by decide +kernel, by decide +kernel, by decide +kernel⟩, by decide⟩
theorem kwr_RX8_30_special_8 : KwSX RX8 30 (⟨RX10, "tells", "(LLiftCredit$Trace;I)I"⟩ : MethodName) yX6_tells cX6_tells 3 (some .int) 2 := ⟨⟨wd_4_130, wd_4_131, wd_1_210, wd_1_180, wd_1_9, wd_4_133⟩, rfl, ⟨by decide +kernel, by decide +kernel⟩, by decide⟩
def f_R8_X8_tells (fm fn : Int32) (a2 : Int32) (S : MS) : Option (Int32 × MS) :=
  cb (f_X9_begins 71 S) fun _ S1 =>
  cb (f_R8_X6_rises fm fn a2 S1) fun r4 S6 =>
  cb (f_R8_X6_tells fm fn a2 S6) fun r7 S9 =>
  some ((r4 - r7), S9)
set_option maxRecDepth 100000 in
set_option maxHeartbeats 4000000 in
theorem t_R8_X8_tells_0 {X : Cx} {ad : Nat → Nat} {q : Nat} {fk fm fn : Int32} (hro : (q, .inr (8, [.int fk, .int fm, .int fn])) ∈ X.ro) {PostX : Option Value → va_W → Prop} (hX : Ok X cX8_tells 3 RX8) (hq : Rq X 5 0 0 (some .int) PostX) {u : (Int32 × MS)} (hp : PostX (some (.int u.1)) (tW X.E ad u.2)) (a2 : Int32) (S : MS) (hf : f_R8_X8_tells fm fn a2 S = some u) : G X 3 0 0 0 [(0, .ref q), (1, .ref (ad 0)), (2, .int a2)] [] (tW X.E ad S) := by
  unfold f_R8_X8_tells at hf
  refine g_aloadn hX 1 rfl rfl dX8_tells_0 ?_
  refine g_bipush hX (v := 71) (by decide) dX8_tells_1 ?_
  obtain ⟨z3, S1, h2, hf⟩ := cb_open hf
  refine g_eqW (app1 _) (g_callV (pre := []) (mid := _) (post := []) [.int 71] hX hq kw_RX8_X9_begins (c_X9_begins h2) (fun _ h => absurd h List.not_mem_nil) (by decide) (by decide) (by decide) rfl (Recv.of 0 9 rfl rfl) rfl (Nat.le_of_ble_eq_true rfl) dX8_tells_3 (fun rv ws2 hp2 => ?_))
  obtain ⟨rfl, rfl⟩ := hp2
  refine g_eqW (app1 _).symm ?_
  refine g_aloadn hX 0 rfl rfl dX8_tells_6 ?_
  refine g_aloadn hX 1 rfl rfl dX8_tells_7 ?_
  refine g_iloadn hX 2 rfl rfl dX8_tells_8 ?_
  obtain ⟨r4, S6, h5, hf⟩ := cb_open hf
  refine g_eqW (app1 _) (g_callO (pre := []) (mid := _) (post := []) [.ref (ad 0), .int a2] hX hq kwr_RX8_27_virtual_8 (c_R8_X6_rises h5) (fun z hz => (List.mem_singleton.mp hz) ▸ hro) (by decide) (by decide) (by decide) rfl (Recv.ro 8 hro rfl) rfl (Nat.le_of_ble_eq_true rfl) dX8_tells_9 (fun rv ws2 hp2 => ?_))
  obtain ⟨rfl, rfl⟩ := hp2
  refine g_eqW (app1 _).symm ?_
  refine g_aloadn hX 0 rfl rfl dX8_tells_12 ?_
  refine g_aloadn hX 1 rfl rfl dX8_tells_13 ?_
  refine g_iloadn hX 2 rfl rfl dX8_tells_14 ?_
  obtain ⟨r7, S9, h8, hf⟩ := cb_open hf
  refine g_eqW (app1 _) (g_callSX (pre := []) (mid := _) (post := []) [.ref (ad 0), .int a2] hX hq kwr_RX8_30_special_8 wd_4_106 (c_R8_X6_tells h8) (fun z hz => (List.mem_singleton.mp hz) ▸ hro) (by decide) (by decide) (by decide) rfl (Recv.ro 8 hro rfl) rfl (Nat.le_of_ble_eq_true rfl) dX8_tells_15 (fun rv ws2 hp2 => ?_))
  obtain ⟨rfl, rfl⟩ := hp2
  refine g_eqW (app1 _).symm ?_
  refine g_isub hX dX8_tells_18 ?_
  obtain rfl := oi hf
  exact g_iret hX hq (by decide) (by decide) hp dX8_tells_19
theorem c_R8_X8_tells {l : Launch} {E : En} {ad : Nat → Nat} {q : Nat} {fk fm fn : Int32} {a2 r : Int32} {S S2 : MS} (hf : f_R8_X8_tells fm fn a2 S = some (r, S2)) : CP l E yX8_tells cX8_tells 3 (some .int) 5 0 0 [(q, .inr (8, [.int fk, .int fm, .int fn]))] [.ref q, .ref (ad 0), .int a2] (tW E ad S) (fun rv w => rv = some (.int r) ∧ w = tW E ad S2) :=
  CP.of (lv := [(0, .ref q), (1, .ref (ad 0)), (2, .int a2)]) (by decide +kernel) (Nat.le_of_ble_eq_true rfl) rfl (fun X hl hE hro hX hq hn => by subst hl; subst hE; exact t_R8_X8_tells_0 (fk := fk) (by rw [hro]; exact List.mem_singleton.mpr rfl) hX hq ⟨rfl, rfl⟩ a2 S hf)
def f_R10_X6_counted (fm fn : Int32) (a1 : Int32) : Option Int32 :=
  some a1
set_option maxRecDepth 100000 in
set_option maxHeartbeats 4000000 in
theorem t_R10_X6_counted_0 {X : Cx} {q : Nat} {fk fm fn : Int32} (hro : (q, .inr (10, [.int fk, .int fm, .int fn])) ∈ X.ro) {PostX : Option Value → va_W → Prop} (hX : Ok X cX6_counted 2 RX6) (hq : Rq X 0 0 0 (some .int) PostX) {u : Int32} (hp : PostX (some (.int u)) []) (a1 : Int32) (hf : f_R10_X6_counted fm fn a1 = some u) : G X 2 0 0 0 [(0, .ref q), (1, .int a1)] [] [] := by
  unfold f_R10_X6_counted at hf
  refine g_iloadn hX 1 rfl rfl dX6_counted_0 ?_
  obtain rfl := oi hf
  exact g_iret hX hq (by decide) (by decide) hp dX6_counted_1
theorem c_R10_X6_counted {l : Launch} {E : En} {q : Nat} {fk fm fn : Int32} {a1 r : Int32} (hf : f_R10_X6_counted fm fn a1 = some r) : CP l E yX6_counted cX6_counted 2 (some .int) 0 0 0 [(q, .inr (10, [.int fk, .int fm, .int fn]))] [.ref q, .int a1] [] (fun rv w => rv = some (.int r) ∧ w = []) :=
  CP.of (lv := [(0, .ref q), (1, .int a1)]) (by decide +kernel) (Nat.le_of_ble_eq_true rfl) rfl (fun X hl hE hro hX hq hn => t_R10_X6_counted_0 (fk := fk) (by rw [hro]; exact List.mem_singleton.mpr rfl) hX hq ⟨rfl, rfl⟩ a1 hf)
def f_R10_X6_credit (fm fn : Int32) (a1 : Int32) (a2 : Int32) (a3 : Int32) (a4 : Int32) : Option Int32 :=
  some a1
set_option maxRecDepth 100000 in
set_option maxHeartbeats 4000000 in
theorem t_R10_X6_credit_0 {X : Cx} {q : Nat} {fk fm fn : Int32} (hro : (q, .inr (10, [.int fk, .int fm, .int fn])) ∈ X.ro) {PostX : Option Value → va_W → Prop} (hX : Ok X cX6_credit 5 RX6) (hq : Rq X 0 0 0 (some .int) PostX) {u : Int32} (hp : PostX (some (.int u)) []) (a1 : Int32) (a2 : Int32) (a3 : Int32) (a4 : Int32) (hf : f_R10_X6_credit fm fn a1 a2 a3 a4 = some u) : G X 5 0 0 0 [(0, .ref q), (1, .int a1), (2, .int a2), (3, .int a3), (4, .int a4)] [] [] := by
  unfold f_R10_X6_credit at hf
  refine g_iloadn hX 1 rfl rfl dX6_credit_0 ?_
  obtain rfl := oi hf
  exact g_iret hX hq (by decide) (by decide) hp dX6_credit_1
theorem c_R10_X6_credit {l : Launch} {E : En} {q : Nat} {fk fm fn : Int32} {a1 a2 a3 a4 r : Int32} (hf : f_R10_X6_credit fm fn a1 a2 a3 a4 = some r) : CP l E yX6_credit cX6_credit 5 (some .int) 0 0 0 [(q, .inr (10, [.int fk, .int fm, .int fn]))] [.ref q, .int a1, .int a2, .int a3, .int a4] [] (fun rv w => rv = some (.int r) ∧ w = []) :=
  CP.of (lv := [(0, .ref q), (1, .int a1), (2, .int a2), (3, .int a3), (4, .int a4)]) (by decide +kernel) (Nat.le_of_ble_eq_true rfl) rfl (fun X hl hE hro hX hq hn => t_R10_X6_credit_0 (fk := fk) (by rw [hro]; exact List.mem_singleton.mpr rfl) hX hq ⟨rfl, rfl⟩ a1 a2 a3 a4 hf)
def f_R10_X10_credit (fm fn : Int32) (a1 : Int32) (a2 : Int32) (a3 : Int32) (a4 : Int32) : Option Int32 :=
  if (a3 = 0 : Prop) then
    some (a1 + 3)
  else
    some a1
set_option maxRecDepth 100000 in
set_option maxHeartbeats 4000000 in
theorem t_R10_X10_credit_0 {X : Cx} {q : Nat} {fk fm fn : Int32} (hro : (q, .inr (10, [.int fk, .int fm, .int fn])) ∈ X.ro) {PostX : Option Value → va_W → Prop} (hX : Ok X cX10_credit 5 RX10) (hq : Rq X 0 0 0 (some .int) PostX) {u : Int32} (hp : PostX (some (.int u)) []) (a1 : Int32) (a2 : Int32) (a3 : Int32) (a4 : Int32) (hf : f_R10_X10_credit fm fn a1 a2 a3 a4 = some u) : G X 5 0 0 0 [(0, .ref q), (1, .int a1), (2, .int a2), (3, .int a3), (4, .int a4)] [] [] := by
  unfold f_R10_X10_credit at hf
  refine g_iloadn hX 3 rfl rfl dX10_credit_0 ?_
  refine g_if_ne hX 10 (by decide) dX10_credit_1 (fun c1 => ?_) (fun c1 => ?_)
  · have hf := ite_f c1 hf
    refine g_iloadn hX 1 rfl rfl dX10_credit_10 ?_
    obtain rfl := oi hf
    exact g_iret hX hq (by decide) (by decide) hp dX10_credit_11
  · have hf := ite_t c1 hf
    refine g_iloadn hX 1 rfl rfl dX10_credit_4 ?_
    refine g_iconst hX (v := 3) (by decide) dX10_credit_5 ?_
    refine g_iadd hX dX10_credit_6 ?_
    refine g_goto hX 11 (by decide) dX10_credit_7 ?_
    obtain rfl := oi hf
    exact g_iret hX hq (by decide) (by decide) hp dX10_credit_11
theorem c_R10_X10_credit {l : Launch} {E : En} {q : Nat} {fk fm fn : Int32} {a1 a2 a3 a4 r : Int32} (hf : f_R10_X10_credit fm fn a1 a2 a3 a4 = some r) : CP l E yX10_credit cX10_credit 5 (some .int) 0 0 0 [(q, .inr (10, [.int fk, .int fm, .int fn]))] [.ref q, .int a1, .int a2, .int a3, .int a4] [] (fun rv w => rv = some (.int r) ∧ w = []) :=
  CP.of (lv := [(0, .ref q), (1, .int a1), (2, .int a2), (3, .int a3), (4, .int a4)]) (by decide +kernel) (Nat.le_of_ble_eq_true rfl) rfl (fun X hl hE hro hX hq hn => t_R10_X10_credit_0 (fk := fk) (by rw [hro]; exact List.mem_singleton.mpr rfl) hX hq ⟨rfl, rfl⟩ a1 a2 a3 a4 hf)
def f_R10_X6_says (fm fn : Int32) (a2 : Int32) (S : MS) : Option (Int32 × MS) :=
  cb (f_X9_begins 10 S) fun _ S1 =>
  some ((a2 + fn), S1)
set_option maxRecDepth 100000 in
set_option maxHeartbeats 4000000 in
theorem t_R10_X6_says_0 {X : Cx} {ad : Nat → Nat} {q : Nat} {fk fm fn : Int32} (hro : (q, .inr (10, [.int fk, .int fm, .int fn])) ∈ X.ro) {PostX : Option Value → va_W → Prop} (hX : Ok X cX6_says 3 RX6) (hq : Rq X 1 0 0 (some .int) PostX) {u : (Int32 × MS)} (hp : PostX (some (.int u.1)) (tW X.E ad u.2)) (a2 : Int32) (S : MS) (hf : f_R10_X6_says fm fn a2 S = some u) : G X 3 0 0 0 [(0, .ref q), (1, .ref (ad 0)), (2, .int a2)] [] (tW X.E ad S) := by
  unfold f_R10_X6_says at hf
  refine g_aloadn hX 1 rfl rfl dX6_says_0 ?_
  refine g_bipush hX (v := 10) (by decide) dX6_says_1 ?_
  obtain ⟨z3, S1, h2, hf⟩ := cb_open hf
  refine g_eqW (app1 _) (g_callV (pre := []) (mid := _) (post := []) [.int 10] hX hq kw_RX6_X9_begins (c_X9_begins h2) (fun _ h => absurd h List.not_mem_nil) (by decide) (by decide) (by decide) rfl (Recv.of 0 9 rfl rfl) rfl (Nat.le_of_ble_eq_true rfl) dX6_says_3 (fun rv ws2 hp2 => ?_))
  obtain ⟨rfl, rfl⟩ := hp2
  refine g_eqW (app1 _).symm ?_
  refine g_iloadn hX 2 rfl rfl dX6_says_6 ?_
  refine g_aloadn hX 0 rfl rfl dX6_says_7 ?_
  refine g_getR (C := RX10) (T := TX10) (N := 3) hX inX10 hro rfl 2 (by decide) wd_1_151 (fun _ h => h) rfl dX6_says_8 ?_
  refine g_iadd hX dX6_says_11 ?_
  obtain rfl := oi hf
  exact g_iret hX hq (by decide) (by decide) hp dX6_says_12
theorem c_R10_X6_says {l : Launch} {E : En} {ad : Nat → Nat} {q : Nat} {fk fm fn : Int32} {a2 r : Int32} {S S2 : MS} (hf : f_R10_X6_says fm fn a2 S = some (r, S2)) : CP l E yX6_says cX6_says 3 (some .int) 1 0 0 [(q, .inr (10, [.int fk, .int fm, .int fn]))] [.ref q, .ref (ad 0), .int a2] (tW E ad S) (fun rv w => rv = some (.int r) ∧ w = tW E ad S2) :=
  CP.of (lv := [(0, .ref q), (1, .ref (ad 0)), (2, .int a2)]) (by decide +kernel) (Nat.le_of_ble_eq_true rfl) rfl (fun X hl hE hro hX hq hn => by subst hl; subst hE; exact t_R10_X6_says_0 (fk := fk) (by rw [hro]; exact List.mem_singleton.mpr rfl) hX hq ⟨rfl, rfl⟩ a2 S hf)
def f_R10_X6_doubts (fm fn : Int32) (a2 : Int32) (S : MS) : Option (Int32 × MS) :=
  cb (f_X9_begins 12 S) fun _ S1 =>
  some ((a2 - fm), S1)
set_option maxRecDepth 100000 in
set_option maxHeartbeats 4000000 in
theorem t_R10_X6_doubts_0 {X : Cx} {ad : Nat → Nat} {q : Nat} {fk fm fn : Int32} (hro : (q, .inr (10, [.int fk, .int fm, .int fn])) ∈ X.ro) {PostX : Option Value → va_W → Prop} (hX : Ok X cX6_doubts 3 RX6) (hq : Rq X 1 0 0 (some .int) PostX) {u : (Int32 × MS)} (hp : PostX (some (.int u.1)) (tW X.E ad u.2)) (a2 : Int32) (S : MS) (hf : f_R10_X6_doubts fm fn a2 S = some u) : G X 3 0 0 0 [(0, .ref q), (1, .ref (ad 0)), (2, .int a2)] [] (tW X.E ad S) := by
  unfold f_R10_X6_doubts at hf
  refine g_aloadn hX 1 rfl rfl dX6_doubts_0 ?_
  refine g_bipush hX (v := 12) (by decide) dX6_doubts_1 ?_
  obtain ⟨z3, S1, h2, hf⟩ := cb_open hf
  refine g_eqW (app1 _) (g_callV (pre := []) (mid := _) (post := []) [.int 12] hX hq kw_RX6_X9_begins (c_X9_begins h2) (fun _ h => absurd h List.not_mem_nil) (by decide) (by decide) (by decide) rfl (Recv.of 0 9 rfl rfl) rfl (Nat.le_of_ble_eq_true rfl) dX6_doubts_3 (fun rv ws2 hp2 => ?_))
  obtain ⟨rfl, rfl⟩ := hp2
  refine g_eqW (app1 _).symm ?_
  refine g_iloadn hX 2 rfl rfl dX6_doubts_6 ?_
  refine g_aloadn hX 0 rfl rfl dX6_doubts_7 ?_
  refine g_getR (C := RX10) (T := TX10) (N := 3) hX inX10 hro rfl 1 (by decide) wd_1_147 (fun _ h => h) rfl dX6_doubts_8 ?_
  refine g_isub hX dX6_doubts_11 ?_
  obtain rfl := oi hf
  exact g_iret hX hq (by decide) (by decide) hp dX6_doubts_12
theorem c_R10_X6_doubts {l : Launch} {E : En} {ad : Nat → Nat} {q : Nat} {fk fm fn : Int32} {a2 r : Int32} {S S2 : MS} (hf : f_R10_X6_doubts fm fn a2 S = some (r, S2)) : CP l E yX6_doubts cX6_doubts 3 (some .int) 1 0 0 [(q, .inr (10, [.int fk, .int fm, .int fn]))] [.ref q, .ref (ad 0), .int a2] (tW E ad S) (fun rv w => rv = some (.int r) ∧ w = tW E ad S2) :=
  CP.of (lv := [(0, .ref q), (1, .ref (ad 0)), (2, .int a2)]) (by decide +kernel) (Nat.le_of_ble_eq_true rfl) rfl (fun X hl hE hro hX hq hn => by subst hl; subst hE; exact t_R10_X6_doubts_0 (fk := fk) (by rw [hro]; exact List.mem_singleton.mpr rfl) hX hq ⟨rfl, rfl⟩ a2 S hf)
theorem kwr_RX10_13_special_10 : KwSU RX10 13 yX6_doubts cX6_doubts 3 (some .int) 2 := ⟨mem_wsSU wd_4_104 wd_6_175 wd_1_180 wd_4_85 wd_1_9 wd_4_86, ⟨by decide +kernel, by decide +kernel⟩, by decide⟩
def f_R10_X10_doubts (fm fn : Int32) (a2 : Int32) (S : MS) : Option (Int32 × MS) :=
  cb (f_X9_begins 40 S) fun _ S1 =>
  cb (f_R10_X6_doubts fm fn a2 S1) fun r4 S6 =>
  some ((-r4), S6)
set_option maxRecDepth 100000 in
set_option maxHeartbeats 4000000 in
theorem t_R10_X10_doubts_0 {X : Cx} {ad : Nat → Nat} {q : Nat} {fk fm fn : Int32} (hro : (q, .inr (10, [.int fk, .int fm, .int fn])) ∈ X.ro) {PostX : Option Value → va_W → Prop} (hX : Ok X cX10_doubts 3 RX10) (hq : Rq X 2 0 0 (some .int) PostX) {u : (Int32 × MS)} (hp : PostX (some (.int u.1)) (tW X.E ad u.2)) (a2 : Int32) (S : MS) (hf : f_R10_X10_doubts fm fn a2 S = some u) : G X 3 0 0 0 [(0, .ref q), (1, .ref (ad 0)), (2, .int a2)] [] (tW X.E ad S) := by
  unfold f_R10_X10_doubts at hf
  refine g_aloadn hX 1 rfl rfl dX10_doubts_0 ?_
  refine g_bipush hX (v := 40) (by decide) dX10_doubts_1 ?_
  obtain ⟨z3, S1, h2, hf⟩ := cb_open hf
  refine g_eqW (app1 _) (g_callV (pre := []) (mid := _) (post := []) [.int 40] hX hq kw_RX10_X9_begins (c_X9_begins h2) (fun _ h => absurd h List.not_mem_nil) (by decide) (by decide) (by decide) rfl (Recv.of 0 9 rfl rfl) rfl (Nat.le_of_ble_eq_true rfl) dX10_doubts_3 (fun rv ws2 hp2 => ?_))
  obtain ⟨rfl, rfl⟩ := hp2
  refine g_eqW (app1 _).symm ?_
  refine g_aloadn hX 0 rfl rfl dX10_doubts_6 ?_
  refine g_aloadn hX 1 rfl rfl dX10_doubts_7 ?_
  refine g_iloadn hX 2 rfl rfl dX10_doubts_8 ?_
  obtain ⟨r4, S6, h5, hf⟩ := cb_open hf
  refine g_eqW (app1 _) (g_callSU (pre := []) (mid := _) (post := []) [.ref (ad 0), .int a2] hX hq kwr_RX10_13_special_10 (c_R10_X6_doubts h5) (fun z hz => (List.mem_singleton.mp hz) ▸ hro) (by decide) (by decide) (by decide) rfl (Recv.ro 10 hro rfl) rfl (Nat.le_of_ble_eq_true rfl) dX10_doubts_9 (fun rv ws2 hp2 => ?_))
  obtain ⟨rfl, rfl⟩ := hp2
  refine g_eqW (app1 _).symm ?_
  refine g_ineg hX dX10_doubts_12 ?_
  obtain rfl := oi hf
  exact g_iret hX hq (by decide) (by decide) hp dX10_doubts_13
theorem c_R10_X10_doubts {l : Launch} {E : En} {ad : Nat → Nat} {q : Nat} {fk fm fn : Int32} {a2 r : Int32} {S S2 : MS} (hf : f_R10_X10_doubts fm fn a2 S = some (r, S2)) : CP l E yX10_doubts cX10_doubts 3 (some .int) 2 0 0 [(q, .inr (10, [.int fk, .int fm, .int fn]))] [.ref q, .ref (ad 0), .int a2] (tW E ad S) (fun rv w => rv = some (.int r) ∧ w = tW E ad S2) :=
  CP.of (lv := [(0, .ref q), (1, .ref (ad 0)), (2, .int a2)]) (by decide +kernel) (Nat.le_of_ble_eq_true rfl) rfl (fun X hl hE hro hX hq hn => by subst hl; subst hE; exact t_R10_X10_doubts_0 (fk := fk) (by rw [hro]; exact List.mem_singleton.mpr rfl) hX hq ⟨rfl, rfl⟩ a2 S hf)
theorem kwr_RX6_25_virtual_10 : KwO RX6 25 RX10 RX6 yX6_says yX6_says cX6_says 3 (some .int) 2 := ⟨mem_wsO wd_4_95 wd_4_53 wd_4_51 wd_4_66 wd_4_51 wd_1_9 wd_4_67, ⟨_, _, _, wd_4_67⟩, ⟨by decide +kernel, by decide +kernel, by decide +kernel⟩, by decide⟩
def f_R10_X6_rises (fm fn : Int32) (a2 : Int32) (S : MS) : Option (Int32 × MS) :=
  cb (f_X9_begins 11 S) fun _ S1 =>
  cb (f_R10_X6_says fm fn a2 S1) fun r4 S6 =>
  some ((r4 * 2), S6)
set_option maxRecDepth 100000 in
set_option maxHeartbeats 4000000 in
theorem t_R10_X6_rises_0 {X : Cx} {ad : Nat → Nat} {q : Nat} {fk fm fn : Int32} (hro : (q, .inr (10, [.int fk, .int fm, .int fn])) ∈ X.ro) {PostX : Option Value → va_W → Prop} (hX : Ok X cX6_rises 3 RX6) (hq : Rq X 2 0 0 (some .int) PostX) {u : (Int32 × MS)} (hp : PostX (some (.int u.1)) (tW X.E ad u.2)) (a2 : Int32) (S : MS) (hf : f_R10_X6_rises fm fn a2 S = some u) : G X 3 0 0 0 [(0, .ref q), (1, .ref (ad 0)), (2, .int a2)] [] (tW X.E ad S) := by
  unfold f_R10_X6_rises at hf
  refine g_aloadn hX 1 rfl rfl dX6_rises_0 ?_
  refine g_bipush hX (v := 11) (by decide) dX6_rises_1 ?_
  obtain ⟨z3, S1, h2, hf⟩ := cb_open hf
  refine g_eqW (app1 _) (g_callV (pre := []) (mid := _) (post := []) [.int 11] hX hq kw_RX6_X9_begins (c_X9_begins h2) (fun _ h => absurd h List.not_mem_nil) (by decide) (by decide) (by decide) rfl (Recv.of 0 9 rfl rfl) rfl (Nat.le_of_ble_eq_true rfl) dX6_rises_3 (fun rv ws2 hp2 => ?_))
  obtain ⟨rfl, rfl⟩ := hp2
  refine g_eqW (app1 _).symm ?_
  refine g_aloadn hX 0 rfl rfl dX6_rises_6 ?_
  refine g_aloadn hX 1 rfl rfl dX6_rises_7 ?_
  refine g_iloadn hX 2 rfl rfl dX6_rises_8 ?_
  obtain ⟨r4, S6, h5, hf⟩ := cb_open hf
  refine g_eqW (app1 _) (g_callO (pre := []) (mid := _) (post := []) [.ref (ad 0), .int a2] hX hq kwr_RX6_25_virtual_10 (c_R10_X6_says h5) (fun z hz => (List.mem_singleton.mp hz) ▸ hro) (by decide) (by decide) (by decide) rfl (Recv.ro 10 hro rfl) rfl (Nat.le_of_ble_eq_true rfl) dX6_rises_9 (fun rv ws2 hp2 => ?_))
  obtain ⟨rfl, rfl⟩ := hp2
  refine g_eqW (app1 _).symm ?_
  refine g_iconst hX (v := 2) (by decide) dX6_rises_12 ?_
  refine g_imul hX dX6_rises_13 ?_
  obtain rfl := oi hf
  exact g_iret hX hq (by decide) (by decide) hp dX6_rises_14
theorem c_R10_X6_rises {l : Launch} {E : En} {ad : Nat → Nat} {q : Nat} {fk fm fn : Int32} {a2 r : Int32} {S S2 : MS} (hf : f_R10_X6_rises fm fn a2 S = some (r, S2)) : CP l E yX6_rises cX6_rises 3 (some .int) 2 0 0 [(q, .inr (10, [.int fk, .int fm, .int fn]))] [.ref q, .ref (ad 0), .int a2] (tW E ad S) (fun rv w => rv = some (.int r) ∧ w = tW E ad S2) :=
  CP.of (lv := [(0, .ref q), (1, .ref (ad 0)), (2, .int a2)]) (by decide +kernel) (Nat.le_of_ble_eq_true rfl) rfl (fun X hl hE hro hX hq hn => by subst hl; subst hE; exact t_R10_X6_rises_0 (fk := fk) (by rw [hro]; exact List.mem_singleton.mpr rfl) hX hq ⟨rfl, rfl⟩ a2 S hf)
theorem kwr_RX6_29_virtual_10 : KwO RX6 29 RX10 RX6 yX6_rises yX6_rises cX6_rises 3 (some .int) 2 := ⟨mem_wsO wd_4_134 wd_4_72 wd_4_70 wd_4_93 wd_4_70 wd_1_9 wd_4_94, ⟨_, _, _, wd_4_94⟩, ⟨by decide +kernel, by decide +kernel, by decide +kernel⟩, by decide⟩
theorem kwr_RX6_32_virtual_10 : KwO RX6 32 RX10 RX6 yX6_doubts yX10_doubts cX10_doubts 3 (some .int) 2 := ⟨mem_wsO wd_4_135 wd_6_175 wd_4_85 wd_6_183 wd_4_101 wd_1_12 wd_4_102, ⟨_, _, _, wd_4_86⟩, ⟨by decide +kernel, by decide +kernel, by decide +kernel⟩, by decide⟩
def f_R10_X6_tells (fm fn : Int32) (a2 : Int32) (S : MS) : Option (Int32 × MS) :=
  cb (f_X9_begins 13 S) fun _ S1 =>
  cb (f_R10_X6_rises fm fn a2 S1) fun r4 S6 =>
  cb (f_R10_X10_doubts fm fn a2 S6) fun r7 S9 =>
  some ((r4 ^^^ r7), S9)
set_option maxRecDepth 100000 in
set_option maxHeartbeats 4000000 in
theorem t_R10_X6_tells_0 {X : Cx} {ad : Nat → Nat} {q : Nat} {fk fm fn : Int32} (hro : (q, .inr (10, [.int fk, .int fm, .int fn])) ∈ X.ro) {PostX : Option Value → va_W → Prop} (hX : Ok X cX6_tells 3 RX6) (hq : Rq X 3 0 0 (some .int) PostX) {u : (Int32 × MS)} (hp : PostX (some (.int u.1)) (tW X.E ad u.2)) (a2 : Int32) (S : MS) (hf : f_R10_X6_tells fm fn a2 S = some u) : G X 3 0 0 0 [(0, .ref q), (1, .ref (ad 0)), (2, .int a2)] [] (tW X.E ad S) := by
  unfold f_R10_X6_tells at hf
  refine g_aloadn hX 1 rfl rfl dX6_tells_0 ?_
  refine g_bipush hX (v := 13) (by decide) dX6_tells_1 ?_
  obtain ⟨z3, S1, h2, hf⟩ := cb_open hf
  refine g_eqW (app1 _) (g_callV (pre := []) (mid := _) (post := []) [.int 13] hX hq kw_RX6_X9_begins (c_X9_begins h2) (fun _ h => absurd h List.not_mem_nil) (by decide) (by decide) (by decide) rfl (Recv.of 0 9 rfl rfl) rfl (Nat.le_of_ble_eq_true rfl) dX6_tells_3 (fun rv ws2 hp2 => ?_))
  obtain ⟨rfl, rfl⟩ := hp2
  refine g_eqW (app1 _).symm ?_
  refine g_aloadn hX 0 rfl rfl dX6_tells_6 ?_
  refine g_aloadn hX 1 rfl rfl dX6_tells_7 ?_
  refine g_iloadn hX 2 rfl rfl dX6_tells_8 ?_
  obtain ⟨r4, S6, h5, hf⟩ := cb_open hf
  refine g_eqW (app1 _) (g_callO (pre := []) (mid := _) (post := []) [.ref (ad 0), .int a2] hX hq kwr_RX6_29_virtual_10 (c_R10_X6_rises h5) (fun z hz => (List.mem_singleton.mp hz) ▸ hro) (by decide) (by decide) (by decide) rfl (Recv.ro 10 hro rfl) rfl (Nat.le_of_ble_eq_true rfl) dX6_tells_9 (fun rv ws2 hp2 => ?_))
  obtain ⟨rfl, rfl⟩ := hp2
  refine g_eqW (app1 _).symm ?_
  refine g_aloadn hX 0 rfl rfl dX6_tells_12 ?_
  refine g_aloadn hX 1 rfl rfl dX6_tells_13 ?_
  refine g_iloadn hX 2 rfl rfl dX6_tells_14 ?_
  obtain ⟨r7, S9, h8, hf⟩ := cb_open hf
  refine g_eqW (app1 _) (g_callO (pre := []) (mid := _) (post := []) [.ref (ad 0), .int a2] hX hq kwr_RX6_32_virtual_10 (c_R10_X10_doubts h8) (fun z hz => (List.mem_singleton.mp hz) ▸ hro) (by decide) (by decide) (by decide) rfl (Recv.ro 10 hro rfl) rfl (Nat.le_of_ble_eq_true rfl) dX6_tells_15 (fun rv ws2 hp2 => ?_))
  obtain ⟨rfl, rfl⟩ := hp2
  refine g_eqW (app1 _).symm ?_
  refine g_ixor hX dX6_tells_18 ?_
  obtain rfl := oi hf
  exact g_iret hX hq (by decide) (by decide) hp dX6_tells_19
theorem c_R10_X6_tells {l : Launch} {E : En} {ad : Nat → Nat} {q : Nat} {fk fm fn : Int32} {a2 r : Int32} {S S2 : MS} (hf : f_R10_X6_tells fm fn a2 S = some (r, S2)) : CP l E yX6_tells cX6_tells 3 (some .int) 3 0 0 [(q, .inr (10, [.int fk, .int fm, .int fn]))] [.ref q, .ref (ad 0), .int a2] (tW E ad S) (fun rv w => rv = some (.int r) ∧ w = tW E ad S2) :=
  CP.of (lv := [(0, .ref q), (1, .ref (ad 0)), (2, .int a2)]) (by decide +kernel) (Nat.le_of_ble_eq_true rfl) rfl (fun X hl hE hro hX hq hn => by subst hl; subst hE; exact t_R10_X6_tells_0 (fk := fk) (by rw [hro]; exact List.mem_singleton.mpr rfl) hX hq ⟨rfl, rfl⟩ a2 S hf)

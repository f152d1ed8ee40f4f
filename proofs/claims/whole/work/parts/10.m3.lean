def f_X12_byteAt (a1 : Int32) (S : MS) : Option (Int32 × MS) :=
  if ((S.2 7) ≤ a1 : Prop) then
    some ((-1), S)
  else
    gix ((106 + (50 * (S.2 5))) + a1) 206 fun k2 =>
    some ((S.1 1 k2), S)
set_option maxRecDepth 100000 in
set_option maxHeartbeats 4000000 in
theorem t_X12_byteAt_0 {X : Cx} {ad : Nat → Nat} {PostX : Option Value → va_W → Prop} (hX : Ok X cX12_byteAt 2 RX12) (hq : Rq X 0 0 0 (some .int) PostX) {u : (Int32 × MS)} (hp : PostX (some (.int u.1)) (mW X.E ad u.2)) (a1 : Int32) (S : MS) (hf : f_X12_byteAt a1 S = some u) : G X 2 0 0 0 [(0, .ref (ad 0)), (1, .int a1)] [] (mW X.E ad S) := by
  unfold f_X12_byteAt at hf
  refine g_iloadn hX 1 rfl rfl dX12_byteAt_0 ?_
  refine g_aloadn hX 0 rfl rfl dX12_byteAt_1 ?_
  refine mg_end hX (v := S.2 7) rfl dX12_byteAt_2 ?_
  refine g_icmp_ge hX 28 (by decide) dX12_byteAt_5 (fun c1 => ?_) (fun c1 => ?_)
  · have hf := ite_t c1 hf
    refine g_iconst hX (v := (-1)) (by decide) dX12_byteAt_28 ?_
    obtain rfl := oi hf
    exact g_iret hX hq (by decide) (by decide) hp dX12_byteAt_29
  · have hf := ite_f c1 hf
    refine g_aloadn hX 0 rfl rfl dX12_byteAt_8 ?_
    refine mg_row hX dX12_byteAt_9 ?_
    refine g_bipush hX (v := 106) (by decide) dX12_byteAt_12 ?_
    refine g_bipush hX (v := 50) (by decide) dX12_byteAt_14 ?_
    refine g_aloadn hX 0 rfl rfl dX12_byteAt_16 ?_
    refine mg_use hX (v := S.2 5) rfl dX12_byteAt_17 ?_
    refine g_imul hX dX12_byteAt_20 ?_
    refine g_iadd hX dX12_byteAt_21 ?_
    refine g_iloadn hX 1 rfl rfl dX12_byteAt_22 ?_
    refine g_iadd hX dX12_byteAt_23 ?_
    obtain ⟨k2, jk2, ik2, hf⟩ := gix_open hf
    refine ml_row hX ik2 k2 jk2 (v := S.1 1 k2) rfl dX12_byteAt_24 ?_
    refine g_goto hX 29 (by decide) dX12_byteAt_25 ?_
    obtain rfl := oi hf
    exact g_iret hX hq (by decide) (by decide) hp dX12_byteAt_29
theorem c_X12_byteAt {l : Launch} {E : En} {ad : Nat → Nat} {a1 : Int32} {r : Int32} {S S2 : MS} (hf : f_X12_byteAt a1 S = some (r, S2)) : CP l E yX12_byteAt cX12_byteAt 2 (some .int) 0 0 0 [] [.ref (ad 0), .int a1] (mW E ad S) (fun rv w => rv = some (.int r) ∧ w = mW E ad S2) :=
  CP.of (lv := [(0, .ref (ad 0)), (1, .int a1)]) (by decide +kernel) (Nat.le_of_ble_eq_true rfl) rfl (fun X hl hE hro hX hq hn => by subst hl; subst hE; exact t_X12_byteAt_0 hX hq ⟨rfl, rfl⟩ a1 S hf)
theorem kw_RX12_X12_byteAt : KwV RX12 130 RX12 yX12_byteAt cX12_byteAt 2 (some .int) 1 := ⟨mem_wsV wd_5_157 wd_5_159 wd_s_32 wd_1_19 wd_5_160, rfl, ⟨by decide +kernel, by decide +kernel, by decide +kernel⟩, by decide⟩
theorem k_X12_byteAt {X : Cx} {cc : ByteArray} {nL ce sl pc : Nat} {lv : List (Nat × Value)} {st : List Value} {dX mcX msX : Nat} {retX : Option FieldType} {PostX : Option Value → va_W → Prop} {ad : Nat → Nat} {S S2 : MS} {d : Nat} (hX : Ok X cc nL RX12) (hq : Rq X dX mcX msX retX PostX) {a1 : Int32} {r : Int32} (hM : CP X.l X.E yX12_byteAt cX12_byteAt 2 (some .int) d 0 0 [] [.ref (ad 0), .int a1] (mW X.E ad S) (fun rv w => rv = some (.int r) ∧ w = mW X.E ad S2)) (hd : d < dX) (hc : ce ≤ mcX) (hs : sl ≤ msX) (hcat : (st.map fun v => v.category).sum ≤ 8) (hdg : decode cc pc = .ok (.invokevirtual 130, 3)) (kk : G X nL ce sl (pc + 3) lv (.int r :: st) (mW X.E ad S2)) : G X nL ce sl pc lv (.int a1 :: .ref (ad 0) :: st) (mW X.E ad S) :=
  g_eqW (app1 _) (g_callV (pre := []) (mid := mW X.E ad S) (post := []) [.int a1] hX hq kw_RX12_X12_byteAt hM (fun _ h => absurd h List.not_mem_nil) hd hc hs rfl (Recv.of 0 12 rfl rfl) rfl hcat hdg (fun rv ws2 hp => by obtain ⟨rfl, rfl⟩ := hp; exact g_eqW (app1 _).symm kk))
def f_X12_fails (S : MS) : Option (Int32 × MS) :=
  some (0, (sF S 12 0))
set_option maxRecDepth 100000 in
set_option maxHeartbeats 4000000 in
theorem t_X12_fails_0 {X : Cx} {ad : Nat → Nat} {PostX : Option Value → va_W → Prop} (hX : Ok X cX12_fails 1 RX12) (hq : Rq X 0 0 0 (some .int) PostX) {u : (Int32 × MS)} (hp : PostX (some (.int u.1)) (mW X.E ad u.2)) (S : MS) (hf : f_X12_fails S = some u) : G X 1 0 0 0 [(0, .ref (ad 0))] [] (mW X.E ad S) := by
  unfold f_X12_fails at hf
  refine g_aloadn hX 0 rfl rfl dX12_fails_0 ?_
  refine g_iconst hX (v := 0) (by decide) dX12_fails_1 ?_
  refine mp_good hX (by decide) dX12_fails_2 ?_
  refine g_iconst hX (v := 0) (by decide) dX12_fails_5 ?_
  obtain rfl := oi hf
  exact g_iret hX hq (by decide) (by decide) hp dX12_fails_6
theorem c_X12_fails {l : Launch} {E : En} {ad : Nat → Nat} {r : Int32} {S S2 : MS} (hf : f_X12_fails S = some (r, S2)) : CP l E yX12_fails cX12_fails 1 (some .int) 0 0 0 [] [.ref (ad 0)] (mW E ad S) (fun rv w => rv = some (.int r) ∧ w = mW E ad S2) :=
  CP.of (lv := [(0, .ref (ad 0))]) (by decide +kernel) (Nat.le_of_ble_eq_true rfl) rfl (fun X hl hE hro hX hq hn => by subst hl; subst hE; exact t_X12_fails_0 hX hq ⟨rfl, rfl⟩ S hf)
theorem kw_RX12_X12_fails : KwV RX12 136 RX12 yX12_fails cX12_fails 1 (some .int) 0 := ⟨mem_wsV wd_5_172 wd_5_174 wd_s_35 wd_1_19 wd_5_175, rfl, ⟨by decide +kernel, by decide +kernel, by decide +kernel⟩, by decide⟩
theorem k_X12_fails {X : Cx} {cc : ByteArray} {nL ce sl pc : Nat} {lv : List (Nat × Value)} {st : List Value} {dX mcX msX : Nat} {retX : Option FieldType} {PostX : Option Value → va_W → Prop} {ad : Nat → Nat} {S S2 : MS} {d : Nat} (hX : Ok X cc nL RX12) (hq : Rq X dX mcX msX retX PostX) {r : Int32} (hM : CP X.l X.E yX12_fails cX12_fails 1 (some .int) d 0 0 [] [.ref (ad 0)] (mW X.E ad S) (fun rv w => rv = some (.int r) ∧ w = mW X.E ad S2)) (hd : d < dX) (hc : ce ≤ mcX) (hs : sl ≤ msX) (hcat : (st.map fun v => v.category).sum ≤ 8) (hdg : decode cc pc = .ok (.invokevirtual 136, 3)) (kk : G X nL ce sl (pc + 3) lv (.int r :: st) (mW X.E ad S2)) : G X nL ce sl pc lv (.ref (ad 0) :: st) (mW X.E ad S) :=
  g_eqW (app1 _) (g_callV (pre := []) (mid := mW X.E ad S) (post := []) [] hX hq kw_RX12_X12_fails hM (fun _ h => absurd h List.not_mem_nil) hd hc hs rfl (Recv.of 0 12 rfl rfl) rfl hcat hdg (fun rv ws2 hp => by obtain ⟨rfl, rfl⟩ := hp; exact g_eqW (app1 _).symm kk))
def f_X12_number_4 : Nat → Int32 → Int32 → MS → Option (Int32 × MS)
  | 0 => fun _ _ _ => none
  | n + 1 => fun x1 x2 S =>
    let lp4 := f_X12_number_4 n
    if (4 ≤ x2 : Prop) then
      some (x1, S)
    else
      cb (f_X12_byteAt (S.2 6) S) fun r4 S2 =>
      cs (f_X12_isDigit r4) fun r5 =>
      if (r5 = 0 : Prop) then
        some (x1, S2)
      else
        cb (f_X12_byteAt (S2.2 6) S2) fun r10 S8 =>
        bI (((10 * x1) + r10) - 48) fun v11 =>
        bI ((S8.2 6) + 1) fun v12 =>
        bI (x2 + 1) fun v13 =>
        lp4 v11 v13 (sF S8 6 v12)
def f_X12_number (S : MS) : Option (Int32 × MS) :=
  f_X12_number_4 100 0 0 S
set_option maxRecDepth 100000 in
set_option maxHeartbeats 4000000 in
theorem t_X12_number_4 {X : Cx} {ad : Nat → Nat} {PostX : Option Value → va_W → Prop} (hX : Ok X cX12_number 3 RX12) (hq : Rq X 2 0 0 (some .int) PostX) {u : (Int32 × MS)} (hp : PostX (some (.int u.1)) (mW X.E ad u.2)) : ∀ (n : Nat) (x1 : Int32) (x2 : Int32) (S : MS), f_X12_number_4 n x1 x2 S = some u → G X 3 0 0 4 [(0, .ref (ad 0)), (1, .int x1), (2, .int x2)] [] (mW X.E ad S) := by
  intro n
  induction n with
  | zero => intro _ _ _ hf; unfold f_X12_number_4 at hf; cases hf
  | succ n hlp4 =>
  intro x1 x2 S hf
  unfold f_X12_number_4 at hf
  refine g_iloadn hX 2 rfl rfl dX12_number_4 ?_
  refine g_iconst hX (v := 4) (by decide) dX12_number_5 ?_
  refine g_icmp_ge hX 56 (by decide) dX12_number_6 (fun c1 => ?_) (fun c1 => ?_)
  · have hf := ite_t c1 hf
    refine g_iloadn hX 1 rfl rfl dX12_number_56 ?_
    obtain rfl := oi hf
    exact g_iret hX hq (by decide) (by decide) hp dX12_number_57
  · have hf := ite_f c1 hf
    refine g_aloadn hX 0 rfl rfl dX12_number_9 ?_
    refine g_aloadn hX 0 rfl rfl dX12_number_10 ?_
    refine mg_at hX (v := S.2 6) rfl dX12_number_11 ?_
    obtain ⟨r4, S2, h3, hf⟩ := cb_open hf
    refine k_X12_byteAt hX hq (c_X12_byteAt h3) (by decide) (by decide) (by decide) (Nat.le_of_ble_eq_true rfl) dX12_number_14 ?_
    obtain ⟨r5, h6, hf⟩ := cs_open hf
    refine k_RX12_X12_isDigit hX hq h6 (by decide) (by decide) (by decide) (Nat.le_of_ble_eq_true rfl) dX12_number_17 ?_
    refine g_if_eq hX 56 (by decide) dX12_number_20 (fun c7 => ?_) (fun c7 => ?_)
    · have hf := ite_t c7 hf
      refine g_iloadn hX 1 rfl rfl dX12_number_56 ?_
      obtain rfl := oi hf
      exact g_iret hX hq (by decide) (by decide) hp dX12_number_57
    · have hf := ite_f c7 hf
      refine g_bipush hX (v := 10) (by decide) dX12_number_23 ?_
      refine g_iloadn hX 1 rfl rfl dX12_number_25 ?_
      refine g_imul hX dX12_number_26 ?_
      refine g_aloadn hX 0 rfl rfl dX12_number_27 ?_
      refine g_aloadn hX 0 rfl rfl dX12_number_28 ?_
      refine mg_at hX (v := S2.2 6) rfl dX12_number_29 ?_
      obtain ⟨r10, S8, h9, hf⟩ := cb_open hf
      refine k_X12_byteAt hX hq (c_X12_byteAt h9) (by decide) (by decide) (by decide) (Nat.le_of_ble_eq_true rfl) dX12_number_32 ?_
      refine g_iadd hX dX12_number_35 ?_
      refine g_bipush hX (v := 48) (by decide) dX12_number_36 ?_
      refine g_isub hX dX12_number_38 ?_
      obtain ⟨v11, ev11, hf⟩ := bI_open hf
      refine g_nm ev11 ?_
      refine g_istoren hX [(1, .int v11), (0, .ref (ad 0)), (2, .int x2)] rfl (by decide) rfl dX12_number_39 ?_
      refine g_aloadn hX 1 rfl rfl dX12_number_40 ?_
      refine g_dup hX rfl dX12_number_41 ?_
      refine mg_at hX (v := S8.2 6) rfl dX12_number_42 ?_
      refine g_iconst hX (v := 1) (by decide) dX12_number_45 ?_
      refine g_iadd hX dX12_number_46 ?_
      obtain ⟨v12, ev12, hf⟩ := bI_open hf
      refine g_nm ev12 ?_
      refine mp_at hX dX12_number_47 ?_
      obtain ⟨v13, ev13, hf⟩ := bI_open hf
      refine g_iinc hX 2 (v := v13) [(2, .int v13), (1, .int v11), (0, .ref (ad 0))] rfl (by rw [ev13]; rfl) (by decide) rfl dX12_number_50 ?_
      refine g_goto hX 4 (by decide) dX12_number_53 ?_
      refine g_lv [2, 1, 0] rfl ?_
      exact hlp4 _ _ _ hf
set_option maxRecDepth 100000 in
set_option maxHeartbeats 4000000 in
theorem t_X12_number_0 {X : Cx} {ad : Nat → Nat} {PostX : Option Value → va_W → Prop} (hX : Ok X cX12_number 3 RX12) (hq : Rq X 2 0 0 (some .int) PostX) {u : (Int32 × MS)} (hp : PostX (some (.int u.1)) (mW X.E ad u.2)) (S : MS) (hf : f_X12_number S = some u) : G X 3 0 0 0 [(0, .ref (ad 0))] [] (mW X.E ad S) := by
  unfold f_X12_number at hf
  refine g_iconst hX (v := 0) (by decide) dX12_number_0 ?_
  refine g_istoren hX [(1, .int 0), (0, .ref (ad 0))] rfl (by decide) rfl dX12_number_1 ?_
  refine g_iconst hX (v := 0) (by decide) dX12_number_2 ?_
  refine g_istoren hX [(2, .int 0), (1, .int 0), (0, .ref (ad 0))] rfl (by decide) rfl dX12_number_3 ?_
  refine g_lv [2, 1, 0] rfl ?_
  exact t_X12_number_4 hX hq hp _ _ _ _ hf
theorem c_X12_number {l : Launch} {E : En} {ad : Nat → Nat} {r : Int32} {S S2 : MS} (hf : f_X12_number S = some (r, S2)) : CP l E yX12_number cX12_number 3 (some .int) 2 0 0 [] [.ref (ad 0)] (mW E ad S) (fun rv w => rv = some (.int r) ∧ w = mW E ad S2) :=
  CP.of (lv := [(0, .ref (ad 0))]) (by decide +kernel) (Nat.le_of_ble_eq_true rfl) rfl (fun X hl hE hro hX hq hn => by subst hl; subst hE; exact t_X12_number_0 hX hq ⟨rfl, rfl⟩ S hf)
theorem kw_RX12_X12_number : KwV RX12 148 RX12 yX12_number cX12_number 3 (some .int) 0 := ⟨mem_wsV wd_5_164 wd_5_166 wd_s_33 wd_1_19 wd_5_167, rfl, ⟨by decide +kernel, by decide +kernel, by decide +kernel⟩, by decide⟩
theorem k_X12_number {X : Cx} {cc : ByteArray} {nL ce sl pc : Nat} {lv : List (Nat × Value)} {st : List Value} {dX mcX msX : Nat} {retX : Option FieldType} {PostX : Option Value → va_W → Prop} {ad : Nat → Nat} {S S2 : MS} {d : Nat} (hX : Ok X cc nL RX12) (hq : Rq X dX mcX msX retX PostX) {r : Int32} (hM : CP X.l X.E yX12_number cX12_number 3 (some .int) d 0 0 [] [.ref (ad 0)] (mW X.E ad S) (fun rv w => rv = some (.int r) ∧ w = mW X.E ad S2)) (hd : d < dX) (hc : ce ≤ mcX) (hs : sl ≤ msX) (hcat : (st.map fun v => v.category).sum ≤ 8) (hdg : decode cc pc = .ok (.invokevirtual 148, 3)) (kk : G X nL ce sl (pc + 3) lv (.int r :: st) (mW X.E ad S2)) : G X nL ce sl pc lv (.ref (ad 0) :: st) (mW X.E ad S) :=
  g_eqW (app1 _) (g_callV (pre := []) (mid := mW X.E ad S) (post := []) [] hX hq kw_RX12_X12_number hM (fun _ h => absurd h List.not_mem_nil) hd hc hs rfl (Recv.of 0 12 rfl rfl) rfl hcat hdg (fun rv ws2 hp => by obtain ⟨rfl, rfl⟩ := hp; exact g_eqW (app1 _).symm kk))
def f_X12_named_91 (x2 : Int32) (x3 : Int32) (S : MS) : Option (Int32 × MS) :=
  bI ((S.2 6) + 1) fun v8 =>
  if (x2 = 0 : Prop) then
    if (x3 = 0 : Prop) then
      some ((S.2 11), (sF S 6 v8))
    else
      some ((S.2 10), (sF S 6 v8))
  else
    some ((S.2 9), (sF S 6 v8))
def f_X12_named_71 (x2 : Int32) (x3 : Int32) (y0 : Int32) (S : MS) : Option (Int32 × MS) :=
  if (x2 = 0 : Prop) then
    if (x3 = 0 : Prop) then
      if (y0 = 0 : Prop) then
        cb (f_X12_fails S) fun r15 S13 =>
        some (r15, S13)
      else
        f_X12_named_91 x2 x3 S
    else
      f_X12_named_91 x2 x3 S
  else
    f_X12_named_91 x2 x3 S
def f_X12_named_63 (x2 : Int32) (x3 : Int32) (y0 : Int32) (y1 : Int32) (S : MS) : Option (Int32 × MS) :=
  if (y0 = y1 : Prop) then
    f_X12_named_71 x2 x3 1 S
  else
    f_X12_named_71 x2 x3 0 S
def f_X12_named_47 (x1 : Int32) (x2 : Int32) (y0 : Int32) (S : MS) : Option (Int32 × MS) :=
  if ((S.2 5) = 0 : Prop) then
    f_X12_named_63 x2 y0 x1 110 S
  else
    f_X12_named_63 x2 y0 x1 100 S
def f_X12_named_39 (x1 : Int32) (x2 : Int32) (y0 : Int32) (y1 : Int32) (S : MS) : Option (Int32 × MS) :=
  if (y0 = y1 : Prop) then
    f_X12_named_47 x1 x2 1 S
  else
    f_X12_named_47 x1 x2 0 S
def f_X12_named_23 (x1 : Int32) (y0 : Int32) (S : MS) : Option (Int32 × MS) :=
  if ((S.2 5) = 0 : Prop) then
    f_X12_named_39 x1 y0 x1 99 S
  else
    f_X12_named_39 x1 y0 x1 107 S
def f_X12_named_15 (x1 : Int32) (y0 : Int32) (y1 : Int32) (S : MS) : Option (Int32 × MS) :=
  if (y0 = y1 : Prop) then
    f_X12_named_23 x1 1 S
  else
    f_X12_named_23 x1 0 S
def f_X12_named (a1 : Int32) (S : MS) : Option (Int32 × MS) :=
  if ((S.2 5) = 0 : Prop) then
    f_X12_named_15 a1 a1 104 S
  else
    f_X12_named_15 a1 a1 115 S
set_option maxRecDepth 100000 in
set_option maxHeartbeats 4000000 in
theorem t_X12_named_91 {X : Cx} {ad : Nat → Nat} {PostX : Option Value → va_W → Prop} (hX : Ok X cX12_named 5 RX12) (hq : Rq X 1 0 0 (some .int) PostX) {u : (Int32 × MS)} (hp : PostX (some (.int u.1)) (mW X.E ad u.2)) (x2 : Int32) (x3 : Int32) (S : MS) (hf : f_X12_named_91 x2 x3 S = some u) : G X 5 0 0 91 [(0, .ref (ad 0)), (2, .int x2), (3, .int x3)] [] (mW X.E ad S) := by
  unfold f_X12_named_91 at hf
  refine g_aloadn hX 0 rfl rfl dX12_named_91 ?_
  refine g_dup hX rfl dX12_named_92 ?_
  refine mg_at hX (v := S.2 6) rfl dX12_named_93 ?_
  refine g_iconst hX (v := 1) (by decide) dX12_named_96 ?_
  refine g_iadd hX dX12_named_97 ?_
  obtain ⟨v8, ev8, hf⟩ := bI_open hf
  refine g_nm ev8 ?_
  refine mp_at hX dX12_named_98 ?_
  refine g_iloadn hX 1 rfl rfl dX12_named_101 ?_
  refine g_if_eq hX 112 (by decide) dX12_named_102 (fun c9 => ?_) (fun c9 => ?_)
  · have hf := ite_t c9 hf
    refine g_iloadn hX 2 rfl rfl dX12_named_112 ?_
    refine g_if_eq hX 123 (by decide) dX12_named_113 (fun c10 => ?_) (fun c10 => ?_)
    · have hf := ite_t c10 hf
      refine g_aloadn hX 0 rfl rfl dX12_named_123 ?_
      refine mg_namedC hX (v := S.2 11) rfl dX12_named_124 ?_
      obtain rfl := oi hf
      exact g_iret hX hq (by decide) (by decide) hp dX12_named_127
    · have hf := ite_f c10 hf
      refine g_aloadn hX 0 rfl rfl dX12_named_116 ?_
      refine mg_namedB hX (v := S.2 10) rfl dX12_named_117 ?_
      refine g_goto hX 127 (by decide) dX12_named_120 ?_
      obtain rfl := oi hf
      exact g_iret hX hq (by decide) (by decide) hp dX12_named_127
  · have hf := ite_f c9 hf
    refine g_aloadn hX 0 rfl rfl dX12_named_105 ?_
    refine mg_namedA hX (v := S.2 9) rfl dX12_named_106 ?_
    refine g_goto hX 127 (by decide) dX12_named_109 ?_
    obtain rfl := oi hf
    exact g_iret hX hq (by decide) (by decide) hp dX12_named_127
set_option maxRecDepth 100000 in
set_option maxHeartbeats 4000000 in
theorem t_X12_named_71 {X : Cx} {ad : Nat → Nat} {PostX : Option Value → va_W → Prop} (hX : Ok X cX12_named 5 RX12) (hq : Rq X 1 0 0 (some .int) PostX) {u : (Int32 × MS)} (hp : PostX (some (.int u.1)) (mW X.E ad u.2)) (x2 : Int32) (x3 : Int32) (y0 : Int32) (S : MS) (hf : f_X12_named_71 x2 x3 y0 S = some u) : G X 5 0 0 71 [(0, .ref (ad 0)), (2, .int x2), (3, .int x3)] [.int y0] (mW X.E ad S) := by
  unfold f_X12_named_71 at hf
  refine g_istore hX [(4, .int y0), (0, .ref (ad 0)), (2, .int x2), (3, .int x3)] (by decide) rfl dX12_named_71 ?_
  refine g_iloadn hX 2 rfl rfl dX12_named_73 ?_
  refine g_if_ne hX 91 (by decide) dX12_named_74 (fun c7 => ?_) (fun c7 => ?_)
  · have hf := ite_f c7 hf
    refine g_lv [1, 2, 3] rfl ?_
    exact t_X12_named_91 hX hq hp _ _ _ hf
  · have hf := ite_t c7 hf
    refine g_iloadn hX 3 rfl rfl dX12_named_77 ?_
    refine g_if_ne hX 91 (by decide) dX12_named_78 (fun c11 => ?_) (fun c11 => ?_)
    · have hf := ite_f c11 hf
      refine g_lv [1, 2, 3] rfl ?_
      exact t_X12_named_91 hX hq hp _ _ _ hf
    · have hf := ite_t c11 hf
      refine g_iload hX 0 rfl dX12_named_81 ?_
      refine g_if_ne hX 91 (by decide) dX12_named_83 (fun c12 => ?_) (fun c12 => ?_)
      · have hf := ite_f c12 hf
        refine g_lv [1, 2, 3] rfl ?_
        exact t_X12_named_91 hX hq hp _ _ _ hf
      · have hf := ite_t c12 hf
        refine g_aloadn hX 1 rfl rfl dX12_named_86 ?_
        obtain ⟨r15, S13, h14, hf⟩ := cb_open hf
        refine k_X12_fails hX hq (c_X12_fails h14) (by decide) (by decide) (by decide) (Nat.le_of_ble_eq_true rfl) dX12_named_87 ?_
        obtain rfl := oi hf
        exact g_iret hX hq (by decide) (by decide) hp dX12_named_90
set_option maxRecDepth 100000 in
set_option maxHeartbeats 4000000 in
theorem t_X12_named_63 {X : Cx} {ad : Nat → Nat} {PostX : Option Value → va_W → Prop} (hX : Ok X cX12_named 5 RX12) (hq : Rq X 1 0 0 (some .int) PostX) {u : (Int32 × MS)} (hp : PostX (some (.int u.1)) (mW X.E ad u.2)) (x2 : Int32) (x3 : Int32) (y0 : Int32) (y1 : Int32) (S : MS) (hf : f_X12_named_63 x2 x3 y0 y1 S = some u) : G X 5 0 0 63 [(0, .ref (ad 0)), (2, .int x2), (3, .int x3)] [.int y1, .int y0] (mW X.E ad S) := by
  unfold f_X12_named_63 at hf
  refine g_icmp_ne hX 70 (by decide) dX12_named_63 (fun c6 => ?_) (fun c6 => ?_)
  · have hf := ite_f c6 hf
    refine g_iconst hX (v := 0) (by decide) dX12_named_70 ?_
    exact t_X12_named_71 hX hq hp _ _ _ _ hf
  · have hf := ite_t c6 hf
    refine g_iconst hX (v := 1) (by decide) dX12_named_66 ?_
    refine g_goto hX 71 (by decide) dX12_named_67 ?_
    exact t_X12_named_71 hX hq hp _ _ _ _ hf
set_option maxRecDepth 100000 in
set_option maxHeartbeats 4000000 in
theorem t_X12_named_47 {X : Cx} {ad : Nat → Nat} {PostX : Option Value → va_W → Prop} (hX : Ok X cX12_named 5 RX12) (hq : Rq X 1 0 0 (some .int) PostX) {u : (Int32 × MS)} (hp : PostX (some (.int u.1)) (mW X.E ad u.2)) (x1 : Int32) (x2 : Int32) (y0 : Int32) (S : MS) (hf : f_X12_named_47 x1 x2 y0 S = some u) : G X 5 0 0 47 [(0, .ref (ad 0)), (1, .int x1), (2, .int x2)] [.int y0] (mW X.E ad S) := by
  unfold f_X12_named_47 at hf
  refine g_istoren hX [(3, .int y0), (0, .ref (ad 0)), (1, .int x1), (2, .int x2)] rfl (by decide) rfl dX12_named_47 ?_
  refine g_iloadn hX 2 rfl rfl dX12_named_48 ?_
  refine g_aloadn hX 1 rfl rfl dX12_named_49 ?_
  refine mg_use hX (v := S.2 5) rfl dX12_named_50 ?_
  refine g_if_ne hX 61 (by decide) dX12_named_53 (fun c5 => ?_) (fun c5 => ?_)
  · have hf := ite_f c5 hf
    refine g_bipush hX (v := 100) (by decide) dX12_named_61 ?_
    refine g_lv [1, 3, 0] rfl ?_
    exact t_X12_named_63 hX hq hp _ _ _ _ _ hf
  · have hf := ite_t c5 hf
    refine g_bipush hX (v := 110) (by decide) dX12_named_56 ?_
    refine g_goto hX 63 (by decide) dX12_named_58 ?_
    refine g_lv [1, 3, 0] rfl ?_
    exact t_X12_named_63 hX hq hp _ _ _ _ _ hf
set_option maxRecDepth 100000 in
set_option maxHeartbeats 4000000 in
theorem t_X12_named_39 {X : Cx} {ad : Nat → Nat} {PostX : Option Value → va_W → Prop} (hX : Ok X cX12_named 5 RX12) (hq : Rq X 1 0 0 (some .int) PostX) {u : (Int32 × MS)} (hp : PostX (some (.int u.1)) (mW X.E ad u.2)) (x1 : Int32) (x2 : Int32) (y0 : Int32) (y1 : Int32) (S : MS) (hf : f_X12_named_39 x1 x2 y0 y1 S = some u) : G X 5 0 0 39 [(0, .ref (ad 0)), (1, .int x1), (2, .int x2)] [.int y1, .int y0] (mW X.E ad S) := by
  unfold f_X12_named_39 at hf
  refine g_icmp_ne hX 46 (by decide) dX12_named_39 (fun c4 => ?_) (fun c4 => ?_)
  · have hf := ite_f c4 hf
    refine g_iconst hX (v := 0) (by decide) dX12_named_46 ?_
    exact t_X12_named_47 hX hq hp _ _ _ _ hf
  · have hf := ite_t c4 hf
    refine g_iconst hX (v := 1) (by decide) dX12_named_42 ?_
    refine g_goto hX 47 (by decide) dX12_named_43 ?_
    exact t_X12_named_47 hX hq hp _ _ _ _ hf
set_option maxRecDepth 100000 in
set_option maxHeartbeats 4000000 in
theorem t_X12_named_23 {X : Cx} {ad : Nat → Nat} {PostX : Option Value → va_W → Prop} (hX : Ok X cX12_named 5 RX12) (hq : Rq X 1 0 0 (some .int) PostX) {u : (Int32 × MS)} (hp : PostX (some (.int u.1)) (mW X.E ad u.2)) (x1 : Int32) (y0 : Int32) (S : MS) (hf : f_X12_named_23 x1 y0 S = some u) : G X 5 0 0 23 [(0, .ref (ad 0)), (1, .int x1)] [.int y0] (mW X.E ad S) := by
  unfold f_X12_named_23 at hf
  refine g_istoren hX [(2, .int y0), (0, .ref (ad 0)), (1, .int x1)] rfl (by decide) rfl dX12_named_23 ?_
  refine g_iloadn hX 2 rfl rfl dX12_named_24 ?_
  refine g_aloadn hX 1 rfl rfl dX12_named_25 ?_
  refine mg_use hX (v := S.2 5) rfl dX12_named_26 ?_
  refine g_if_ne hX 37 (by decide) dX12_named_29 (fun c3 => ?_) (fun c3 => ?_)
  · have hf := ite_f c3 hf
    refine g_bipush hX (v := 107) (by decide) dX12_named_37 ?_
    refine g_lv [1, 2, 0] rfl ?_
    exact t_X12_named_39 hX hq hp _ _ _ _ _ hf
  · have hf := ite_t c3 hf
    refine g_bipush hX (v := 99) (by decide) dX12_named_32 ?_
    refine g_goto hX 39 (by decide) dX12_named_34 ?_
    refine g_lv [1, 2, 0] rfl ?_
    exact t_X12_named_39 hX hq hp _ _ _ _ _ hf
set_option maxRecDepth 100000 in
set_option maxHeartbeats 4000000 in
theorem t_X12_named_15 {X : Cx} {ad : Nat → Nat} {PostX : Option Value → va_W → Prop} (hX : Ok X cX12_named 5 RX12) (hq : Rq X 1 0 0 (some .int) PostX) {u : (Int32 × MS)} (hp : PostX (some (.int u.1)) (mW X.E ad u.2)) (x1 : Int32) (y0 : Int32) (y1 : Int32) (S : MS) (hf : f_X12_named_15 x1 y0 y1 S = some u) : G X 5 0 0 15 [(0, .ref (ad 0)), (1, .int x1)] [.int y1, .int y0] (mW X.E ad S) := by
  unfold f_X12_named_15 at hf
  refine g_icmp_ne hX 22 (by decide) dX12_named_15 (fun c2 => ?_) (fun c2 => ?_)
  · have hf := ite_f c2 hf
    refine g_iconst hX (v := 0) (by decide) dX12_named_22 ?_
    exact t_X12_named_23 hX hq hp _ _ _ hf
  · have hf := ite_t c2 hf
    refine g_iconst hX (v := 1) (by decide) dX12_named_18 ?_
    refine g_goto hX 23 (by decide) dX12_named_19 ?_
    exact t_X12_named_23 hX hq hp _ _ _ hf
set_option maxRecDepth 100000 in
set_option maxHeartbeats 4000000 in
theorem t_X12_named_0 {X : Cx} {ad : Nat → Nat} {PostX : Option Value → va_W → Prop} (hX : Ok X cX12_named 5 RX12) (hq : Rq X 1 0 0 (some .int) PostX) {u : (Int32 × MS)} (hp : PostX (some (.int u.1)) (mW X.E ad u.2)) (a1 : Int32) (S : MS) (hf : f_X12_named a1 S = some u) : G X 5 0 0 0 [(0, .ref (ad 0)), (1, .int a1)] [] (mW X.E ad S) := by
  unfold f_X12_named at hf
  refine g_iloadn hX 1 rfl rfl dX12_named_0 ?_
  refine g_aloadn hX 0 rfl rfl dX12_named_1 ?_
  refine mg_use hX (v := S.2 5) rfl dX12_named_2 ?_
  refine g_if_ne hX 13 (by decide) dX12_named_5 (fun c1 => ?_) (fun c1 => ?_)
  · have hf := ite_f c1 hf
    refine g_bipush hX (v := 115) (by decide) dX12_named_13 ?_
    exact t_X12_named_15 hX hq hp _ _ _ _ hf
  · have hf := ite_t c1 hf
    refine g_bipush hX (v := 104) (by decide) dX12_named_8 ?_
    refine g_goto hX 15 (by decide) dX12_named_10 ?_
    exact t_X12_named_15 hX hq hp _ _ _ _ hf
theorem c_X12_named {l : Launch} {E : En} {ad : Nat → Nat} {a1 : Int32} {r : Int32} {S S2 : MS} (hf : f_X12_named a1 S = some (r, S2)) : CP l E yX12_named cX12_named 5 (some .int) 1 0 0 [] [.ref (ad 0), .int a1] (mW E ad S) (fun rv w => rv = some (.int r) ∧ w = mW E ad S2) :=
  CP.of (lv := [(0, .ref (ad 0)), (1, .int a1)]) (by decide +kernel) (Nat.le_of_ble_eq_true rfl) rfl (fun X hl hE hro hX hq hn => by subst hl; subst hE; exact t_X12_named_0 hX hq ⟨rfl, rfl⟩ a1 S hf)
theorem kw_RX12_X12_named : KwV RX12 151 RX12 yX12_named cX12_named 5 (some .int) 1 := ⟨mem_wsV wd_5_168 wd_5_170 wd_s_34 wd_1_19 wd_5_171, rfl, ⟨by decide +kernel, by decide +kernel, by decide +kernel⟩, by decide⟩
theorem k_X12_named {X : Cx} {cc : ByteArray} {nL ce sl pc : Nat} {lv : List (Nat × Value)} {st : List Value} {dX mcX msX : Nat} {retX : Option FieldType} {PostX : Option Value → va_W → Prop} {ad : Nat → Nat} {S S2 : MS} {d : Nat} (hX : Ok X cc nL RX12) (hq : Rq X dX mcX msX retX PostX) {a1 : Int32} {r : Int32} (hM : CP X.l X.E yX12_named cX12_named 5 (some .int) d 0 0 [] [.ref (ad 0), .int a1] (mW X.E ad S) (fun rv w => rv = some (.int r) ∧ w = mW X.E ad S2)) (hd : d < dX) (hc : ce ≤ mcX) (hs : sl ≤ msX) (hcat : (st.map fun v => v.category).sum ≤ 8) (hdg : decode cc pc = .ok (.invokevirtual 151, 3)) (kk : G X nL ce sl (pc + 3) lv (.int r :: st) (mW X.E ad S2)) : G X nL ce sl pc lv (.int a1 :: .ref (ad 0) :: st) (mW X.E ad S) :=
  g_eqW (app1 _) (g_callV (pre := []) (mid := mW X.E ad S) (post := []) [.int a1] hX hq kw_RX12_X12_named hM (fun _ h => absurd h List.not_mem_nil) hd hc hs rfl (Recv.of 0 12 rfl rfl) rfl hcat hdg (fun rv ws2 hp => by obtain ⟨rfl, rfl⟩ := hp; exact g_eqW (app1 _).symm kk))
theorem kw_RX12_X12_factor : KwV RX12 157 RX12 yX12_factor cX12_factor 3 (some .int) 0 := ⟨mem_wsV wd_5_153 wd_5_155 wd_s_31 wd_1_19 wd_5_156, rfl, ⟨by decide +kernel, by decide +kernel, by decide +kernel⟩, by decide⟩
theorem k_X12_factor {X : Cx} {cc : ByteArray} {nL ce sl pc : Nat} {lv : List (Nat × Value)} {st : List Value} {dX mcX msX : Nat} {retX : Option FieldType} {PostX : Option Value → va_W → Prop} {ad : Nat → Nat} {S S2 : MS} {d : Nat} (hX : Ok X cc nL RX12) (hq : Rq X dX mcX msX retX PostX) {r : Int32} (hM : CP X.l X.E yX12_factor cX12_factor 3 (some .int) d 0 0 [] [.ref (ad 0)] (mW X.E ad S) (fun rv w => rv = some (.int r) ∧ w = mW X.E ad S2)) (hd : d < dX) (hc : ce ≤ mcX) (hs : sl ≤ msX) (hcat : (st.map fun v => v.category).sum ≤ 8) (hdg : decode cc pc = .ok (.invokevirtual 157, 3)) (kk : G X nL ce sl (pc + 3) lv (.int r :: st) (mW X.E ad S2)) : G X nL ce sl pc lv (.ref (ad 0) :: st) (mW X.E ad S) :=
  g_eqW (app1 _) (g_callV (pre := []) (mid := mW X.E ad S) (post := []) [] hX hq kw_RX12_X12_factor hM (fun _ h => absurd h List.not_mem_nil) hd hc hs rfl (Recv.of 0 12 rfl rfl) rfl hcat hdg (fun rv ws2 hp => by obtain ⟨rfl, rfl⟩ := hp; exact g_eqW (app1 _).symm kk))
def f_X12_product_110 (lp5 : Int32 → MS → Option (Int32 × MS)) (fr : MS → Option (Int32 × MS)) (y0 : Int32) (S : MS) : Option (Int32 × MS) :=
  lp5 y0 S
def f_X12_product_51 (lp5 : Int32 → MS → Option (Int32 × MS)) (fr : MS → Option (Int32 × MS)) (x1 : Int32) (S : MS) : Option (Int32 × MS) :=
  cb (f_X12_byteAt (S.2 6) S) fun r11 S9 =>
  bI ((S9.2 6) + 1) fun v12 =>
  cb (fr (sF S9 6 v12)) fun r15 S13 =>
  if (r11 = 42 : Prop) then
    f_X12_product_110 lp5 fr (x1 * r15) S13
  else
    if (r15 = 0 : Prop) then
      f_X12_product_110 lp5 fr 0 S13
    else
      if (r11 = 47 : Prop) then
        gnz r15 <|
        f_X12_product_110 lp5 fr (x1 / r15) S13
      else
        gnz r15 <|
        f_X12_product_110 lp5 fr (jrem x1 r15) S13
def f_X12_product_5 (fr : MS → Option (Int32 × MS)) : Nat → Int32 → MS → Option (Int32 × MS)
  | 0 => fun _ _ => none
  | n + 1 => fun x1 S =>
    let lp5 := f_X12_product_5 fr n
    if ((S.2 12) = 0 : Prop) then
      some (x1, S)
    else
      cb (f_X12_byteAt (S.2 6) S) fun r7 S5 =>
      if (r7 = 42 : Prop) then
        f_X12_product_51 lp5 fr x1 S5
      else
        cb (f_X12_byteAt (S5.2 6) S5) fun r23 S21 =>
        if (r23 = 47 : Prop) then
          f_X12_product_51 lp5 fr x1 S21
        else
          cb (f_X12_byteAt (S21.2 6) S21) fun r27 S25 =>
          if (r27 = 37 : Prop) then
            f_X12_product_51 lp5 fr x1 S25
          else
            some (x1, S25)
def f_X12_product (fr : MS → Option (Int32 × MS)) (S : MS) : Option (Int32 × MS) :=
  cb (fr S) fun r3 S1 =>
  f_X12_product_5 fr 100 r3 S1
set_option maxRecDepth 100000 in
set_option maxHeartbeats 4000000 in
theorem t_X12_product_110 {X : Cx} {ad : Nat → Nat} {dk : Nat} (hdk : 12 ≤ dk) {PostX : Option Value → va_W → Prop} (hX : Ok X cX12_product 4 RX12) (hq : Rq X (dk + 1) 0 0 (some .int) PostX) {u : (Int32 × MS)} (hp : PostX (some (.int u.1)) (mW X.E ad u.2)) {fr : MS → Option (Int32 × MS)} (hfr : ∀ (S : MS) (r : Int32) (S2 : MS), fr S = some (r, S2) → CP X.l X.E yX12_factor cX12_factor 3 (some .int) dk 0 0 [] [.ref (ad 0)] (mW X.E ad S) (fun rv w => rv = some (.int r) ∧ w = mW X.E ad S2)) {lp5 : Int32 → MS → Option (Int32 × MS)} (hlp5 : ∀ (x1 : Int32) (S : MS), lp5 x1 S = some u → G X 4 0 0 5 [(0, .ref (ad 0)), (1, .int x1)] [] (mW X.E ad S)) (y0 : Int32) (S : MS) (hf : f_X12_product_110 lp5 fr y0 S = some u) : G X 4 0 0 110 [(0, .ref (ad 0))] [.int y0] (mW X.E ad S) := by
  unfold f_X12_product_110 at hf
  refine g_istoren hX [(1, .int y0), (0, .ref (ad 0))] rfl (by decide) rfl dX12_product_110 ?_
  refine g_goto hX 5 (by decide) dX12_product_111 ?_
  refine g_lv [1, 0] rfl ?_
  exact hlp5 _ _ hf
set_option maxRecDepth 100000 in
set_option maxHeartbeats 4000000 in
theorem t_X12_product_51 {X : Cx} {ad : Nat → Nat} {dk : Nat} (hdk : 12 ≤ dk) {PostX : Option Value → va_W → Prop} (hX : Ok X cX12_product 4 RX12) (hq : Rq X (dk + 1) 0 0 (some .int) PostX) {u : (Int32 × MS)} (hp : PostX (some (.int u.1)) (mW X.E ad u.2)) {fr : MS → Option (Int32 × MS)} (hfr : ∀ (S : MS) (r : Int32) (S2 : MS), fr S = some (r, S2) → CP X.l X.E yX12_factor cX12_factor 3 (some .int) dk 0 0 [] [.ref (ad 0)] (mW X.E ad S) (fun rv w => rv = some (.int r) ∧ w = mW X.E ad S2)) {lp5 : Int32 → MS → Option (Int32 × MS)} (hlp5 : ∀ (x1 : Int32) (S : MS), lp5 x1 S = some u → G X 4 0 0 5 [(0, .ref (ad 0)), (1, .int x1)] [] (mW X.E ad S)) (x1 : Int32) (S : MS) (hf : f_X12_product_51 lp5 fr x1 S = some u) : G X 4 0 0 51 [(0, .ref (ad 0)), (1, .int x1)] [] (mW X.E ad S) := by
  unfold f_X12_product_51 at hf
  refine g_aloadn hX 0 rfl rfl dX12_product_51 ?_
  refine g_aloadn hX 0 rfl rfl dX12_product_52 ?_
  refine mg_at hX (v := S.2 6) rfl dX12_product_53 ?_
  obtain ⟨r11, S9, h10, hf⟩ := cb_open hf
  refine k_X12_byteAt hX hq (c_X12_byteAt h10) (by omega) (by decide) (by decide) (Nat.le_of_ble_eq_true rfl) dX12_product_56 ?_
  refine g_istoren hX [(2, .int r11), (0, .ref (ad 0)), (1, .int x1)] rfl (by decide) rfl dX12_product_59 ?_
  refine g_aloadn hX 1 rfl rfl dX12_product_60 ?_
  refine g_dup hX rfl dX12_product_61 ?_
  refine mg_at hX (v := S9.2 6) rfl dX12_product_62 ?_
  refine g_iconst hX (v := 1) (by decide) dX12_product_65 ?_
  refine g_iadd hX dX12_product_66 ?_
  obtain ⟨v12, ev12, hf⟩ := bI_open hf
  refine g_nm ev12 ?_
  refine mp_at hX dX12_product_67 ?_
  refine g_aloadn hX 1 rfl rfl dX12_product_70 ?_
  obtain ⟨r15, S13, h14, hf⟩ := cb_open hf
  refine k_X12_factor hX hq (hfr _ _ _ h14) (by omega) (by decide) (by decide) (Nat.le_of_ble_eq_true rfl) dX12_product_71 ?_
  refine g_istoren hX [(3, .int r15), (2, .int r11), (0, .ref (ad 0)), (1, .int x1)] rfl (by decide) rfl dX12_product_74 ?_
  refine g_iloadn hX 1 rfl rfl dX12_product_75 ?_
  refine g_bipush hX (v := 42) (by decide) dX12_product_76 ?_
  refine g_icmp_ne hX 87 (by decide) dX12_product_78 (fun c16 => ?_) (fun c16 => ?_)
  · have hf := ite_f c16 hf
    refine g_iloadn hX 0 rfl rfl dX12_product_87 ?_
    refine g_if_ne hX 95 (by decide) dX12_product_88 (fun c17 => ?_) (fun c17 => ?_)
    · have hf := ite_f c17 hf
      refine g_iloadn hX 1 rfl rfl dX12_product_95 ?_
      refine g_bipush hX (v := 47) (by decide) dX12_product_96 ?_
      refine g_icmp_ne hX 107 (by decide) dX12_product_98 (fun c18 => ?_) (fun c18 => ?_)
      · have hf := ite_f c18 hf
        refine g_iloadn hX 3 rfl rfl dX12_product_107 ?_
        refine g_iloadn hX 0 rfl rfl dX12_product_108 ?_
        obtain ⟨h19, hf⟩ := gnz_open hf
        refine g_jrem hX h19 dX12_product_109 ?_
        refine g_lv [2] rfl ?_
        exact t_X12_product_110 hdk hX hq hp hfr hlp5 _ _ hf
      · have hf := ite_t c18 hf
        refine g_iloadn hX 3 rfl rfl dX12_product_101 ?_
        refine g_iloadn hX 0 rfl rfl dX12_product_102 ?_
        obtain ⟨h20, hf⟩ := gnz_open hf
        refine g_idiv hX h20 dX12_product_103 ?_
        refine g_goto hX 110 (by decide) dX12_product_104 ?_
        refine g_lv [2] rfl ?_
        exact t_X12_product_110 hdk hX hq hp hfr hlp5 _ _ hf
    · have hf := ite_t c17 hf
      refine g_iconst hX (v := 0) (by decide) dX12_product_91 ?_
      refine g_goto hX 110 (by decide) dX12_product_92 ?_
      refine g_lv [2] rfl ?_
      exact t_X12_product_110 hdk hX hq hp hfr hlp5 _ _ hf
  · have hf := ite_t c16 hf
    refine g_iloadn hX 3 rfl rfl dX12_product_81 ?_
    refine g_iloadn hX 0 rfl rfl dX12_product_82 ?_
    refine g_imul hX dX12_product_83 ?_
    refine g_goto hX 110 (by decide) dX12_product_84 ?_
    refine g_lv [2] rfl ?_
    exact t_X12_product_110 hdk hX hq hp hfr hlp5 _ _ hf
set_option maxRecDepth 100000 in
set_option maxHeartbeats 4000000 in
theorem t_X12_product_5 {X : Cx} {ad : Nat → Nat} {dk : Nat} (hdk : 12 ≤ dk) {PostX : Option Value → va_W → Prop} (hX : Ok X cX12_product 4 RX12) (hq : Rq X (dk + 1) 0 0 (some .int) PostX) {u : (Int32 × MS)} (hp : PostX (some (.int u.1)) (mW X.E ad u.2)) {fr : MS → Option (Int32 × MS)} (hfr : ∀ (S : MS) (r : Int32) (S2 : MS), fr S = some (r, S2) → CP X.l X.E yX12_factor cX12_factor 3 (some .int) dk 0 0 [] [.ref (ad 0)] (mW X.E ad S) (fun rv w => rv = some (.int r) ∧ w = mW X.E ad S2)) : ∀ (n : Nat) (x1 : Int32) (S : MS), f_X12_product_5 fr n x1 S = some u → G X 4 0 0 5 [(0, .ref (ad 0)), (1, .int x1)] [] (mW X.E ad S) := by
  intro n
  induction n with
  | zero => intro _ _ hf; unfold f_X12_product_5 at hf; cases hf
  | succ n hlp5 =>
  intro x1 S hf
  unfold f_X12_product_5 at hf
  refine g_aloadn hX 0 rfl rfl dX12_product_5 ?_
  refine mg_good hX (v := S.2 12) rfl dX12_product_6 ?_
  refine g_if_eq hX 114 (by decide) dX12_product_9 (fun c4 => ?_) (fun c4 => ?_)
  · have hf := ite_t c4 hf
    refine g_iloadn hX 1 rfl rfl dX12_product_114 ?_
    obtain rfl := oi hf
    exact g_iret hX hq (by decide) (by decide) hp dX12_product_115
  · have hf := ite_f c4 hf
    refine g_aloadn hX 0 rfl rfl dX12_product_12 ?_
    refine g_aloadn hX 0 rfl rfl dX12_product_13 ?_
    refine mg_at hX (v := S.2 6) rfl dX12_product_14 ?_
    obtain ⟨r7, S5, h6, hf⟩ := cb_open hf
    refine k_X12_byteAt hX hq (c_X12_byteAt h6) (by omega) (by decide) (by decide) (Nat.le_of_ble_eq_true rfl) dX12_product_17 ?_
    refine g_bipush hX (v := 42) (by decide) dX12_product_20 ?_
    refine g_icmp_eq hX 51 (by decide) dX12_product_22 (fun c8 => ?_) (fun c8 => ?_)
    · have hf := ite_t c8 hf
      exact t_X12_product_51 hdk hX hq hp hfr hlp5 _ _ hf
    · have hf := ite_f c8 hf
      refine g_aloadn hX 0 rfl rfl dX12_product_25 ?_
      refine g_aloadn hX 0 rfl rfl dX12_product_26 ?_
      refine mg_at hX (v := S5.2 6) rfl dX12_product_27 ?_
      obtain ⟨r23, S21, h22, hf⟩ := cb_open hf
      refine k_X12_byteAt hX hq (c_X12_byteAt h22) (by omega) (by decide) (by decide) (Nat.le_of_ble_eq_true rfl) dX12_product_30 ?_
      refine g_bipush hX (v := 47) (by decide) dX12_product_33 ?_
      refine g_icmp_eq hX 51 (by decide) dX12_product_35 (fun c24 => ?_) (fun c24 => ?_)
      · have hf := ite_t c24 hf
        exact t_X12_product_51 hdk hX hq hp hfr hlp5 _ _ hf
      · have hf := ite_f c24 hf
        refine g_aloadn hX 0 rfl rfl dX12_product_38 ?_
        refine g_aloadn hX 0 rfl rfl dX12_product_39 ?_
        refine mg_at hX (v := S21.2 6) rfl dX12_product_40 ?_
        obtain ⟨r27, S25, h26, hf⟩ := cb_open hf
        refine k_X12_byteAt hX hq (c_X12_byteAt h26) (by omega) (by decide) (by decide) (Nat.le_of_ble_eq_true rfl) dX12_product_43 ?_
        refine g_bipush hX (v := 37) (by decide) dX12_product_46 ?_
        refine g_icmp_ne hX 114 (by decide) dX12_product_48 (fun c28 => ?_) (fun c28 => ?_)
        · have hf := ite_f c28 hf
          refine g_iloadn hX 1 rfl rfl dX12_product_114 ?_
          obtain rfl := oi hf
          exact g_iret hX hq (by decide) (by decide) hp dX12_product_115
        · have hf := ite_t c28 hf
          exact t_X12_product_51 hdk hX hq hp hfr hlp5 _ _ hf
set_option maxRecDepth 100000 in
set_option maxHeartbeats 4000000 in
theorem t_X12_product_0 {X : Cx} {ad : Nat → Nat} {dk : Nat} (hdk : 12 ≤ dk) {PostX : Option Value → va_W → Prop} (hX : Ok X cX12_product 4 RX12) (hq : Rq X (dk + 1) 0 0 (some .int) PostX) {u : (Int32 × MS)} (hp : PostX (some (.int u.1)) (mW X.E ad u.2)) {fr : MS → Option (Int32 × MS)} (hfr : ∀ (S : MS) (r : Int32) (S2 : MS), fr S = some (r, S2) → CP X.l X.E yX12_factor cX12_factor 3 (some .int) dk 0 0 [] [.ref (ad 0)] (mW X.E ad S) (fun rv w => rv = some (.int r) ∧ w = mW X.E ad S2)) (S : MS) (hf : f_X12_product fr S = some u) : G X 4 0 0 0 [(0, .ref (ad 0))] [] (mW X.E ad S) := by
  unfold f_X12_product at hf
  refine g_aloadn hX 0 rfl rfl dX12_product_0 ?_
  obtain ⟨r3, S1, h2, hf⟩ := cb_open hf
  refine k_X12_factor hX hq (hfr _ _ _ h2) (by omega) (by decide) (by decide) (Nat.le_of_ble_eq_true rfl) dX12_product_1 ?_
  refine g_istoren hX [(1, .int r3), (0, .ref (ad 0))] rfl (by decide) rfl dX12_product_4 ?_
  refine g_lv [1, 0] rfl ?_
  exact t_X12_product_5 hdk hX hq hp hfr _ _ _ hf
theorem c_X12_product {l : Launch} {E : En} {ad : Nat → Nat} {dk : Nat} (hdk : 12 ≤ dk) {fr : MS → Option (Int32 × MS)} (hfr : ∀ (S : MS) (r : Int32) (S2 : MS), fr S = some (r, S2) → CP l E yX12_factor cX12_factor 3 (some .int) dk 0 0 [] [.ref (ad 0)] (mW E ad S) (fun rv w => rv = some (.int r) ∧ w = mW E ad S2)) {r : Int32} {S S2 : MS} (hf : f_X12_product fr S = some (r, S2)) : CP l E yX12_product cX12_product 4 (some .int) (dk + 1) 0 0 [] [.ref (ad 0)] (mW E ad S) (fun rv w => rv = some (.int r) ∧ w = mW E ad S2) :=
  CP.of (lv := [(0, .ref (ad 0))]) (by decide +kernel) (Nat.le_of_ble_eq_true rfl) rfl (fun X hl hE hro hX hq hn => by subst hl; subst hE; exact t_X12_product_0 hdk hX hq ⟨rfl, rfl⟩ hfr S hf)
theorem kw_RX12_X12_product : KwV RX12 163 RX12 yX12_product cX12_product 4 (some .int) 0 := ⟨mem_wsV wd_5_149 wd_5_151 wd_s_30 wd_1_19 wd_5_152, rfl, ⟨by decide +kernel, by decide +kernel, by decide +kernel⟩, by decide⟩
theorem k_X12_product {X : Cx} {cc : ByteArray} {nL ce sl pc : Nat} {lv : List (Nat × Value)} {st : List Value} {dX mcX msX : Nat} {retX : Option FieldType} {PostX : Option Value → va_W → Prop} {ad : Nat → Nat} {S S2 : MS} {d : Nat} (hX : Ok X cc nL RX12) (hq : Rq X dX mcX msX retX PostX) {r : Int32} (hM : CP X.l X.E yX12_product cX12_product 4 (some .int) d 0 0 [] [.ref (ad 0)] (mW X.E ad S) (fun rv w => rv = some (.int r) ∧ w = mW X.E ad S2)) (hd : d < dX) (hc : ce ≤ mcX) (hs : sl ≤ msX) (hcat : (st.map fun v => v.category).sum ≤ 8) (hdg : decode cc pc = .ok (.invokevirtual 163, 3)) (kk : G X nL ce sl (pc + 3) lv (.int r :: st) (mW X.E ad S2)) : G X nL ce sl pc lv (.ref (ad 0) :: st) (mW X.E ad S) :=
  g_eqW (app1 _) (g_callV (pre := []) (mid := mW X.E ad S) (post := []) [] hX hq kw_RX12_X12_product hM (fun _ h => absurd h List.not_mem_nil) hd hc hs rfl (Recv.of 0 12 rfl rfl) rfl hcat hdg (fun rv ws2 hp => by obtain ⟨rfl, rfl⟩ := hp; exact g_eqW (app1 _).symm kk))
def f_X12_sum_77 (lp5 : Int32 → MS → Option (Int32 × MS)) (fr : MS → Option (Int32 × MS)) (y0 : Int32) (S : MS) : Option (Int32 × MS) :=
  lp5 y0 S
def f_X12_sum_38 (lp5 : Int32 → MS → Option (Int32 × MS)) (fr : MS → Option (Int32 × MS)) (x1 : Int32) (S : MS) : Option (Int32 × MS) :=
  cb (f_X12_byteAt (S.2 6) S) fun r11 S9 =>
  bI ((S9.2 6) + 1) fun v12 =>
  cb (f_X12_product fr (sF S9 6 v12)) fun r15 S13 =>
  if (r11 = 43 : Prop) then
    f_X12_sum_77 lp5 fr (x1 + r15) S13
  else
    f_X12_sum_77 lp5 fr (x1 - r15) S13
def f_X12_sum_5 (fr : MS → Option (Int32 × MS)) : Nat → Int32 → MS → Option (Int32 × MS)
  | 0 => fun _ _ => none
  | n + 1 => fun x1 S =>
    let lp5 := f_X12_sum_5 fr n
    if ((S.2 12) = 0 : Prop) then
      some (x1, S)
    else
      cb (f_X12_byteAt (S.2 6) S) fun r7 S5 =>
      if (r7 = 43 : Prop) then
        f_X12_sum_38 lp5 fr x1 S5
      else
        cb (f_X12_byteAt (S5.2 6) S5) fun r19 S17 =>
        if (r19 = 45 : Prop) then
          f_X12_sum_38 lp5 fr x1 S17
        else
          some (x1, S17)
def f_X12_sum (fr : MS → Option (Int32 × MS)) (S : MS) : Option (Int32 × MS) :=
  cb (f_X12_product fr S) fun r3 S1 =>
  f_X12_sum_5 fr 100 r3 S1
set_option maxRecDepth 100000 in
set_option maxHeartbeats 4000000 in
theorem t_X12_sum_77 {X : Cx} {ad : Nat → Nat} {dk : Nat} (hdk : 12 ≤ dk) {PostX : Option Value → va_W → Prop} (hX : Ok X cX12_sum 4 RX12) (hq : Rq X (dk + 2) 0 0 (some .int) PostX) {u : (Int32 × MS)} (hp : PostX (some (.int u.1)) (mW X.E ad u.2)) {fr : MS → Option (Int32 × MS)} (hfr : ∀ (S : MS) (r : Int32) (S2 : MS), fr S = some (r, S2) → CP X.l X.E yX12_factor cX12_factor 3 (some .int) dk 0 0 [] [.ref (ad 0)] (mW X.E ad S) (fun rv w => rv = some (.int r) ∧ w = mW X.E ad S2)) {lp5 : Int32 → MS → Option (Int32 × MS)} (hlp5 : ∀ (x1 : Int32) (S : MS), lp5 x1 S = some u → G X 4 0 0 5 [(0, .ref (ad 0)), (1, .int x1)] [] (mW X.E ad S)) (y0 : Int32) (S : MS) (hf : f_X12_sum_77 lp5 fr y0 S = some u) : G X 4 0 0 77 [(0, .ref (ad 0))] [.int y0] (mW X.E ad S) := by
  unfold f_X12_sum_77 at hf
  refine g_istoren hX [(1, .int y0), (0, .ref (ad 0))] rfl (by decide) rfl dX12_sum_77 ?_
  refine g_goto hX 5 (by decide) dX12_sum_78 ?_
  refine g_lv [1, 0] rfl ?_
  exact hlp5 _ _ hf
set_option maxRecDepth 100000 in
set_option maxHeartbeats 4000000 in
theorem t_X12_sum_38 {X : Cx} {ad : Nat → Nat} {dk : Nat} (hdk : 12 ≤ dk) {PostX : Option Value → va_W → Prop} (hX : Ok X cX12_sum 4 RX12) (hq : Rq X (dk + 2) 0 0 (some .int) PostX) {u : (Int32 × MS)} (hp : PostX (some (.int u.1)) (mW X.E ad u.2)) {fr : MS → Option (Int32 × MS)} (hfr : ∀ (S : MS) (r : Int32) (S2 : MS), fr S = some (r, S2) → CP X.l X.E yX12_factor cX12_factor 3 (some .int) dk 0 0 [] [.ref (ad 0)] (mW X.E ad S) (fun rv w => rv = some (.int r) ∧ w = mW X.E ad S2)) {lp5 : Int32 → MS → Option (Int32 × MS)} (hlp5 : ∀ (x1 : Int32) (S : MS), lp5 x1 S = some u → G X 4 0 0 5 [(0, .ref (ad 0)), (1, .int x1)] [] (mW X.E ad S)) (x1 : Int32) (S : MS) (hf : f_X12_sum_38 lp5 fr x1 S = some u) : G X 4 0 0 38 [(0, .ref (ad 0)), (1, .int x1)] [] (mW X.E ad S) := by
  unfold f_X12_sum_38 at hf
  refine g_aloadn hX 0 rfl rfl dX12_sum_38 ?_
  refine g_aloadn hX 0 rfl rfl dX12_sum_39 ?_
  refine mg_at hX (v := S.2 6) rfl dX12_sum_40 ?_
  obtain ⟨r11, S9, h10, hf⟩ := cb_open hf
  refine k_X12_byteAt hX hq (c_X12_byteAt h10) (by omega) (by decide) (by decide) (Nat.le_of_ble_eq_true rfl) dX12_sum_43 ?_
  refine g_istoren hX [(2, .int r11), (0, .ref (ad 0)), (1, .int x1)] rfl (by decide) rfl dX12_sum_46 ?_
  refine g_aloadn hX 1 rfl rfl dX12_sum_47 ?_
  refine g_dup hX rfl dX12_sum_48 ?_
  refine mg_at hX (v := S9.2 6) rfl dX12_sum_49 ?_
  refine g_iconst hX (v := 1) (by decide) dX12_sum_52 ?_
  refine g_iadd hX dX12_sum_53 ?_
  obtain ⟨v12, ev12, hf⟩ := bI_open hf
  refine g_nm ev12 ?_
  refine mp_at hX dX12_sum_54 ?_
  refine g_aloadn hX 1 rfl rfl dX12_sum_57 ?_
  obtain ⟨r15, S13, h14, hf⟩ := cb_open hf
  refine k_X12_product hX hq (c_X12_product hdk hfr h14) (by omega) (by decide) (by decide) (Nat.le_of_ble_eq_true rfl) dX12_sum_58 ?_
  refine g_istoren hX [(3, .int r15), (2, .int r11), (0, .ref (ad 0)), (1, .int x1)] rfl (by decide) rfl dX12_sum_61 ?_
  refine g_iloadn hX 1 rfl rfl dX12_sum_62 ?_
  refine g_bipush hX (v := 43) (by decide) dX12_sum_63 ?_
  refine g_icmp_ne hX 74 (by decide) dX12_sum_65 (fun c16 => ?_) (fun c16 => ?_)
  · have hf := ite_f c16 hf
    refine g_iloadn hX 3 rfl rfl dX12_sum_74 ?_
    refine g_iloadn hX 0 rfl rfl dX12_sum_75 ?_
    refine g_isub hX dX12_sum_76 ?_
    refine g_lv [2] rfl ?_
    exact t_X12_sum_77 hdk hX hq hp hfr hlp5 _ _ hf
  · have hf := ite_t c16 hf
    refine g_iloadn hX 3 rfl rfl dX12_sum_68 ?_
    refine g_iloadn hX 0 rfl rfl dX12_sum_69 ?_
    refine g_iadd hX dX12_sum_70 ?_
    refine g_goto hX 77 (by decide) dX12_sum_71 ?_
    refine g_lv [2] rfl ?_
    exact t_X12_sum_77 hdk hX hq hp hfr hlp5 _ _ hf
set_option maxRecDepth 100000 in
set_option maxHeartbeats 4000000 in
theorem t_X12_sum_5 {X : Cx} {ad : Nat → Nat} {dk : Nat} (hdk : 12 ≤ dk) {PostX : Option Value → va_W → Prop} (hX : Ok X cX12_sum 4 RX12) (hq : Rq X (dk + 2) 0 0 (some .int) PostX) {u : (Int32 × MS)} (hp : PostX (some (.int u.1)) (mW X.E ad u.2)) {fr : MS → Option (Int32 × MS)} (hfr : ∀ (S : MS) (r : Int32) (S2 : MS), fr S = some (r, S2) → CP X.l X.E yX12_factor cX12_factor 3 (some .int) dk 0 0 [] [.ref (ad 0)] (mW X.E ad S) (fun rv w => rv = some (.int r) ∧ w = mW X.E ad S2)) : ∀ (n : Nat) (x1 : Int32) (S : MS), f_X12_sum_5 fr n x1 S = some u → G X 4 0 0 5 [(0, .ref (ad 0)), (1, .int x1)] [] (mW X.E ad S) := by
  intro n
  induction n with
  | zero => intro _ _ hf; unfold f_X12_sum_5 at hf; cases hf
  | succ n hlp5 =>
  intro x1 S hf
  unfold f_X12_sum_5 at hf
  refine g_aloadn hX 0 rfl rfl dX12_sum_5 ?_
  refine mg_good hX (v := S.2 12) rfl dX12_sum_6 ?_
  refine g_if_eq hX 81 (by decide) dX12_sum_9 (fun c4 => ?_) (fun c4 => ?_)
  · have hf := ite_t c4 hf
    refine g_iloadn hX 1 rfl rfl dX12_sum_81 ?_
    obtain rfl := oi hf
    exact g_iret hX hq (by decide) (by decide) hp dX12_sum_82
  · have hf := ite_f c4 hf
    refine g_aloadn hX 0 rfl rfl dX12_sum_12 ?_
    refine g_aloadn hX 0 rfl rfl dX12_sum_13 ?_
    refine mg_at hX (v := S.2 6) rfl dX12_sum_14 ?_
    obtain ⟨r7, S5, h6, hf⟩ := cb_open hf
    refine k_X12_byteAt hX hq (c_X12_byteAt h6) (by omega) (by decide) (by decide) (Nat.le_of_ble_eq_true rfl) dX12_sum_17 ?_
    refine g_bipush hX (v := 43) (by decide) dX12_sum_20 ?_
    refine g_icmp_eq hX 38 (by decide) dX12_sum_22 (fun c8 => ?_) (fun c8 => ?_)
    · have hf := ite_t c8 hf
      exact t_X12_sum_38 hdk hX hq hp hfr hlp5 _ _ hf
    · have hf := ite_f c8 hf
      refine g_aloadn hX 0 rfl rfl dX12_sum_25 ?_
      refine g_aloadn hX 0 rfl rfl dX12_sum_26 ?_
      refine mg_at hX (v := S5.2 6) rfl dX12_sum_27 ?_
      obtain ⟨r19, S17, h18, hf⟩ := cb_open hf
      refine k_X12_byteAt hX hq (c_X12_byteAt h18) (by omega) (by decide) (by decide) (Nat.le_of_ble_eq_true rfl) dX12_sum_30 ?_
      refine g_bipush hX (v := 45) (by decide) dX12_sum_33 ?_
      refine g_icmp_ne hX 81 (by decide) dX12_sum_35 (fun c20 => ?_) (fun c20 => ?_)
      · have hf := ite_f c20 hf
        refine g_iloadn hX 1 rfl rfl dX12_sum_81 ?_
        obtain rfl := oi hf
        exact g_iret hX hq (by decide) (by decide) hp dX12_sum_82
      · have hf := ite_t c20 hf
        exact t_X12_sum_38 hdk hX hq hp hfr hlp5 _ _ hf
set_option maxRecDepth 100000 in
set_option maxHeartbeats 4000000 in
theorem t_X12_sum_0 {X : Cx} {ad : Nat → Nat} {dk : Nat} (hdk : 12 ≤ dk) {PostX : Option Value → va_W → Prop} (hX : Ok X cX12_sum 4 RX12) (hq : Rq X (dk + 2) 0 0 (some .int) PostX) {u : (Int32 × MS)} (hp : PostX (some (.int u.1)) (mW X.E ad u.2)) {fr : MS → Option (Int32 × MS)} (hfr : ∀ (S : MS) (r : Int32) (S2 : MS), fr S = some (r, S2) → CP X.l X.E yX12_factor cX12_factor 3 (some .int) dk 0 0 [] [.ref (ad 0)] (mW X.E ad S) (fun rv w => rv = some (.int r) ∧ w = mW X.E ad S2)) (S : MS) (hf : f_X12_sum fr S = some u) : G X 4 0 0 0 [(0, .ref (ad 0))] [] (mW X.E ad S) := by
  unfold f_X12_sum at hf
  refine g_aloadn hX 0 rfl rfl dX12_sum_0 ?_
  obtain ⟨r3, S1, h2, hf⟩ := cb_open hf
  refine k_X12_product hX hq (c_X12_product hdk hfr h2) (by omega) (by decide) (by decide) (Nat.le_of_ble_eq_true rfl) dX12_sum_1 ?_
  refine g_istoren hX [(1, .int r3), (0, .ref (ad 0))] rfl (by decide) rfl dX12_sum_4 ?_
  refine g_lv [1, 0] rfl ?_
  exact t_X12_sum_5 hdk hX hq hp hfr _ _ _ hf
theorem c_X12_sum {l : Launch} {E : En} {ad : Nat → Nat} {dk : Nat} (hdk : 12 ≤ dk) {fr : MS → Option (Int32 × MS)} (hfr : ∀ (S : MS) (r : Int32) (S2 : MS), fr S = some (r, S2) → CP l E yX12_factor cX12_factor 3 (some .int) dk 0 0 [] [.ref (ad 0)] (mW E ad S) (fun rv w => rv = some (.int r) ∧ w = mW E ad S2)) {r : Int32} {S S2 : MS} (hf : f_X12_sum fr S = some (r, S2)) : CP l E yX12_sum cX12_sum 4 (some .int) (dk + 2) 0 0 [] [.ref (ad 0)] (mW E ad S) (fun rv w => rv = some (.int r) ∧ w = mW E ad S2) :=
  CP.of (lv := [(0, .ref (ad 0))]) (by decide +kernel) (Nat.le_of_ble_eq_true rfl) rfl (fun X hl hE hro hX hq hn => by subst hl; subst hE; exact t_X12_sum_0 hdk hX hq ⟨rfl, rfl⟩ hfr S hf)
theorem kw_RX12_X12_sum : KwV RX12 166 RX12 yX12_sum cX12_sum 4 (some .int) 0 := ⟨mem_wsV wd_5_145 wd_5_147 wd_s_29 wd_1_19 wd_5_148, rfl, ⟨by decide +kernel, by decide +kernel, by decide +kernel⟩, by decide⟩
theorem k_X12_sum {X : Cx} {cc : ByteArray} {nL ce sl pc : Nat} {lv : List (Nat × Value)} {st : List Value} {dX mcX msX : Nat} {retX : Option FieldType} {PostX : Option Value → va_W → Prop} {ad : Nat → Nat} {S S2 : MS} {d : Nat} (hX : Ok X cc nL RX12) (hq : Rq X dX mcX msX retX PostX) {r : Int32} (hM : CP X.l X.E yX12_sum cX12_sum 4 (some .int) d 0 0 [] [.ref (ad 0)] (mW X.E ad S) (fun rv w => rv = some (.int r) ∧ w = mW X.E ad S2)) (hd : d < dX) (hc : ce ≤ mcX) (hs : sl ≤ msX) (hcat : (st.map fun v => v.category).sum ≤ 8) (hdg : decode cc pc = .ok (.invokevirtual 166, 3)) (kk : G X nL ce sl (pc + 3) lv (.int r :: st) (mW X.E ad S2)) : G X nL ce sl pc lv (.ref (ad 0) :: st) (mW X.E ad S) :=
  g_eqW (app1 _) (g_callV (pre := []) (mid := mW X.E ad S) (post := []) [] hX hq kw_RX12_X12_sum hM (fun _ h => absurd h List.not_mem_nil) hd hc hs rfl (Recv.of 0 12 rfl rfl) rfl hcat hdg (fun rv ws2 hp => by obtain ⟨rfl, rfl⟩ := hp; exact g_eqW (app1 _).symm kk))
def f_X12_compared_108 (fr : MS → Option (Int32 × MS)) (y0 : Int32) (S : MS) : Option (Int32 × MS) :=
  if (y0 = 0 : Prop) then
    some (0, S)
  else
    some (1, S)
def f_X12_compared_45 (fr : MS → Option (Int32 × MS)) (x1 : Int32) (x2 : Int32) (S : MS) : Option (Int32 × MS) :=
  bI ((S.2 6) + 1) fun v6 =>
  cb (f_X12_sum fr (sF S 6 v6)) fun r9 S7 =>
  if (x2 = 60 : Prop) then
    if (r9 ≤ x1 : Prop) then
      f_X12_compared_108 fr 0 S7
    else
      f_X12_compared_108 fr 1 S7
  else
    if (x2 = 61 : Prop) then
      if (x1 = r9 : Prop) then
        f_X12_compared_108 fr 1 S7
      else
        f_X12_compared_108 fr 0 S7
    else
      if (x1 ≤ r9 : Prop) then
        f_X12_compared_108 fr 0 S7
      else
        f_X12_compared_108 fr 1 S7
def f_X12_compared_24 (fr : MS → Option (Int32 × MS)) (x1 : Int32) (y0 : Int32) (S : MS) : Option (Int32 × MS) :=
  if (y0 = 60 : Prop) then
    f_X12_compared_45 fr x1 y0 S
  else
    if (y0 = 61 : Prop) then
      f_X12_compared_45 fr x1 y0 S
    else
      if (y0 = 62 : Prop) then
        f_X12_compared_45 fr x1 y0 S
      else
        some (x1, S)
def f_X12_compared (fr : MS → Option (Int32 × MS)) (S : MS) : Option (Int32 × MS) :=
  cb (f_X12_sum fr S) fun r3 S1 =>
  if ((S1.2 12) = 0 : Prop) then
    f_X12_compared_24 fr r3 (-1) S1
  else
    cb (f_X12_byteAt (S1.2 6) S1) fun r20 S18 =>
    f_X12_compared_24 fr r3 r20 S18
set_option maxRecDepth 100000 in
set_option maxHeartbeats 4000000 in
theorem t_X12_compared_108 {X : Cx} {ad : Nat → Nat} {dk : Nat} (hdk : 12 ≤ dk) {PostX : Option Value → va_W → Prop} (hX : Ok X cX12_compared 5 RX12) (hq : Rq X (dk + 3) 0 0 (some .int) PostX) {u : (Int32 × MS)} (hp : PostX (some (.int u.1)) (mW X.E ad u.2)) {fr : MS → Option (Int32 × MS)} (hfr : ∀ (S : MS) (r : Int32) (S2 : MS), fr S = some (r, S2) → CP X.l X.E yX12_factor cX12_factor 3 (some .int) dk 0 0 [] [.ref (ad 0)] (mW X.E ad S) (fun rv w => rv = some (.int r) ∧ w = mW X.E ad S2)) (y0 : Int32) (S : MS) (hf : f_X12_compared_108 fr y0 S = some u) : G X 5 0 0 108 [(0, .ref (ad 0))] [.int y0] (mW X.E ad S) := by
  unfold f_X12_compared_108 at hf
  refine g_istore hX [(4, .int y0), (0, .ref (ad 0))] (by decide) rfl dX12_compared_108 ?_
  refine g_iload hX 0 rfl dX12_compared_110 ?_
  refine g_if_eq hX 119 (by decide) dX12_compared_112 (fun c13 => ?_) (fun c13 => ?_)
  · have hf := ite_t c13 hf
    refine g_iconst hX (v := 0) (by decide) dX12_compared_119 ?_
    obtain rfl := oi hf
    exact g_iret hX hq (by decide) (by decide) hp dX12_compared_120
  · have hf := ite_f c13 hf
    refine g_iconst hX (v := 1) (by decide) dX12_compared_115 ?_
    refine g_goto hX 120 (by decide) dX12_compared_116 ?_
    obtain rfl := oi hf
    exact g_iret hX hq (by decide) (by decide) hp dX12_compared_120
set_option maxRecDepth 100000 in
set_option maxHeartbeats 4000000 in
theorem t_X12_compared_45 {X : Cx} {ad : Nat → Nat} {dk : Nat} (hdk : 12 ≤ dk) {PostX : Option Value → va_W → Prop} (hX : Ok X cX12_compared 5 RX12) (hq : Rq X (dk + 3) 0 0 (some .int) PostX) {u : (Int32 × MS)} (hp : PostX (some (.int u.1)) (mW X.E ad u.2)) {fr : MS → Option (Int32 × MS)} (hfr : ∀ (S : MS) (r : Int32) (S2 : MS), fr S = some (r, S2) → CP X.l X.E yX12_factor cX12_factor 3 (some .int) dk 0 0 [] [.ref (ad 0)] (mW X.E ad S) (fun rv w => rv = some (.int r) ∧ w = mW X.E ad S2)) (x1 : Int32) (x2 : Int32) (S : MS) (hf : f_X12_compared_45 fr x1 x2 S = some u) : G X 5 0 0 45 [(0, .ref (ad 0)), (1, .int x1), (2, .int x2)] [] (mW X.E ad S) := by
  unfold f_X12_compared_45 at hf
  refine g_aloadn hX 0 rfl rfl dX12_compared_45 ?_
  refine g_dup hX rfl dX12_compared_46 ?_
  refine mg_at hX (v := S.2 6) rfl dX12_compared_47 ?_
  refine g_iconst hX (v := 1) (by decide) dX12_compared_50 ?_
  refine g_iadd hX dX12_compared_51 ?_
  obtain ⟨v6, ev6, hf⟩ := bI_open hf
  refine g_nm ev6 ?_
  refine mp_at hX dX12_compared_52 ?_
  refine g_aloadn hX 0 rfl rfl dX12_compared_55 ?_
  obtain ⟨r9, S7, h8, hf⟩ := cb_open hf
  refine k_X12_sum hX hq (c_X12_sum hdk hfr h8) (by omega) (by decide) (by decide) (Nat.le_of_ble_eq_true rfl) dX12_compared_56 ?_
  refine g_istoren hX [(3, .int r9), (0, .ref (ad 0)), (1, .int x1), (2, .int x2)] rfl (by decide) rfl dX12_compared_59 ?_
  refine g_iloadn hX 3 rfl rfl dX12_compared_60 ?_
  refine g_bipush hX (v := 60) (by decide) dX12_compared_61 ?_
  refine g_icmp_ne hX 79 (by decide) dX12_compared_63 (fun c10 => ?_) (fun c10 => ?_)
  · have hf := ite_f c10 hf
    refine g_iloadn hX 3 rfl rfl dX12_compared_79 ?_
    refine g_bipush hX (v := 61) (by decide) dX12_compared_80 ?_
    refine g_icmp_ne hX 98 (by decide) dX12_compared_82 (fun c11 => ?_) (fun c11 => ?_)
    · have hf := ite_f c11 hf
      refine g_iloadn hX 2 rfl rfl dX12_compared_98 ?_
      refine g_iloadn hX 0 rfl rfl dX12_compared_99 ?_
      refine g_icmp_le hX 107 (by decide) dX12_compared_100 (fun c12 => ?_) (fun c12 => ?_)
      · have hf := ite_t c12 hf
        refine g_iconst hX (v := 0) (by decide) dX12_compared_107 ?_
        refine g_lv [1] rfl ?_
        exact t_X12_compared_108 hdk hX hq hp hfr _ _ hf
      · have hf := ite_f c12 hf
        refine g_iconst hX (v := 1) (by decide) dX12_compared_103 ?_
        refine g_goto hX 108 (by decide) dX12_compared_104 ?_
        refine g_lv [1] rfl ?_
        exact t_X12_compared_108 hdk hX hq hp hfr _ _ hf
    · have hf := ite_t c11 hf
      refine g_iloadn hX 2 rfl rfl dX12_compared_85 ?_
      refine g_iloadn hX 0 rfl rfl dX12_compared_86 ?_
      refine g_icmp_ne hX 94 (by decide) dX12_compared_87 (fun c14 => ?_) (fun c14 => ?_)
      · have hf := ite_f c14 hf
        refine g_iconst hX (v := 0) (by decide) dX12_compared_94 ?_
        refine g_goto hX 108 (by decide) dX12_compared_95 ?_
        refine g_lv [1] rfl ?_
        exact t_X12_compared_108 hdk hX hq hp hfr _ _ hf
      · have hf := ite_t c14 hf
        refine g_iconst hX (v := 1) (by decide) dX12_compared_90 ?_
        refine g_goto hX 108 (by decide) dX12_compared_91 ?_
        refine g_lv [1] rfl ?_
        exact t_X12_compared_108 hdk hX hq hp hfr _ _ hf
  · have hf := ite_t c10 hf
    refine g_iloadn hX 2 rfl rfl dX12_compared_66 ?_
    refine g_iloadn hX 0 rfl rfl dX12_compared_67 ?_
    refine g_icmp_ge hX 75 (by decide) dX12_compared_68 (fun c15 => ?_) (fun c15 => ?_)
    · have hf := ite_t c15 hf
      refine g_iconst hX (v := 0) (by decide) dX12_compared_75 ?_
      refine g_goto hX 108 (by decide) dX12_compared_76 ?_
      refine g_lv [1] rfl ?_
      exact t_X12_compared_108 hdk hX hq hp hfr _ _ hf
    · have hf := ite_f c15 hf
      refine g_iconst hX (v := 1) (by decide) dX12_compared_71 ?_
      refine g_goto hX 108 (by decide) dX12_compared_72 ?_
      refine g_lv [1] rfl ?_
      exact t_X12_compared_108 hdk hX hq hp hfr _ _ hf
set_option maxRecDepth 100000 in
set_option maxHeartbeats 4000000 in
theorem t_X12_compared_24 {X : Cx} {ad : Nat → Nat} {dk : Nat} (hdk : 12 ≤ dk) {PostX : Option Value → va_W → Prop} (hX : Ok X cX12_compared 5 RX12) (hq : Rq X (dk + 3) 0 0 (some .int) PostX) {u : (Int32 × MS)} (hp : PostX (some (.int u.1)) (mW X.E ad u.2)) {fr : MS → Option (Int32 × MS)} (hfr : ∀ (S : MS) (r : Int32) (S2 : MS), fr S = some (r, S2) → CP X.l X.E yX12_factor cX12_factor 3 (some .int) dk 0 0 [] [.ref (ad 0)] (mW X.E ad S) (fun rv w => rv = some (.int r) ∧ w = mW X.E ad S2)) (x1 : Int32) (y0 : Int32) (S : MS) (hf : f_X12_compared_24 fr x1 y0 S = some u) : G X 5 0 0 24 [(0, .ref (ad 0)), (1, .int x1)] [.int y0] (mW X.E ad S) := by
  unfold f_X12_compared_24 at hf
  refine g_istoren hX [(2, .int y0), (0, .ref (ad 0)), (1, .int x1)] rfl (by decide) rfl dX12_compared_24 ?_
  refine g_iloadn hX 0 rfl rfl dX12_compared_25 ?_
  refine g_bipush hX (v := 60) (by decide) dX12_compared_26 ?_
  refine g_icmp_eq hX 45 (by decide) dX12_compared_28 (fun c5 => ?_) (fun c5 => ?_)
  · have hf := ite_t c5 hf
    refine g_lv [1, 2, 0] rfl ?_
    exact t_X12_compared_45 hdk hX hq hp hfr _ _ _ hf
  · have hf := ite_f c5 hf
    refine g_iloadn hX 0 rfl rfl dX12_compared_31 ?_
    refine g_bipush hX (v := 61) (by decide) dX12_compared_32 ?_
    refine g_icmp_eq hX 45 (by decide) dX12_compared_34 (fun c16 => ?_) (fun c16 => ?_)
    · have hf := ite_t c16 hf
      refine g_lv [1, 2, 0] rfl ?_
      exact t_X12_compared_45 hdk hX hq hp hfr _ _ _ hf
    · have hf := ite_f c16 hf
      refine g_iloadn hX 0 rfl rfl dX12_compared_37 ?_
      refine g_bipush hX (v := 62) (by decide) dX12_compared_38 ?_
      refine g_icmp_eq hX 45 (by decide) dX12_compared_40 (fun c17 => ?_) (fun c17 => ?_)
      · have hf := ite_t c17 hf
        refine g_lv [1, 2, 0] rfl ?_
        exact t_X12_compared_45 hdk hX hq hp hfr _ _ _ hf
      · have hf := ite_f c17 hf
        refine g_iloadn hX 2 rfl rfl dX12_compared_43 ?_
        obtain rfl := oi hf
        exact g_iret hX hq (by decide) (by decide) hp dX12_compared_44
set_option maxRecDepth 100000 in
set_option maxHeartbeats 4000000 in
theorem t_X12_compared_0 {X : Cx} {ad : Nat → Nat} {dk : Nat} (hdk : 12 ≤ dk) {PostX : Option Value → va_W → Prop} (hX : Ok X cX12_compared 5 RX12) (hq : Rq X (dk + 3) 0 0 (some .int) PostX) {u : (Int32 × MS)} (hp : PostX (some (.int u.1)) (mW X.E ad u.2)) {fr : MS → Option (Int32 × MS)} (hfr : ∀ (S : MS) (r : Int32) (S2 : MS), fr S = some (r, S2) → CP X.l X.E yX12_factor cX12_factor 3 (some .int) dk 0 0 [] [.ref (ad 0)] (mW X.E ad S) (fun rv w => rv = some (.int r) ∧ w = mW X.E ad S2)) (S : MS) (hf : f_X12_compared fr S = some u) : G X 5 0 0 0 [(0, .ref (ad 0))] [] (mW X.E ad S) := by
  unfold f_X12_compared at hf
  refine g_aloadn hX 0 rfl rfl dX12_compared_0 ?_
  obtain ⟨r3, S1, h2, hf⟩ := cb_open hf
  refine k_X12_sum hX hq (c_X12_sum hdk hfr h2) (by omega) (by decide) (by decide) (Nat.le_of_ble_eq_true rfl) dX12_compared_1 ?_
  refine g_istoren hX [(1, .int r3), (0, .ref (ad 0))] rfl (by decide) rfl dX12_compared_4 ?_
  refine g_aloadn hX 1 rfl rfl dX12_compared_5 ?_
  refine mg_good hX (v := S1.2 12) rfl dX12_compared_6 ?_
  refine g_if_eq hX 23 (by decide) dX12_compared_9 (fun c4 => ?_) (fun c4 => ?_)
  · have hf := ite_t c4 hf
    refine g_iconst hX (v := (-1)) (by decide) dX12_compared_23 ?_
    refine g_lv [1, 0] rfl ?_
    exact t_X12_compared_24 hdk hX hq hp hfr _ _ _ hf
  · have hf := ite_f c4 hf
    refine g_aloadn hX 1 rfl rfl dX12_compared_12 ?_
    refine g_aloadn hX 1 rfl rfl dX12_compared_13 ?_
    refine mg_at hX (v := S1.2 6) rfl dX12_compared_14 ?_
    obtain ⟨r20, S18, h19, hf⟩ := cb_open hf
    refine k_X12_byteAt hX hq (c_X12_byteAt h19) (by omega) (by decide) (by decide) (Nat.le_of_ble_eq_true rfl) dX12_compared_17 ?_
    refine g_goto hX 24 (by decide) dX12_compared_20 ?_
    refine g_lv [1, 0] rfl ?_
    exact t_X12_compared_24 hdk hX hq hp hfr _ _ _ hf
theorem c_X12_compared {l : Launch} {E : En} {ad : Nat → Nat} {dk : Nat} (hdk : 12 ≤ dk) {fr : MS → Option (Int32 × MS)} (hfr : ∀ (S : MS) (r : Int32) (S2 : MS), fr S = some (r, S2) → CP l E yX12_factor cX12_factor 3 (some .int) dk 0 0 [] [.ref (ad 0)] (mW E ad S) (fun rv w => rv = some (.int r) ∧ w = mW E ad S2)) {r : Int32} {S S2 : MS} (hf : f_X12_compared fr S = some (r, S2)) : CP l E yX12_compared cX12_compared 5 (some .int) (dk + 3) 0 0 [] [.ref (ad 0)] (mW E ad S) (fun rv w => rv = some (.int r) ∧ w = mW E ad S2) :=
  CP.of (lv := [(0, .ref (ad 0))]) (by decide +kernel) (Nat.le_of_ble_eq_true rfl) rfl (fun X hl hE hro hX hq hn => by subst hl; subst hE; exact t_X12_compared_0 hdk hX hq ⟨rfl, rfl⟩ hfr S hf)
theorem kw_RX12_X12_compared : KwV RX12 169 RX12 yX12_compared cX12_compared 5 (some .int) 0 := ⟨mem_wsV wd_5_141 wd_5_143 wd_s_28 wd_1_19 wd_5_144, rfl, ⟨by decide +kernel, by decide +kernel, by decide +kernel⟩, by decide⟩
theorem k_X12_compared {X : Cx} {cc : ByteArray} {nL ce sl pc : Nat} {lv : List (Nat × Value)} {st : List Value} {dX mcX msX : Nat} {retX : Option FieldType} {PostX : Option Value → va_W → Prop} {ad : Nat → Nat} {S S2 : MS} {d : Nat} (hX : Ok X cc nL RX12) (hq : Rq X dX mcX msX retX PostX) {r : Int32} (hM : CP X.l X.E yX12_compared cX12_compared 5 (some .int) d 0 0 [] [.ref (ad 0)] (mW X.E ad S) (fun rv w => rv = some (.int r) ∧ w = mW X.E ad S2)) (hd : d < dX) (hc : ce ≤ mcX) (hs : sl ≤ msX) (hcat : (st.map fun v => v.category).sum ≤ 8) (hdg : decode cc pc = .ok (.invokevirtual 169, 3)) (kk : G X nL ce sl (pc + 3) lv (.int r :: st) (mW X.E ad S2)) : G X nL ce sl pc lv (.ref (ad 0) :: st) (mW X.E ad S) :=
  g_eqW (app1 _) (g_callV (pre := []) (mid := mW X.E ad S) (post := []) [] hX hq kw_RX12_X12_compared hM (fun _ h => absurd h List.not_mem_nil) hd hc hs rfl (Recv.of 0 12 rfl rfl) rfl hcat hdg (fun rv ws2 hp => by obtain ⟨rfl, rfl⟩ := hp; exact g_eqW (app1 _).symm kk))
def f_X12_both_53 (lp5 : Int32 → MS → Option (Int32 × MS)) (fr : MS → Option (Int32 × MS)) (y0 : Int32) (S : MS) : Option (Int32 × MS) :=
  lp5 y0 S
def f_X12_both_52 (lp5 : Int32 → MS → Option (Int32 × MS)) (fr : MS → Option (Int32 × MS)) (S : MS) : Option (Int32 × MS) :=
  f_X12_both_53 lp5 fr 0 S
def f_X12_both_5 (fr : MS → Option (Int32 × MS)) : Nat → Int32 → MS → Option (Int32 × MS)
  | 0 => fun _ _ => none
  | n + 1 => fun x1 S =>
    let lp5 := f_X12_both_5 fr n
    if ((S.2 12) = 0 : Prop) then
      some (x1, S)
    else
      cb (f_X12_byteAt (S.2 6) S) fun r7 S5 =>
      if (r7 = 38 : Prop) then
        bI ((S5.2 6) + 1) fun v9 =>
        cb (f_X12_compared fr (sF S5 6 v9)) fun r12 S10 =>
        if (x1 = 0 : Prop) then
          f_X12_both_52 lp5 fr S10
        else
          if (r12 = 0 : Prop) then
            f_X12_both_52 lp5 fr S10
          else
            f_X12_both_53 lp5 fr 1 S10
      else
        some (x1, S5)
def f_X12_both (fr : MS → Option (Int32 × MS)) (S : MS) : Option (Int32 × MS) :=
  cb (f_X12_compared fr S) fun r3 S1 =>
  f_X12_both_5 fr 100 r3 S1
set_option maxRecDepth 100000 in
set_option maxHeartbeats 4000000 in
theorem t_X12_both_53 {X : Cx} {ad : Nat → Nat} {dk : Nat} (hdk : 12 ≤ dk) {PostX : Option Value → va_W → Prop} (hX : Ok X cX12_both 3 RX12) (hq : Rq X (dk + 4) 0 0 (some .int) PostX) {u : (Int32 × MS)} (hp : PostX (some (.int u.1)) (mW X.E ad u.2)) {fr : MS → Option (Int32 × MS)} (hfr : ∀ (S : MS) (r : Int32) (S2 : MS), fr S = some (r, S2) → CP X.l X.E yX12_factor cX12_factor 3 (some .int) dk 0 0 [] [.ref (ad 0)] (mW X.E ad S) (fun rv w => rv = some (.int r) ∧ w = mW X.E ad S2)) {lp5 : Int32 → MS → Option (Int32 × MS)} (hlp5 : ∀ (x1 : Int32) (S : MS), lp5 x1 S = some u → G X 3 0 0 5 [(0, .ref (ad 0)), (1, .int x1)] [] (mW X.E ad S)) (y0 : Int32) (S : MS) (hf : f_X12_both_53 lp5 fr y0 S = some u) : G X 3 0 0 53 [(0, .ref (ad 0))] [.int y0] (mW X.E ad S) := by
  unfold f_X12_both_53 at hf
  refine g_istoren hX [(1, .int y0), (0, .ref (ad 0))] rfl (by decide) rfl dX12_both_53 ?_
  refine g_goto hX 5 (by decide) dX12_both_54 ?_
  refine g_lv [1, 0] rfl ?_
  exact hlp5 _ _ hf
set_option maxRecDepth 100000 in
set_option maxHeartbeats 4000000 in
theorem t_X12_both_52 {X : Cx} {ad : Nat → Nat} {dk : Nat} (hdk : 12 ≤ dk) {PostX : Option Value → va_W → Prop} (hX : Ok X cX12_both 3 RX12) (hq : Rq X (dk + 4) 0 0 (some .int) PostX) {u : (Int32 × MS)} (hp : PostX (some (.int u.1)) (mW X.E ad u.2)) {fr : MS → Option (Int32 × MS)} (hfr : ∀ (S : MS) (r : Int32) (S2 : MS), fr S = some (r, S2) → CP X.l X.E yX12_factor cX12_factor 3 (some .int) dk 0 0 [] [.ref (ad 0)] (mW X.E ad S) (fun rv w => rv = some (.int r) ∧ w = mW X.E ad S2)) {lp5 : Int32 → MS → Option (Int32 × MS)} (hlp5 : ∀ (x1 : Int32) (S : MS), lp5 x1 S = some u → G X 3 0 0 5 [(0, .ref (ad 0)), (1, .int x1)] [] (mW X.E ad S)) (S : MS) (hf : f_X12_both_52 lp5 fr S = some u) : G X 3 0 0 52 [(0, .ref (ad 0))] [] (mW X.E ad S) := by
  unfold f_X12_both_52 at hf
  refine g_iconst hX (v := 0) (by decide) dX12_both_52 ?_
  exact t_X12_both_53 hdk hX hq hp hfr hlp5 _ _ hf
set_option maxRecDepth 100000 in
set_option maxHeartbeats 4000000 in
theorem t_X12_both_5 {X : Cx} {ad : Nat → Nat} {dk : Nat} (hdk : 12 ≤ dk) {PostX : Option Value → va_W → Prop} (hX : Ok X cX12_both 3 RX12) (hq : Rq X (dk + 4) 0 0 (some .int) PostX) {u : (Int32 × MS)} (hp : PostX (some (.int u.1)) (mW X.E ad u.2)) {fr : MS → Option (Int32 × MS)} (hfr : ∀ (S : MS) (r : Int32) (S2 : MS), fr S = some (r, S2) → CP X.l X.E yX12_factor cX12_factor 3 (some .int) dk 0 0 [] [.ref (ad 0)] (mW X.E ad S) (fun rv w => rv = some (.int r) ∧ w = mW X.E ad S2)) : ∀ (n : Nat) (x1 : Int32) (S : MS), f_X12_both_5 fr n x1 S = some u → G X 3 0 0 5 [(0, .ref (ad 0)), (1, .int x1)] [] (mW X.E ad S) := by
  intro n
  induction n with
  | zero => intro _ _ hf; unfold f_X12_both_5 at hf; cases hf
  | succ n hlp5 =>
  intro x1 S hf
  unfold f_X12_both_5 at hf
  refine g_aloadn hX 0 rfl rfl dX12_both_5 ?_
  refine mg_good hX (v := S.2 12) rfl dX12_both_6 ?_
  refine g_if_eq hX 57 (by decide) dX12_both_9 (fun c4 => ?_) (fun c4 => ?_)
  · have hf := ite_t c4 hf
    refine g_iloadn hX 1 rfl rfl dX12_both_57 ?_
    obtain rfl := oi hf
    exact g_iret hX hq (by decide) (by decide) hp dX12_both_58
  · have hf := ite_f c4 hf
    refine g_aloadn hX 0 rfl rfl dX12_both_12 ?_
    refine g_aloadn hX 0 rfl rfl dX12_both_13 ?_
    refine mg_at hX (v := S.2 6) rfl dX12_both_14 ?_
    obtain ⟨r7, S5, h6, hf⟩ := cb_open hf
    refine k_X12_byteAt hX hq (c_X12_byteAt h6) (by omega) (by decide) (by decide) (Nat.le_of_ble_eq_true rfl) dX12_both_17 ?_
    refine g_bipush hX (v := 38) (by decide) dX12_both_20 ?_
    refine g_icmp_ne hX 57 (by decide) dX12_both_22 (fun c8 => ?_) (fun c8 => ?_)
    · have hf := ite_f c8 hf
      refine g_iloadn hX 1 rfl rfl dX12_both_57 ?_
      obtain rfl := oi hf
      exact g_iret hX hq (by decide) (by decide) hp dX12_both_58
    · have hf := ite_t c8 hf
      refine g_aloadn hX 0 rfl rfl dX12_both_25 ?_
      refine g_dup hX rfl dX12_both_26 ?_
      refine mg_at hX (v := S5.2 6) rfl dX12_both_27 ?_
      refine g_iconst hX (v := 1) (by decide) dX12_both_30 ?_
      refine g_iadd hX dX12_both_31 ?_
      obtain ⟨v9, ev9, hf⟩ := bI_open hf
      refine g_nm ev9 ?_
      refine mp_at hX dX12_both_32 ?_
      refine g_aloadn hX 0 rfl rfl dX12_both_35 ?_
      obtain ⟨r12, S10, h11, hf⟩ := cb_open hf
      refine k_X12_compared hX hq (c_X12_compared hdk hfr h11) (by omega) (by decide) (by decide) (Nat.le_of_ble_eq_true rfl) dX12_both_36 ?_
      refine g_istoren hX [(2, .int r12), (0, .ref (ad 0)), (1, .int x1)] rfl (by decide) rfl dX12_both_39 ?_
      refine g_iloadn hX 2 rfl rfl dX12_both_40 ?_
      refine g_if_eq hX 52 (by decide) dX12_both_41 (fun c13 => ?_) (fun c13 => ?_)
      · have hf := ite_t c13 hf
        refine g_lv [1] rfl ?_
        exact t_X12_both_52 hdk hX hq hp hfr hlp5 _ hf
      · have hf := ite_f c13 hf
        refine g_iloadn hX 0 rfl rfl dX12_both_44 ?_
        refine g_if_eq hX 52 (by decide) dX12_both_45 (fun c14 => ?_) (fun c14 => ?_)
        · have hf := ite_t c14 hf
          refine g_lv [1] rfl ?_
          exact t_X12_both_52 hdk hX hq hp hfr hlp5 _ hf
        · have hf := ite_f c14 hf
          refine g_iconst hX (v := 1) (by decide) dX12_both_48 ?_
          refine g_goto hX 53 (by decide) dX12_both_49 ?_
          refine g_lv [1] rfl ?_
          exact t_X12_both_53 hdk hX hq hp hfr hlp5 _ _ hf
set_option maxRecDepth 100000 in
set_option maxHeartbeats 4000000 in
theorem t_X12_both_0 {X : Cx} {ad : Nat → Nat} {dk : Nat} (hdk : 12 ≤ dk) {PostX : Option Value → va_W → Prop} (hX : Ok X cX12_both 3 RX12) (hq : Rq X (dk + 4) 0 0 (some .int) PostX) {u : (Int32 × MS)} (hp : PostX (some (.int u.1)) (mW X.E ad u.2)) {fr : MS → Option (Int32 × MS)} (hfr : ∀ (S : MS) (r : Int32) (S2 : MS), fr S = some (r, S2) → CP X.l X.E yX12_factor cX12_factor 3 (some .int) dk 0 0 [] [.ref (ad 0)] (mW X.E ad S) (fun rv w => rv = some (.int r) ∧ w = mW X.E ad S2)) (S : MS) (hf : f_X12_both fr S = some u) : G X 3 0 0 0 [(0, .ref (ad 0))] [] (mW X.E ad S) := by
  unfold f_X12_both at hf
  refine g_aloadn hX 0 rfl rfl dX12_both_0 ?_
  obtain ⟨r3, S1, h2, hf⟩ := cb_open hf
  refine k_X12_compared hX hq (c_X12_compared hdk hfr h2) (by omega) (by decide) (by decide) (Nat.le_of_ble_eq_true rfl) dX12_both_1 ?_
  refine g_istoren hX [(1, .int r3), (0, .ref (ad 0))] rfl (by decide) rfl dX12_both_4 ?_
  refine g_lv [1, 0] rfl ?_
  exact t_X12_both_5 hdk hX hq hp hfr _ _ _ hf
theorem c_X12_both {l : Launch} {E : En} {ad : Nat → Nat} {dk : Nat} (hdk : 12 ≤ dk) {fr : MS → Option (Int32 × MS)} (hfr : ∀ (S : MS) (r : Int32) (S2 : MS), fr S = some (r, S2) → CP l E yX12_factor cX12_factor 3 (some .int) dk 0 0 [] [.ref (ad 0)] (mW E ad S) (fun rv w => rv = some (.int r) ∧ w = mW E ad S2)) {r : Int32} {S S2 : MS} (hf : f_X12_both fr S = some (r, S2)) : CP l E yX12_both cX12_both 3 (some .int) (dk + 4) 0 0 [] [.ref (ad 0)] (mW E ad S) (fun rv w => rv = some (.int r) ∧ w = mW E ad S2) :=
  CP.of (lv := [(0, .ref (ad 0))]) (by decide +kernel) (Nat.le_of_ble_eq_true rfl) rfl (fun X hl hE hro hX hq hn => by subst hl; subst hE; exact t_X12_both_0 hdk hX hq ⟨rfl, rfl⟩ hfr S hf)
theorem kw_RX12_X12_both : KwV RX12 172 RX12 yX12_both cX12_both 3 (some .int) 0 := ⟨mem_wsV wd_5_137 wd_5_139 wd_s_27 wd_1_19 wd_5_140, rfl, ⟨by decide +kernel, by decide +kernel, by decide +kernel⟩, by decide⟩
theorem k_X12_both {X : Cx} {cc : ByteArray} {nL ce sl pc : Nat} {lv : List (Nat × Value)} {st : List Value} {dX mcX msX : Nat} {retX : Option FieldType} {PostX : Option Value → va_W → Prop} {ad : Nat → Nat} {S S2 : MS} {d : Nat} (hX : Ok X cc nL RX12) (hq : Rq X dX mcX msX retX PostX) {r : Int32} (hM : CP X.l X.E yX12_both cX12_both 3 (some .int) d 0 0 [] [.ref (ad 0)] (mW X.E ad S) (fun rv w => rv = some (.int r) ∧ w = mW X.E ad S2)) (hd : d < dX) (hc : ce ≤ mcX) (hs : sl ≤ msX) (hcat : (st.map fun v => v.category).sum ≤ 8) (hdg : decode cc pc = .ok (.invokevirtual 172, 3)) (kk : G X nL ce sl (pc + 3) lv (.int r :: st) (mW X.E ad S2)) : G X nL ce sl pc lv (.ref (ad 0) :: st) (mW X.E ad S) :=
  g_eqW (app1 _) (g_callV (pre := []) (mid := mW X.E ad S) (post := []) [] hX hq kw_RX12_X12_both hM (fun _ h => absurd h List.not_mem_nil) hd hc hs rfl (Recv.of 0 12 rfl rfl) rfl hcat hdg (fun rv ws2 hp => by obtain ⟨rfl, rfl⟩ := hp; exact g_eqW (app1 _).symm kk))
def f_X12_whole_53 (lp5 : Int32 → MS → Option (Int32 × MS)) (fr : MS → Option (Int32 × MS)) (y0 : Int32) (S : MS) : Option (Int32 × MS) :=
  lp5 y0 S
def f_X12_whole_48 (lp5 : Int32 → MS → Option (Int32 × MS)) (fr : MS → Option (Int32 × MS)) (S : MS) : Option (Int32 × MS) :=
  f_X12_whole_53 lp5 fr 1 S
def f_X12_whole_5 (fr : MS → Option (Int32 × MS)) : Nat → Int32 → MS → Option (Int32 × MS)
  | 0 => fun _ _ => none
  | n + 1 => fun x1 S =>
    let lp5 := f_X12_whole_5 fr n
    if ((S.2 12) = 0 : Prop) then
      some (x1, S)
    else
      cb (f_X12_byteAt (S.2 6) S) fun r7 S5 =>
      if (r7 = 124 : Prop) then
        bI ((S5.2 6) + 1) fun v9 =>
        cb (f_X12_both fr (sF S5 6 v9)) fun r12 S10 =>
        if (x1 = 0 : Prop) then
          if (r12 = 0 : Prop) then
            f_X12_whole_53 lp5 fr 0 S10
          else
            f_X12_whole_48 lp5 fr S10
        else
          f_X12_whole_48 lp5 fr S10
      else
        some (x1, S5)
def f_X12_whole (fr : MS → Option (Int32 × MS)) (S : MS) : Option (Int32 × MS) :=
  cb (f_X12_both fr S) fun r3 S1 =>
  f_X12_whole_5 fr 100 r3 S1
set_option maxRecDepth 100000 in
set_option maxHeartbeats 4000000 in
theorem t_X12_whole_53 {X : Cx} {ad : Nat → Nat} {dk : Nat} (hdk : 12 ≤ dk) {PostX : Option Value → va_W → Prop} (hX : Ok X cX12_whole 3 RX12) (hq : Rq X (dk + 5) 0 0 (some .int) PostX) {u : (Int32 × MS)} (hp : PostX (some (.int u.1)) (mW X.E ad u.2)) {fr : MS → Option (Int32 × MS)} (hfr : ∀ (S : MS) (r : Int32) (S2 : MS), fr S = some (r, S2) → CP X.l X.E yX12_factor cX12_factor 3 (some .int) dk 0 0 [] [.ref (ad 0)] (mW X.E ad S) (fun rv w => rv = some (.int r) ∧ w = mW X.E ad S2)) {lp5 : Int32 → MS → Option (Int32 × MS)} (hlp5 : ∀ (x1 : Int32) (S : MS), lp5 x1 S = some u → G X 3 0 0 5 [(0, .ref (ad 0)), (1, .int x1)] [] (mW X.E ad S)) (y0 : Int32) (S : MS) (hf : f_X12_whole_53 lp5 fr y0 S = some u) : G X 3 0 0 53 [(0, .ref (ad 0))] [.int y0] (mW X.E ad S) := by
  unfold f_X12_whole_53 at hf
  refine g_istoren hX [(1, .int y0), (0, .ref (ad 0))] rfl (by decide) rfl dX12_whole_53 ?_
  refine g_goto hX 5 (by decide) dX12_whole_54 ?_
  refine g_lv [1, 0] rfl ?_
  exact hlp5 _ _ hf
set_option maxRecDepth 100000 in
set_option maxHeartbeats 4000000 in
theorem t_X12_whole_48 {X : Cx} {ad : Nat → Nat} {dk : Nat} (hdk : 12 ≤ dk) {PostX : Option Value → va_W → Prop} (hX : Ok X cX12_whole 3 RX12) (hq : Rq X (dk + 5) 0 0 (some .int) PostX) {u : (Int32 × MS)} (hp : PostX (some (.int u.1)) (mW X.E ad u.2)) {fr : MS → Option (Int32 × MS)} (hfr : ∀ (S : MS) (r : Int32) (S2 : MS), fr S = some (r, S2) → CP X.l X.E yX12_factor cX12_factor 3 (some .int) dk 0 0 [] [.ref (ad 0)] (mW X.E ad S) (fun rv w => rv = some (.int r) ∧ w = mW X.E ad S2)) {lp5 : Int32 → MS → Option (Int32 × MS)} (hlp5 : ∀ (x1 : Int32) (S : MS), lp5 x1 S = some u → G X 3 0 0 5 [(0, .ref (ad 0)), (1, .int x1)] [] (mW X.E ad S)) (S : MS) (hf : f_X12_whole_48 lp5 fr S = some u) : G X 3 0 0 48 [(0, .ref (ad 0))] [] (mW X.E ad S) := by
  unfold f_X12_whole_48 at hf
  refine g_iconst hX (v := 1) (by decide) dX12_whole_48 ?_
  refine g_goto hX 53 (by decide) dX12_whole_49 ?_
  exact t_X12_whole_53 hdk hX hq hp hfr hlp5 _ _ hf
set_option maxRecDepth 100000 in
set_option maxHeartbeats 4000000 in
theorem t_X12_whole_5 {X : Cx} {ad : Nat → Nat} {dk : Nat} (hdk : 12 ≤ dk) {PostX : Option Value → va_W → Prop} (hX : Ok X cX12_whole 3 RX12) (hq : Rq X (dk + 5) 0 0 (some .int) PostX) {u : (Int32 × MS)} (hp : PostX (some (.int u.1)) (mW X.E ad u.2)) {fr : MS → Option (Int32 × MS)} (hfr : ∀ (S : MS) (r : Int32) (S2 : MS), fr S = some (r, S2) → CP X.l X.E yX12_factor cX12_factor 3 (some .int) dk 0 0 [] [.ref (ad 0)] (mW X.E ad S) (fun rv w => rv = some (.int r) ∧ w = mW X.E ad S2)) : ∀ (n : Nat) (x1 : Int32) (S : MS), f_X12_whole_5 fr n x1 S = some u → G X 3 0 0 5 [(0, .ref (ad 0)), (1, .int x1)] [] (mW X.E ad S) := by
  intro n
  induction n with
  | zero => intro _ _ hf; unfold f_X12_whole_5 at hf; cases hf
  | succ n hlp5 =>
  intro x1 S hf
  unfold f_X12_whole_5 at hf
  refine g_aloadn hX 0 rfl rfl dX12_whole_5 ?_
  refine mg_good hX (v := S.2 12) rfl dX12_whole_6 ?_
  refine g_if_eq hX 57 (by decide) dX12_whole_9 (fun c4 => ?_) (fun c4 => ?_)
  · have hf := ite_t c4 hf
    refine g_iloadn hX 1 rfl rfl dX12_whole_57 ?_
    obtain rfl := oi hf
    exact g_iret hX hq (by decide) (by decide) hp dX12_whole_58
  · have hf := ite_f c4 hf
    refine g_aloadn hX 0 rfl rfl dX12_whole_12 ?_
    refine g_aloadn hX 0 rfl rfl dX12_whole_13 ?_
    refine mg_at hX (v := S.2 6) rfl dX12_whole_14 ?_
    obtain ⟨r7, S5, h6, hf⟩ := cb_open hf
    refine k_X12_byteAt hX hq (c_X12_byteAt h6) (by omega) (by decide) (by decide) (Nat.le_of_ble_eq_true rfl) dX12_whole_17 ?_
    refine g_bipush hX (v := 124) (by decide) dX12_whole_20 ?_
    refine g_icmp_ne hX 57 (by decide) dX12_whole_22 (fun c8 => ?_) (fun c8 => ?_)
    · have hf := ite_f c8 hf
      refine g_iloadn hX 1 rfl rfl dX12_whole_57 ?_
      obtain rfl := oi hf
      exact g_iret hX hq (by decide) (by decide) hp dX12_whole_58
    · have hf := ite_t c8 hf
      refine g_aloadn hX 0 rfl rfl dX12_whole_25 ?_
      refine g_dup hX rfl dX12_whole_26 ?_
      refine mg_at hX (v := S5.2 6) rfl dX12_whole_27 ?_
      refine g_iconst hX (v := 1) (by decide) dX12_whole_30 ?_
      refine g_iadd hX dX12_whole_31 ?_
      obtain ⟨v9, ev9, hf⟩ := bI_open hf
      refine g_nm ev9 ?_
      refine mp_at hX dX12_whole_32 ?_
      refine g_aloadn hX 0 rfl rfl dX12_whole_35 ?_
      obtain ⟨r12, S10, h11, hf⟩ := cb_open hf
      refine k_X12_both hX hq (c_X12_both hdk hfr h11) (by omega) (by decide) (by decide) (Nat.le_of_ble_eq_true rfl) dX12_whole_36 ?_
      refine g_istoren hX [(2, .int r12), (0, .ref (ad 0)), (1, .int x1)] rfl (by decide) rfl dX12_whole_39 ?_
      refine g_iloadn hX 2 rfl rfl dX12_whole_40 ?_
      refine g_if_ne hX 48 (by decide) dX12_whole_41 (fun c13 => ?_) (fun c13 => ?_)
      · have hf := ite_f c13 hf
        refine g_lv [1] rfl ?_
        exact t_X12_whole_48 hdk hX hq hp hfr hlp5 _ hf
      · have hf := ite_t c13 hf
        refine g_iloadn hX 0 rfl rfl dX12_whole_44 ?_
        refine g_if_eq hX 52 (by decide) dX12_whole_45 (fun c14 => ?_) (fun c14 => ?_)
        · have hf := ite_t c14 hf
          refine g_iconst hX (v := 0) (by decide) dX12_whole_52 ?_
          refine g_lv [1] rfl ?_
          exact t_X12_whole_53 hdk hX hq hp hfr hlp5 _ _ hf
        · have hf := ite_f c14 hf
          refine g_lv [1] rfl ?_
          exact t_X12_whole_48 hdk hX hq hp hfr hlp5 _ hf
set_option maxRecDepth 100000 in
set_option maxHeartbeats 4000000 in
theorem t_X12_whole_0 {X : Cx} {ad : Nat → Nat} {dk : Nat} (hdk : 12 ≤ dk) {PostX : Option Value → va_W → Prop} (hX : Ok X cX12_whole 3 RX12) (hq : Rq X (dk + 5) 0 0 (some .int) PostX) {u : (Int32 × MS)} (hp : PostX (some (.int u.1)) (mW X.E ad u.2)) {fr : MS → Option (Int32 × MS)} (hfr : ∀ (S : MS) (r : Int32) (S2 : MS), fr S = some (r, S2) → CP X.l X.E yX12_factor cX12_factor 3 (some .int) dk 0 0 [] [.ref (ad 0)] (mW X.E ad S) (fun rv w => rv = some (.int r) ∧ w = mW X.E ad S2)) (S : MS) (hf : f_X12_whole fr S = some u) : G X 3 0 0 0 [(0, .ref (ad 0))] [] (mW X.E ad S) := by
  unfold f_X12_whole at hf
  refine g_aloadn hX 0 rfl rfl dX12_whole_0 ?_
  obtain ⟨r3, S1, h2, hf⟩ := cb_open hf
  refine k_X12_both hX hq (c_X12_both hdk hfr h2) (by omega) (by decide) (by decide) (Nat.le_of_ble_eq_true rfl) dX12_whole_1 ?_
  refine g_istoren hX [(1, .int r3), (0, .ref (ad 0))] rfl (by decide) rfl dX12_whole_4 ?_
  refine g_lv [1, 0] rfl ?_
  exact t_X12_whole_5 hdk hX hq hp hfr _ _ _ hf
theorem c_X12_whole {l : Launch} {E : En} {ad : Nat → Nat} {dk : Nat} (hdk : 12 ≤ dk) {fr : MS → Option (Int32 × MS)} (hfr : ∀ (S : MS) (r : Int32) (S2 : MS), fr S = some (r, S2) → CP l E yX12_factor cX12_factor 3 (some .int) dk 0 0 [] [.ref (ad 0)] (mW E ad S) (fun rv w => rv = some (.int r) ∧ w = mW E ad S2)) {r : Int32} {S S2 : MS} (hf : f_X12_whole fr S = some (r, S2)) : CP l E yX12_whole cX12_whole 3 (some .int) (dk + 5) 0 0 [] [.ref (ad 0)] (mW E ad S) (fun rv w => rv = some (.int r) ∧ w = mW E ad S2) :=
  CP.of (lv := [(0, .ref (ad 0))]) (by decide +kernel) (Nat.le_of_ble_eq_true rfl) rfl (fun X hl hE hro hX hq hn => by subst hl; subst hE; exact t_X12_whole_0 hdk hX hq ⟨rfl, rfl⟩ hfr S hf)
theorem kw_RX12_X12_whole : KwV RX12 160 RX12 yX12_whole cX12_whole 3 (some .int) 0 := ⟨mem_wsV wd_5_133 wd_5_135 wd_s_26 wd_1_19 wd_5_136, rfl, ⟨by decide +kernel, by decide +kernel, by decide +kernel⟩, by decide⟩
theorem k_X12_whole {X : Cx} {cc : ByteArray} {nL ce sl pc : Nat} {lv : List (Nat × Value)} {st : List Value} {dX mcX msX : Nat} {retX : Option FieldType} {PostX : Option Value → va_W → Prop} {ad : Nat → Nat} {S S2 : MS} {d : Nat} (hX : Ok X cc nL RX12) (hq : Rq X dX mcX msX retX PostX) {r : Int32} (hM : CP X.l X.E yX12_whole cX12_whole 3 (some .int) d 0 0 [] [.ref (ad 0)] (mW X.E ad S) (fun rv w => rv = some (.int r) ∧ w = mW X.E ad S2)) (hd : d < dX) (hc : ce ≤ mcX) (hs : sl ≤ msX) (hcat : (st.map fun v => v.category).sum ≤ 8) (hdg : decode cc pc = .ok (.invokevirtual 160, 3)) (kk : G X nL ce sl (pc + 3) lv (.int r :: st) (mW X.E ad S2)) : G X nL ce sl pc lv (.ref (ad 0) :: st) (mW X.E ad S) :=
  g_eqW (app1 _) (g_callV (pre := []) (mid := mW X.E ad S) (post := []) [] hX hq kw_RX12_X12_whole hM (fun _ h => absurd h List.not_mem_nil) hd hc hs rfl (Recv.of 0 12 rfl rfl) rfl hcat hdg (fun rv ws2 hp => by obtain ⟨rfl, rfl⟩ := hp; exact g_eqW (app1 _).symm kk))
def f_X12_factor_148 (fr : MS → Option (Int32 × MS)) (S : MS) : Option (Int32 × MS) :=
  cb (f_X12_fails S) fun r20 S18 =>
  some (r20, S18)
def f_X12_factor_89 (fr : MS → Option (Int32 × MS)) (x1 : Int32) (y0 : Int32) (S : MS) : Option (Int32 × MS) :=
  bI ((S.2 8) - 1) fun v15 =>
  if (x1 = 33 : Prop) then
    if (y0 = 0 : Prop) then
      some (1, (sF S 8 v15))
    else
      some (0, (sF S 8 v15))
  else
    if ((S.2 12) = 0 : Prop) then
      f_X12_factor_148 fr (sF S 8 v15)
    else
      cb (f_X12_byteAt (S.2 6) (sF S 8 v15)) fun r23 S21 =>
      if (r23 = 41 : Prop) then
        bI ((S21.2 6) + 1) fun v25 =>
        some (y0, (sF S21 6 v25))
      else
        f_X12_factor_148 fr S21
def f_X12_factor_39 (fr : MS → Option (Int32 × MS)) (x1 : Int32) (S : MS) : Option (Int32 × MS) :=
  if ((S.2 8) = 5 : Prop) then
    cb (f_X12_fails S) fun r32 S30 =>
    some (r32, S30)
  else
    bI ((S.2 8) + 1) fun v9 =>
    bI ((S.2 6) + 1) fun v10 =>
    if (x1 = 33 : Prop) then
      cb (fr (sF (sF S 8 v9) 6 v10)) fun r29 S27 =>
      f_X12_factor_89 fr x1 r29 S27
    else
      cb (f_X12_whole fr (sF (sF S 8 v9) 6 v10)) fun r14 S12 =>
      f_X12_factor_89 fr x1 r14 S12
def f_X12_factor (fr : MS → Option (Int32 × MS)) (S : MS) : Option (Int32 × MS) :=
  cb (f_X12_byteAt (S.2 6) S) fun r3 S1 =>
  cs (f_X12_isDigit r3) fun r4 =>
  if (r4 = 0 : Prop) then
    if (r3 = 33 : Prop) then
      f_X12_factor_39 fr r3 S1
    else
      if (r3 = 40 : Prop) then
        f_X12_factor_39 fr r3 S1
      else
        cb (f_X12_named r3 S1) fun r36 S34 =>
        some (r36, S34)
  else
    cb (f_X12_number S1) fun r39 S37 =>
    some (r39, S37)
set_option maxRecDepth 100000 in
set_option maxHeartbeats 4000000 in
theorem t_X12_factor_148 {X : Cx} {ad : Nat → Nat} {dk : Nat} (hdk : 12 ≤ dk) {PostX : Option Value → va_W → Prop} (hX : Ok X cX12_factor 3 RX12) (hq : Rq X (dk + 6) 0 0 (some .int) PostX) {u : (Int32 × MS)} (hp : PostX (some (.int u.1)) (mW X.E ad u.2)) {fr : MS → Option (Int32 × MS)} (hfr : ∀ (S : MS) (r : Int32) (S2 : MS), fr S = some (r, S2) → CP X.l X.E yX12_factor cX12_factor 3 (some .int) dk 0 0 [] [.ref (ad 0)] (mW X.E ad S) (fun rv w => rv = some (.int r) ∧ w = mW X.E ad S2)) (S : MS) (hf : f_X12_factor_148 fr S = some u) : G X 3 0 0 148 [(0, .ref (ad 0))] [] (mW X.E ad S) := by
  unfold f_X12_factor_148 at hf
  refine g_aloadn hX 0 rfl rfl dX12_factor_148 ?_
  obtain ⟨r20, S18, h19, hf⟩ := cb_open hf
  refine k_X12_fails hX hq (c_X12_fails h19) (by omega) (by decide) (by decide) (Nat.le_of_ble_eq_true rfl) dX12_factor_149 ?_
  obtain rfl := oi hf
  exact g_iret hX hq (by decide) (by decide) hp dX12_factor_152
set_option maxRecDepth 100000 in
set_option maxHeartbeats 4000000 in
theorem t_X12_factor_89 {X : Cx} {ad : Nat → Nat} {dk : Nat} (hdk : 12 ≤ dk) {PostX : Option Value → va_W → Prop} (hX : Ok X cX12_factor 3 RX12) (hq : Rq X (dk + 6) 0 0 (some .int) PostX) {u : (Int32 × MS)} (hp : PostX (some (.int u.1)) (mW X.E ad u.2)) {fr : MS → Option (Int32 × MS)} (hfr : ∀ (S : MS) (r : Int32) (S2 : MS), fr S = some (r, S2) → CP X.l X.E yX12_factor cX12_factor 3 (some .int) dk 0 0 [] [.ref (ad 0)] (mW X.E ad S) (fun rv w => rv = some (.int r) ∧ w = mW X.E ad S2)) (x1 : Int32) (y0 : Int32) (S : MS) (hf : f_X12_factor_89 fr x1 y0 S = some u) : G X 3 0 0 89 [(0, .ref (ad 0)), (1, .int x1)] [.int y0] (mW X.E ad S) := by
  unfold f_X12_factor_89 at hf
  refine g_istoren hX [(2, .int y0), (0, .ref (ad 0)), (1, .int x1)] rfl (by decide) rfl dX12_factor_89 ?_
  refine g_aloadn hX 1 rfl rfl dX12_factor_90 ?_
  refine g_dup hX rfl dX12_factor_91 ?_
  refine mg_open hX (v := S.2 8) rfl dX12_factor_92 ?_
  refine g_iconst hX (v := 1) (by decide) dX12_factor_95 ?_
  refine g_isub hX dX12_factor_96 ?_
  obtain ⟨v15, ev15, hf⟩ := bI_open hf
  refine g_nm ev15 ?_
  refine mp_open hX dX12_factor_97 ?_
  refine g_iloadn hX 2 rfl rfl dX12_factor_100 ?_
  refine g_bipush hX (v := 33) (by decide) dX12_factor_101 ?_
  refine g_icmp_ne hX 116 (by decide) dX12_factor_103 (fun c16 => ?_) (fun c16 => ?_)
  · have hf := ite_f c16 hf
    refine g_aloadn hX 1 rfl rfl dX12_factor_116 ?_
    refine mg_good hX (v := S.2 12) rfl dX12_factor_117 ?_
    refine g_if_eq hX 148 (by decide) dX12_factor_120 (fun c17 => ?_) (fun c17 => ?_)
    · have hf := ite_t c17 hf
      refine g_lv [1] rfl ?_
      exact t_X12_factor_148 hdk hX hq hp hfr _ hf
    · have hf := ite_f c17 hf
      refine g_aloadn hX 1 rfl rfl dX12_factor_123 ?_
      refine g_aloadn hX 1 rfl rfl dX12_factor_124 ?_
      refine mg_at hX (v := S.2 6) rfl dX12_factor_125 ?_
      obtain ⟨r23, S21, h22, hf⟩ := cb_open hf
      refine k_X12_byteAt hX hq (c_X12_byteAt h22) (by omega) (by decide) (by decide) (Nat.le_of_ble_eq_true rfl) dX12_factor_128 ?_
      refine g_bipush hX (v := 41) (by decide) dX12_factor_131 ?_
      refine g_icmp_ne hX 148 (by decide) dX12_factor_133 (fun c24 => ?_) (fun c24 => ?_)
      · have hf := ite_f c24 hf
        refine g_lv [1] rfl ?_
        exact t_X12_factor_148 hdk hX hq hp hfr _ hf
      · have hf := ite_t c24 hf
        refine g_aloadn hX 1 rfl rfl dX12_factor_136 ?_
        refine g_dup hX rfl dX12_factor_137 ?_
        refine mg_at hX (v := S21.2 6) rfl dX12_factor_138 ?_
        refine g_iconst hX (v := 1) (by decide) dX12_factor_141 ?_
        refine g_iadd hX dX12_factor_142 ?_
        obtain ⟨v25, ev25, hf⟩ := bI_open hf
        refine g_nm ev25 ?_
        refine mp_at hX dX12_factor_143 ?_
        refine g_iloadn hX 0 rfl rfl dX12_factor_146 ?_
        obtain rfl := oi hf
        exact g_iret hX hq (by decide) (by decide) hp dX12_factor_147
  · have hf := ite_t c16 hf
    refine g_iloadn hX 0 rfl rfl dX12_factor_106 ?_
    refine g_if_ne hX 114 (by decide) dX12_factor_107 (fun c26 => ?_) (fun c26 => ?_)
    · have hf := ite_f c26 hf
      refine g_iconst hX (v := 0) (by decide) dX12_factor_114 ?_
      obtain rfl := oi hf
      exact g_iret hX hq (by decide) (by decide) hp dX12_factor_115
    · have hf := ite_t c26 hf
      refine g_iconst hX (v := 1) (by decide) dX12_factor_110 ?_
      refine g_goto hX 115 (by decide) dX12_factor_111 ?_
      obtain rfl := oi hf
      exact g_iret hX hq (by decide) (by decide) hp dX12_factor_115
set_option maxRecDepth 100000 in
set_option maxHeartbeats 4000000 in
theorem t_X12_factor_39 {X : Cx} {ad : Nat → Nat} {dk : Nat} (hdk : 12 ≤ dk) {PostX : Option Value → va_W → Prop} (hX : Ok X cX12_factor 3 RX12) (hq : Rq X (dk + 6) 0 0 (some .int) PostX) {u : (Int32 × MS)} (hp : PostX (some (.int u.1)) (mW X.E ad u.2)) {fr : MS → Option (Int32 × MS)} (hfr : ∀ (S : MS) (r : Int32) (S2 : MS), fr S = some (r, S2) → CP X.l X.E yX12_factor cX12_factor 3 (some .int) dk 0 0 [] [.ref (ad 0)] (mW X.E ad S) (fun rv w => rv = some (.int r) ∧ w = mW X.E ad S2)) (x1 : Int32) (S : MS) (hf : f_X12_factor_39 fr x1 S = some u) : G X 3 0 0 39 [(0, .ref (ad 0)), (1, .int x1)] [] (mW X.E ad S) := by
  unfold f_X12_factor_39 at hf
  refine g_aloadn hX 0 rfl rfl dX12_factor_39 ?_
  refine mg_open hX (v := S.2 8) rfl dX12_factor_40 ?_
  refine g_iconst hX (v := 5) (by decide) dX12_factor_43 ?_
  refine g_icmp_ne hX 52 (by decide) dX12_factor_44 (fun c8 => ?_) (fun c8 => ?_)
  · have hf := ite_f c8 hf
    refine g_aloadn hX 0 rfl rfl dX12_factor_52 ?_
    refine g_dup hX rfl dX12_factor_53 ?_
    refine mg_open hX (v := S.2 8) rfl dX12_factor_54 ?_
    refine g_iconst hX (v := 1) (by decide) dX12_factor_57 ?_
    refine g_iadd hX dX12_factor_58 ?_
    obtain ⟨v9, ev9, hf⟩ := bI_open hf
    refine g_nm ev9 ?_
    refine mp_open hX dX12_factor_59 ?_
    refine g_aloadn hX 0 rfl rfl dX12_factor_62 ?_
    refine g_dup hX rfl dX12_factor_63 ?_
    refine mg_at hX (v := S.2 6) rfl dX12_factor_64 ?_
    refine g_iconst hX (v := 1) (by decide) dX12_factor_67 ?_
    refine g_iadd hX dX12_factor_68 ?_
    obtain ⟨v10, ev10, hf⟩ := bI_open hf
    refine g_nm ev10 ?_
    refine mp_at hX dX12_factor_69 ?_
    refine g_iloadn hX 1 rfl rfl dX12_factor_72 ?_
    refine g_bipush hX (v := 33) (by decide) dX12_factor_73 ?_
    refine g_icmp_ne hX 85 (by decide) dX12_factor_75 (fun c11 => ?_) (fun c11 => ?_)
    · have hf := ite_f c11 hf
      refine g_aloadn hX 0 rfl rfl dX12_factor_85 ?_
      obtain ⟨r14, S12, h13, hf⟩ := cb_open hf
      refine k_X12_whole hX hq (c_X12_whole hdk hfr h13) (by omega) (by decide) (by decide) (Nat.le_of_ble_eq_true rfl) dX12_factor_86 ?_
      exact t_X12_factor_89 hdk hX hq hp hfr _ _ _ hf
    · have hf := ite_t c11 hf
      refine g_aloadn hX 0 rfl rfl dX12_factor_78 ?_
      obtain ⟨r29, S27, h28, hf⟩ := cb_open hf
      refine k_X12_factor hX hq (hfr _ _ _ h28) (by omega) (by decide) (by decide) (Nat.le_of_ble_eq_true rfl) dX12_factor_79 ?_
      refine g_goto hX 89 (by decide) dX12_factor_82 ?_
      exact t_X12_factor_89 hdk hX hq hp hfr _ _ _ hf
  · have hf := ite_t c8 hf
    refine g_aloadn hX 0 rfl rfl dX12_factor_47 ?_
    obtain ⟨r32, S30, h31, hf⟩ := cb_open hf
    refine k_X12_fails hX hq (c_X12_fails h31) (by omega) (by decide) (by decide) (Nat.le_of_ble_eq_true rfl) dX12_factor_48 ?_
    obtain rfl := oi hf
    exact g_iret hX hq (by decide) (by decide) hp dX12_factor_51
set_option maxRecDepth 100000 in
set_option maxHeartbeats 4000000 in
theorem t_X12_factor_0 {X : Cx} {ad : Nat → Nat} {dk : Nat} (hdk : 12 ≤ dk) {PostX : Option Value → va_W → Prop} (hX : Ok X cX12_factor 3 RX12) (hq : Rq X (dk + 6) 0 0 (some .int) PostX) {u : (Int32 × MS)} (hp : PostX (some (.int u.1)) (mW X.E ad u.2)) {fr : MS → Option (Int32 × MS)} (hfr : ∀ (S : MS) (r : Int32) (S2 : MS), fr S = some (r, S2) → CP X.l X.E yX12_factor cX12_factor 3 (some .int) dk 0 0 [] [.ref (ad 0)] (mW X.E ad S) (fun rv w => rv = some (.int r) ∧ w = mW X.E ad S2)) (S : MS) (hf : f_X12_factor fr S = some u) : G X 3 0 0 0 [(0, .ref (ad 0))] [] (mW X.E ad S) := by
  unfold f_X12_factor at hf
  refine g_aloadn hX 0 rfl rfl dX12_factor_0 ?_
  refine g_aloadn hX 0 rfl rfl dX12_factor_1 ?_
  refine mg_at hX (v := S.2 6) rfl dX12_factor_2 ?_
  obtain ⟨r3, S1, h2, hf⟩ := cb_open hf
  refine k_X12_byteAt hX hq (c_X12_byteAt h2) (by omega) (by decide) (by decide) (Nat.le_of_ble_eq_true rfl) dX12_factor_5 ?_
  refine g_istoren hX [(1, .int r3), (0, .ref (ad 0))] rfl (by decide) rfl dX12_factor_8 ?_
  refine g_iloadn hX 0 rfl rfl dX12_factor_9 ?_
  obtain ⟨r4, h5, hf⟩ := cs_open hf
  refine k_RX12_X12_isDigit hX hq h5 (by omega) (by decide) (by decide) (Nat.le_of_ble_eq_true rfl) dX12_factor_10 ?_
  refine g_if_eq hX 21 (by decide) dX12_factor_13 (fun c6 => ?_) (fun c6 => ?_)
  · have hf := ite_t c6 hf
    refine g_iloadn hX 0 rfl rfl dX12_factor_21 ?_
    refine g_bipush hX (v := 33) (by decide) dX12_factor_22 ?_
    refine g_icmp_eq hX 39 (by decide) dX12_factor_24 (fun c7 => ?_) (fun c7 => ?_)
    · have hf := ite_t c7 hf
      refine g_lv [1, 0] rfl ?_
      exact t_X12_factor_39 hdk hX hq hp hfr _ _ hf
    · have hf := ite_f c7 hf
      refine g_iloadn hX 0 rfl rfl dX12_factor_27 ?_
      refine g_bipush hX (v := 40) (by decide) dX12_factor_28 ?_
      refine g_icmp_eq hX 39 (by decide) dX12_factor_30 (fun c33 => ?_) (fun c33 => ?_)
      · have hf := ite_t c33 hf
        refine g_lv [1, 0] rfl ?_
        exact t_X12_factor_39 hdk hX hq hp hfr _ _ hf
      · have hf := ite_f c33 hf
        refine g_aloadn hX 1 rfl rfl dX12_factor_33 ?_
        refine g_iloadn hX 0 rfl rfl dX12_factor_34 ?_
        obtain ⟨r36, S34, h35, hf⟩ := cb_open hf
        refine k_X12_named hX hq (c_X12_named h35) (by omega) (by decide) (by decide) (Nat.le_of_ble_eq_true rfl) dX12_factor_35 ?_
        obtain rfl := oi hf
        exact g_iret hX hq (by decide) (by decide) hp dX12_factor_38
  · have hf := ite_f c6 hf
    refine g_aloadn hX 1 rfl rfl dX12_factor_16 ?_
    obtain ⟨r39, S37, h38, hf⟩ := cb_open hf
    refine k_X12_number hX hq (c_X12_number h38) (by omega) (by decide) (by decide) (Nat.le_of_ble_eq_true rfl) dX12_factor_17 ?_
    obtain rfl := oi hf
    exact g_iret hX hq (by decide) (by decide) hp dX12_factor_20
theorem c_X12_factor {l : Launch} {E : En} {ad : Nat → Nat} {dk : Nat} (hdk : 12 ≤ dk) {fr : MS → Option (Int32 × MS)} (hfr : ∀ (S : MS) (r : Int32) (S2 : MS), fr S = some (r, S2) → CP l E yX12_factor cX12_factor 3 (some .int) dk 0 0 [] [.ref (ad 0)] (mW E ad S) (fun rv w => rv = some (.int r) ∧ w = mW E ad S2)) {r : Int32} {S S2 : MS} (hf : f_X12_factor fr S = some (r, S2)) : CP l E yX12_factor cX12_factor 3 (some .int) (dk + 6) 0 0 [] [.ref (ad 0)] (mW E ad S) (fun rv w => rv = some (.int r) ∧ w = mW E ad S2) :=
  CP.of (lv := [(0, .ref (ad 0))]) (by decide +kernel) (Nat.le_of_ble_eq_true rfl) rfl (fun X hl hE hro hX hq hn => by subst hl; subst hE; exact t_X12_factor_0 hdk hX hq ⟨rfl, rfl⟩ hfr S hf)
def fr_X12_factor : Nat → MS → Option (Int32 × MS)
  | 0 => fun _ => none
  | n + 1 => f_X12_factor (fr_X12_factor n)
theorem cr_X12_factor {l : Launch} {E : En} {ad : Nat → Nat} : ∀ (n : Nat) (S : MS) (r : Int32) (S2 : MS), fr_X12_factor n S = some (r, S2) → CP l E yX12_factor cX12_factor 3 (some .int) (12 + n * 6) 0 0 [] [.ref (ad 0)] (mW E ad S) (fun rv w => rv = some (.int r) ∧ w = mW E ad S2) := by
  intro n
  induction n with
  | zero => intro S r S2 hf; cases hf
  | succ n ih =>
    intro S r S2 hf
    have h := c_X12_factor (l := l) (E := E) (ad := ad) (dk := 12 + n * 6) (by omega) (fun S r S2 h => ih S r S2 h) hf
    have e : 12 + n * 6 + 6 = 12 + (n + 1) * 6 := by omega
    rw [e] at h
    exact h
def f_X12_walks_79 (x5 : Int32) (y1 : Int32) (S : MS) : Option (Int32 × MS) :=
  gz y1 <|
  some (x5, (sF S 12 y1))
def f_X12_walks_78 (x5 : Int32) (S : MS) : Option (Int32 × MS) :=
  f_X12_walks_79 x5 0 S
def f_X12_walks (a1 : Int32) (a2 : Int32) (a3 : Int32) (a4 : Int32) (S : MS) : Option (Int32 × MS) :=
  gix (6 + a1) 206 fun k1 =>
  bI (S.1 1 k1) fun v2 =>
  cb (f_X12_whole (fr_X12_factor 8) (sF (sF (sF (sF (sF (sF (sF (sF S 5 a1) 6 0) 7 v2) 8 0) 12 1) 9 a2) 10 a3) 11 a4)) fun r5 S3 =>
  if ((S3.2 12) = 0 : Prop) then
    f_X12_walks_78 r5 S3
  else
    if ((S3.2 6) = (S3.2 7) : Prop) then
      f_X12_walks_79 r5 1 S3
    else
      f_X12_walks_78 r5 S3
set_option maxRecDepth 100000 in
set_option maxHeartbeats 4000000 in
theorem t_X12_walks_79 {X : Cx} {ad : Nat → Nat} {PostX : Option Value → va_W → Prop} (hX : Ok X cX12_walks 6 RX12) (hq : Rq X 66 0 0 (some .int) PostX) {u : (Int32 × MS)} (hp : PostX (some (.int u.1)) (mW X.E ad u.2)) (x5 : Int32) (y1 : Int32) (S : MS) (hf : f_X12_walks_79 x5 y1 S = some u) : G X 6 0 0 79 [(0, .ref (ad 0)), (5, .int x5)] [.int y1, .ref (ad 0)] (mW X.E ad S) := by
  unfold f_X12_walks_79 at hf
  obtain ⟨h7, hf⟩ := gz_open hf
  refine mp_good hX h7 dX12_walks_79 ?_
  refine g_iload hX 1 rfl dX12_walks_82 ?_
  obtain rfl := oi hf
  exact g_iret hX hq (by decide) (by decide) hp dX12_walks_84
set_option maxRecDepth 100000 in
set_option maxHeartbeats 4000000 in
theorem t_X12_walks_78 {X : Cx} {ad : Nat → Nat} {PostX : Option Value → va_W → Prop} (hX : Ok X cX12_walks 6 RX12) (hq : Rq X 66 0 0 (some .int) PostX) {u : (Int32 × MS)} (hp : PostX (some (.int u.1)) (mW X.E ad u.2)) (x5 : Int32) (S : MS) (hf : f_X12_walks_78 x5 S = some u) : G X 6 0 0 78 [(0, .ref (ad 0)), (5, .int x5)] [.ref (ad 0)] (mW X.E ad S) := by
  unfold f_X12_walks_78 at hf
  refine g_iconst hX (v := 0) (by decide) dX12_walks_78 ?_
  exact t_X12_walks_79 hX hq hp _ _ _ hf
set_option maxRecDepth 100000 in
set_option maxHeartbeats 4000000 in
theorem t_X12_walks_0 {X : Cx} {ad : Nat → Nat} {PostX : Option Value → va_W → Prop} (hX : Ok X cX12_walks 6 RX12) (hq : Rq X 66 0 0 (some .int) PostX) {u : (Int32 × MS)} (hp : PostX (some (.int u.1)) (mW X.E ad u.2)) (a1 : Int32) (a2 : Int32) (a3 : Int32) (a4 : Int32) (S : MS) (hf : f_X12_walks a1 a2 a3 a4 S = some u) : G X 6 0 0 0 [(0, .ref (ad 0)), (1, .int a1), (2, .int a2), (3, .int a3), (4, .int a4)] [] (mW X.E ad S) := by
  unfold f_X12_walks at hf
  refine g_aloadn hX 0 rfl rfl dX12_walks_0 ?_
  refine g_iloadn hX 1 rfl rfl dX12_walks_1 ?_
  refine mp_use hX dX12_walks_2 ?_
  refine g_aloadn hX 0 rfl rfl dX12_walks_5 ?_
  refine g_iconst hX (v := 0) (by decide) dX12_walks_6 ?_
  refine mp_at hX dX12_walks_7 ?_
  refine g_aloadn hX 0 rfl rfl dX12_walks_10 ?_
  refine g_aloadn hX 0 rfl rfl dX12_walks_11 ?_
  refine mg_row hX dX12_walks_12 ?_
  refine g_bipush hX (v := 6) (by decide) dX12_walks_15 ?_
  refine g_iloadn hX 1 rfl rfl dX12_walks_17 ?_
  refine g_iadd hX dX12_walks_18 ?_
  obtain ⟨k1, jk1, ik1, hf⟩ := gix_open hf
  refine ml_row hX ik1 k1 jk1 (v := S.1 1 k1) rfl dX12_walks_19 ?_
  obtain ⟨v2, ev2, hf⟩ := bI_open hf
  refine g_nm ev2 ?_
  refine mp_end hX dX12_walks_20 ?_
  refine g_aloadn hX 0 rfl rfl dX12_walks_23 ?_
  refine g_iconst hX (v := 0) (by decide) dX12_walks_24 ?_
  refine mp_open hX dX12_walks_25 ?_
  refine g_aloadn hX 0 rfl rfl dX12_walks_28 ?_
  refine g_iconst hX (v := 1) (by decide) dX12_walks_29 ?_
  refine mp_good hX (by decide) dX12_walks_30 ?_
  refine g_aloadn hX 0 rfl rfl dX12_walks_33 ?_
  refine g_iloadn hX 2 rfl rfl dX12_walks_34 ?_
  refine mp_namedA hX dX12_walks_35 ?_
  refine g_aloadn hX 0 rfl rfl dX12_walks_38 ?_
  refine g_iloadn hX 3 rfl rfl dX12_walks_39 ?_
  refine mp_namedB hX dX12_walks_40 ?_
  refine g_aloadn hX 0 rfl rfl dX12_walks_43 ?_
  refine g_iload hX 4 rfl dX12_walks_44 ?_
  refine mp_namedC hX dX12_walks_46 ?_
  refine g_aloadn hX 0 rfl rfl dX12_walks_49 ?_
  obtain ⟨r5, S3, h4, hf⟩ := cb_open hf
  refine k_X12_whole hX hq (c_X12_whole (dk := 60) (by decide) (cr_X12_factor 8) h4) (by decide) (by decide) (by decide) (Nat.le_of_ble_eq_true rfl) dX12_walks_50 ?_
  refine g_istore hX [(5, .int r5), (0, .ref (ad 0)), (1, .int a1), (2, .int a2), (3, .int a3), (4, .int a4)] (by decide) rfl dX12_walks_53 ?_
  refine g_aloadn hX 1 rfl rfl dX12_walks_55 ?_
  refine g_aloadn hX 1 rfl rfl dX12_walks_56 ?_
  refine mg_good hX (v := S3.2 12) rfl dX12_walks_57 ?_
  refine g_if_eq hX 78 (by decide) dX12_walks_60 (fun c6 => ?_) (fun c6 => ?_)
  · have hf := ite_t c6 hf
    refine g_lv [1, 0] rfl ?_
    exact t_X12_walks_78 hX hq hp _ _ hf
  · have hf := ite_f c6 hf
    refine g_aloadn hX 1 rfl rfl dX12_walks_63 ?_
    refine mg_at hX (v := S3.2 6) rfl dX12_walks_64 ?_
    refine g_aloadn hX 1 rfl rfl dX12_walks_67 ?_
    refine mg_end hX (v := S3.2 7) rfl dX12_walks_68 ?_
    refine g_icmp_ne hX 78 (by decide) dX12_walks_71 (fun c8 => ?_) (fun c8 => ?_)
    · have hf := ite_f c8 hf
      refine g_lv [1, 0] rfl ?_
      exact t_X12_walks_78 hX hq hp _ _ hf
    · have hf := ite_t c8 hf
      refine g_iconst hX (v := 1) (by decide) dX12_walks_74 ?_
      refine g_goto hX 79 (by decide) dX12_walks_75 ?_
      refine g_lv [1, 0] rfl ?_
      exact t_X12_walks_79 hX hq hp _ _ _ hf
theorem c_X12_walks {l : Launch} {E : En} {ad : Nat → Nat} {a1 : Int32} {a2 : Int32} {a3 : Int32} {a4 : Int32} {r : Int32} {S S2 : MS} (hf : f_X12_walks a1 a2 a3 a4 S = some (r, S2)) : CP l E yX12_walks cX12_walks 6 (some .int) 66 0 0 [] [.ref (ad 0), .int a1, .int a2, .int a3, .int a4] (mW E ad S) (fun rv w => rv = some (.int r) ∧ w = mW E ad S2) :=
  CP.of (lv := [(0, .ref (ad 0)), (1, .int a1), (2, .int a2), (3, .int a3), (4, .int a4)]) (by decide +kernel) (Nat.le_of_ble_eq_true rfl) rfl (fun X hl hE hro hX hq hn => by subst hl; subst hE; exact t_X12_walks_0 hX hq ⟨rfl, rfl⟩ a1 a2 a3 a4 S hf)
theorem kw_RX12_X12_walks : KwV RX12 175 RX12 yX12_walks cX12_walks 6 (some .int) 4 := ⟨mem_wsV wd_5_129 wd_5_131 wd_s_25 wd_1_19 wd_5_132, rfl, ⟨by decide +kernel, by decide +kernel, by decide +kernel⟩, by decide⟩
theorem k_X12_walks {X : Cx} {cc : ByteArray} {nL ce sl pc : Nat} {lv : List (Nat × Value)} {st : List Value} {dX mcX msX : Nat} {retX : Option FieldType} {PostX : Option Value → va_W → Prop} {ad : Nat → Nat} {S S2 : MS} {d : Nat} (hX : Ok X cc nL RX12) (hq : Rq X dX mcX msX retX PostX) {a1 : Int32} {a2 : Int32} {a3 : Int32} {a4 : Int32} {r : Int32} (hM : CP X.l X.E yX12_walks cX12_walks 6 (some .int) d 0 0 [] [.ref (ad 0), .int a1, .int a2, .int a3, .int a4] (mW X.E ad S) (fun rv w => rv = some (.int r) ∧ w = mW X.E ad S2)) (hd : d < dX) (hc : ce ≤ mcX) (hs : sl ≤ msX) (hcat : (st.map fun v => v.category).sum ≤ 8) (hdg : decode cc pc = .ok (.invokevirtual 175, 3)) (kk : G X nL ce sl (pc + 3) lv (.int r :: st) (mW X.E ad S2)) : G X nL ce sl pc lv (.int a4 :: .int a3 :: .int a2 :: .int a1 :: .ref (ad 0) :: st) (mW X.E ad S) :=
  g_eqW (app1 _) (g_callV (pre := []) (mid := mW X.E ad S) (post := []) [.int a1, .int a2, .int a3, .int a4] hX hq kw_RX12_X12_walks hM (fun _ h => absurd h List.not_mem_nil) hd hc hs rfl (Recv.of 0 12 rfl rfl) rfl hcat hdg (fun rv ws2 hp => by obtain ⟨rfl, rfl⟩ := hp; exact g_eqW (app1 _).symm kk))
def f_X12_lawOf_62 (y0 : Int32) (S : MS) : Option (Int32 × MS) :=
  cs (f_X12_held y0 (-99) 99) fun r6 =>
  some (r6, S)
def f_X12_lawOf_57 (x4 : Int32) (y0 : Int32) (S : MS) : Option (Int32 × MS) :=
  f_X12_lawOf_62 (y0 - (x4 * 2)) S
def f_X12_lawOf (a1 : Int32) (a2 : Int32) (a3 : Int32) (a4 : Int32) (S : MS) : Option (Int32 × MS) :=
  gix (6 + a1) 206 fun k1 =>
  if ((S.1 1 k1) < 0 : Prop) then
    if (a1 = 0 : Prop) then
      f_X12_lawOf_62 (((a2 * 2) + a4) - (a3 * 4)) S
    else
      if (a3 = 0 : Prop) then
        f_X12_lawOf_57 a4 0 S
      else
        gnz a3 <|
        f_X12_lawOf_57 a4 (a2 / a3) S
  else
    cb (f_X12_walks a1 a2 a3 a4 S) fun r10 S8 =>
    cs (f_X12_held r10 (-99) 99) fun r11 =>
    some (r11, S8)
set_option maxRecDepth 100000 in
set_option maxHeartbeats 4000000 in
theorem t_X12_lawOf_62 {X : Cx} {ad : Nat → Nat} {PostX : Option Value → va_W → Prop} (hX : Ok X cX12_lawOf 5 RX12) (hq : Rq X 67 0 0 (some .int) PostX) {u : (Int32 × MS)} (hp : PostX (some (.int u.1)) (mW X.E ad u.2)) (y0 : Int32) (S : MS) (hf : f_X12_lawOf_62 y0 S = some u) : G X 5 0 0 62 [(0, .ref (ad 0))] [.int y0] (mW X.E ad S) := by
  unfold f_X12_lawOf_62 at hf
  refine g_bipush hX (v := (-99)) (by decide) dX12_lawOf_62 ?_
  refine g_bipush hX (v := 99) (by decide) dX12_lawOf_64 ?_
  obtain ⟨r6, h7, hf⟩ := cs_open hf
  refine k_RX12_X12_held hX hq h7 (by decide) (by decide) (by decide) (Nat.le_of_ble_eq_true rfl) dX12_lawOf_66 ?_
  obtain rfl := oi hf
  exact g_iret hX hq (by decide) (by decide) hp dX12_lawOf_69
set_option maxRecDepth 100000 in
set_option maxHeartbeats 4000000 in
theorem t_X12_lawOf_57 {X : Cx} {ad : Nat → Nat} {PostX : Option Value → va_W → Prop} (hX : Ok X cX12_lawOf 5 RX12) (hq : Rq X 67 0 0 (some .int) PostX) {u : (Int32 × MS)} (hp : PostX (some (.int u.1)) (mW X.E ad u.2)) (x4 : Int32) (y0 : Int32) (S : MS) (hf : f_X12_lawOf_57 x4 y0 S = some u) : G X 5 0 0 57 [(0, .ref (ad 0)), (4, .int x4)] [.int y0] (mW X.E ad S) := by
  unfold f_X12_lawOf_57 at hf
  refine g_iload hX 1 rfl dX12_lawOf_57 ?_
  refine g_iconst hX (v := 2) (by decide) dX12_lawOf_59 ?_
  refine g_imul hX dX12_lawOf_60 ?_
  refine g_isub hX dX12_lawOf_61 ?_
  refine g_lv [0] rfl ?_
  exact t_X12_lawOf_62 hX hq hp _ _ hf
set_option maxRecDepth 100000 in
set_option maxHeartbeats 4000000 in
theorem t_X12_lawOf_0 {X : Cx} {ad : Nat → Nat} {PostX : Option Value → va_W → Prop} (hX : Ok X cX12_lawOf 5 RX12) (hq : Rq X 67 0 0 (some .int) PostX) {u : (Int32 × MS)} (hp : PostX (some (.int u.1)) (mW X.E ad u.2)) (a1 : Int32) (a2 : Int32) (a3 : Int32) (a4 : Int32) (S : MS) (hf : f_X12_lawOf a1 a2 a3 a4 S = some u) : G X 5 0 0 0 [(0, .ref (ad 0)), (1, .int a1), (2, .int a2), (3, .int a3), (4, .int a4)] [] (mW X.E ad S) := by
  unfold f_X12_lawOf at hf
  refine g_aloadn hX 0 rfl rfl dX12_lawOf_0 ?_
  refine mg_row hX dX12_lawOf_1 ?_
  refine g_bipush hX (v := 6) (by decide) dX12_lawOf_4 ?_
  refine g_iloadn hX 1 rfl rfl dX12_lawOf_6 ?_
  refine g_iadd hX dX12_lawOf_7 ?_
  obtain ⟨k1, jk1, ik1, hf⟩ := gix_open hf
  refine ml_row hX ik1 k1 jk1 (v := S.1 1 k1) rfl dX12_lawOf_8 ?_
  refine g_if_lt hX 29 (by decide) dX12_lawOf_9 (fun c2 => ?_) (fun c2 => ?_)
  · have hf := ite_t c2 hf
    refine g_iloadn hX 1 rfl rfl dX12_lawOf_29 ?_
    refine g_if_ne hX 46 (by decide) dX12_lawOf_30 (fun c3 => ?_) (fun c3 => ?_)
    · have hf := ite_f c3 hf
      refine g_iloadn hX 3 rfl rfl dX12_lawOf_46 ?_
      refine g_if_ne hX 54 (by decide) dX12_lawOf_47 (fun c4 => ?_) (fun c4 => ?_)
      · have hf := ite_f c4 hf
        refine g_iloadn hX 2 rfl rfl dX12_lawOf_54 ?_
        refine g_iloadn hX 3 rfl rfl dX12_lawOf_55 ?_
        obtain ⟨h5, hf⟩ := gnz_open hf
        refine g_idiv hX h5 dX12_lawOf_56 ?_
        refine g_lv [0, 4] rfl ?_
        exact t_X12_lawOf_57 hX hq hp _ _ _ hf
      · have hf := ite_t c4 hf
        refine g_iconst hX (v := 0) (by decide) dX12_lawOf_50 ?_
        refine g_goto hX 57 (by decide) dX12_lawOf_51 ?_
        refine g_lv [0, 4] rfl ?_
        exact t_X12_lawOf_57 hX hq hp _ _ _ hf
    · have hf := ite_t c3 hf
      refine g_iloadn hX 2 rfl rfl dX12_lawOf_33 ?_
      refine g_iconst hX (v := 2) (by decide) dX12_lawOf_34 ?_
      refine g_imul hX dX12_lawOf_35 ?_
      refine g_iload hX 4 rfl dX12_lawOf_36 ?_
      refine g_iadd hX dX12_lawOf_38 ?_
      refine g_iloadn hX 3 rfl rfl dX12_lawOf_39 ?_
      refine g_iconst hX (v := 4) (by decide) dX12_lawOf_40 ?_
      refine g_imul hX dX12_lawOf_41 ?_
      refine g_isub hX dX12_lawOf_42 ?_
      refine g_goto hX 62 (by decide) dX12_lawOf_43 ?_
      refine g_lv [0] rfl ?_
      exact t_X12_lawOf_62 hX hq hp _ _ hf
  · have hf := ite_f c2 hf
    refine g_aloadn hX 0 rfl rfl dX12_lawOf_12 ?_
    refine g_iloadn hX 1 rfl rfl dX12_lawOf_13 ?_
    refine g_iloadn hX 2 rfl rfl dX12_lawOf_14 ?_
    refine g_iloadn hX 3 rfl rfl dX12_lawOf_15 ?_
    refine g_iload hX 4 rfl dX12_lawOf_16 ?_
    obtain ⟨r10, S8, h9, hf⟩ := cb_open hf
    refine k_X12_walks hX hq (c_X12_walks h9) (by decide) (by decide) (by decide) (Nat.le_of_ble_eq_true rfl) dX12_lawOf_18 ?_
    refine g_bipush hX (v := (-99)) (by decide) dX12_lawOf_21 ?_
    refine g_bipush hX (v := 99) (by decide) dX12_lawOf_23 ?_
    obtain ⟨r11, h12, hf⟩ := cs_open hf
    refine k_RX12_X12_held hX hq h12 (by decide) (by decide) (by decide) (Nat.le_of_ble_eq_true rfl) dX12_lawOf_25 ?_
    obtain rfl := oi hf
    exact g_iret hX hq (by decide) (by decide) hp dX12_lawOf_28
theorem c_X12_lawOf {l : Launch} {E : En} {ad : Nat → Nat} {a1 : Int32} {a2 : Int32} {a3 : Int32} {a4 : Int32} {r : Int32} {S S2 : MS} (hf : f_X12_lawOf a1 a2 a3 a4 S = some (r, S2)) : CP l E yX12_lawOf cX12_lawOf 5 (some .int) 67 0 0 [] [.ref (ad 0), .int a1, .int a2, .int a3, .int a4] (mW E ad S) (fun rv w => rv = some (.int r) ∧ w = mW E ad S2) :=
  CP.of (lv := [(0, .ref (ad 0)), (1, .int a1), (2, .int a2), (3, .int a3), (4, .int a4)]) (by decide +kernel) (Nat.le_of_ble_eq_true rfl) rfl (fun X hl hE hro hX hq hn => by subst hl; subst hE; exact t_X12_lawOf_0 hX hq ⟨rfl, rfl⟩ a1 a2 a3 a4 S hf)
theorem kw_RX12_X12_lawOf : KwV RX12 86 RX12 yX12_lawOf cX12_lawOf 5 (some .int) 4 := ⟨mem_wsV wd_5_125 wd_5_127 wd_s_24 wd_1_19 wd_5_128, rfl, ⟨by decide +kernel, by decide +kernel, by decide +kernel⟩, by decide⟩
theorem k_X12_lawOf {X : Cx} {cc : ByteArray} {nL ce sl pc : Nat} {lv : List (Nat × Value)} {st : List Value} {dX mcX msX : Nat} {retX : Option FieldType} {PostX : Option Value → va_W → Prop} {ad : Nat → Nat} {S S2 : MS} {d : Nat} (hX : Ok X cc nL RX12) (hq : Rq X dX mcX msX retX PostX) {a1 : Int32} {a2 : Int32} {a3 : Int32} {a4 : Int32} {r : Int32} (hM : CP X.l X.E yX12_lawOf cX12_lawOf 5 (some .int) d 0 0 [] [.ref (ad 0), .int a1, .int a2, .int a3, .int a4] (mW X.E ad S) (fun rv w => rv = some (.int r) ∧ w = mW X.E ad S2)) (hd : d < dX) (hc : ce ≤ mcX) (hs : sl ≤ msX) (hcat : (st.map fun v => v.category).sum ≤ 8) (hdg : decode cc pc = .ok (.invokevirtual 86, 3)) (kk : G X nL ce sl (pc + 3) lv (.int r :: st) (mW X.E ad S2)) : G X nL ce sl pc lv (.int a4 :: .int a3 :: .int a2 :: .int a1 :: .ref (ad 0) :: st) (mW X.E ad S) :=
  g_eqW (app1 _) (g_callV (pre := []) (mid := mW X.E ad S) (post := []) [.int a1, .int a2, .int a3, .int a4] hX hq kw_RX12_X12_lawOf hM (fun _ h => absurd h List.not_mem_nil) hd hc hs rfl (Recv.of 0 12 rfl rfl) rfl hcat hdg (fun rv ws2 hp => by obtain ⟨rfl, rfl⟩ := hp; exact g_eqW (app1 _).symm kk))
def f_X12_law (a1 : Int32) (a2 : Int32) (a3 : Int32) (a4 : Int32) (S : MS) : Option (Int32 × MS) :=
  cs (f_X12_in a1 0 1) fun r1 =>
  if (r1 = 0 : Prop) then
    cb (f_X12_errs (-1000000001) S) fun r6 S4 =>
    some (r6, S4)
  else
    cb (f_X12_lawOf a1 a2 a3 a4 S) fun r9 S7 =>
    some (r9, S7)
set_option maxRecDepth 100000 in
set_option maxHeartbeats 4000000 in
theorem t_X12_law_0 {X : Cx} {ad : Nat → Nat} {PostX : Option Value → va_W → Prop} (hX : Ok X cX12_law 5 RX12) (hq : Rq X 68 0 0 (some .int) PostX) {u : (Int32 × MS)} (hp : PostX (some (.int u.1)) (mW X.E ad u.2)) (a1 : Int32) (a2 : Int32) (a3 : Int32) (a4 : Int32) (S : MS) (hf : f_X12_law a1 a2 a3 a4 S = some u) : G X 5 0 0 0 [(0, .ref (ad 0)), (1, .int a1), (2, .int a2), (3, .int a3), (4, .int a4)] [] (mW X.E ad S) := by
  unfold f_X12_law at hf
  refine g_iloadn hX 1 rfl rfl dX12_law_0 ?_
  refine g_iconst hX (v := 0) (by decide) dX12_law_1 ?_
  refine g_iconst hX (v := 1) (by decide) dX12_law_2 ?_
  obtain ⟨r1, h2, hf⟩ := cs_open hf
  refine k_RX12_X12_in hX hq h2 (by decide) (by decide) (by decide) (Nat.le_of_ble_eq_true rfl) dX12_law_3 ?_
  refine g_if_eq hX 21 (by decide) dX12_law_6 (fun c3 => ?_) (fun c3 => ?_)
  · have hf := ite_t c3 hf
    refine g_aloadn hX 0 rfl rfl dX12_law_21 ?_
    refine g_ldc hX (v := (-1000000001)) wd_5_74 dX12_law_22 ?_
    obtain ⟨r6, S4, h5, hf⟩ := cb_open hf
    refine k_X12_errs hX hq (c_X12_errs h5) (by decide) (by decide) (by decide) (Nat.le_of_ble_eq_true rfl) dX12_law_24 ?_
    obtain rfl := oi hf
    exact g_iret hX hq (by decide) (by decide) hp dX12_law_27
  · have hf := ite_f c3 hf
    refine g_aloadn hX 0 rfl rfl dX12_law_9 ?_
    refine g_iloadn hX 1 rfl rfl dX12_law_10 ?_
    refine g_iloadn hX 2 rfl rfl dX12_law_11 ?_
    refine g_iloadn hX 3 rfl rfl dX12_law_12 ?_
    refine g_iload hX 4 rfl dX12_law_13 ?_
    obtain ⟨r9, S7, h8, hf⟩ := cb_open hf
    refine k_X12_lawOf hX hq (c_X12_lawOf h8) (by decide) (by decide) (by decide) (Nat.le_of_ble_eq_true rfl) dX12_law_15 ?_
    refine g_goto hX 27 (by decide) dX12_law_18 ?_
    obtain rfl := oi hf
    exact g_iret hX hq (by decide) (by decide) hp dX12_law_27
theorem c_X12_law {l : Launch} {E : En} {ad : Nat → Nat} {a1 : Int32} {a2 : Int32} {a3 : Int32} {a4 : Int32} {r : Int32} {S S2 : MS} (hf : f_X12_law a1 a2 a3 a4 S = some (r, S2)) : CP l E yX12_law cX12_law 5 (some .int) 68 0 0 [] [.ref (ad 0), .int a1, .int a2, .int a3, .int a4] (mW E ad S) (fun rv w => rv = some (.int r) ∧ w = mW E ad S2) :=
  CP.of (lv := [(0, .ref (ad 0)), (1, .int a1), (2, .int a2), (3, .int a3), (4, .int a4)]) (by decide +kernel) (Nat.le_of_ble_eq_true rfl) rfl (fun X hl hE hro hX hq hn => by subst hl; subst hE; exact t_X12_law_0 hX hq ⟨rfl, rfl⟩ a1 a2 a3 a4 S hf)

theorem kw_RX12_X12_risesIn : KwV RX12 242 RX12 yX12_risesIn cX12_risesIn 4 (some .int) 2 := ⟨mem_wsV wd_6_104 wd_6_106 wd_s_51 wd_1_19 wd_6_107, rfl, ⟨by decide +kernel, by decide +kernel, by decide +kernel⟩, by decide⟩
theorem k_X12_risesIn {X : Cx} {cc : ByteArray} {nL ce sl pc : Nat} {lv : List (Nat × Value)} {st : List Value} {dX mcX msX : Nat} {retX : Option FieldType} {PostX : Option Value → va_W → Prop} {ad : Nat → Nat} {S S2 : MS} {d : Nat} (hX : Ok X cc nL RX12) (hq : Rq X dX mcX msX retX PostX) {a1 : Int32} {a2 : Int32} {r : Int32} (hM : CP X.l X.E yX12_risesIn cX12_risesIn 4 (some .int) d 0 0 [] [.ref (ad 0), .int a1, .int a2] (mW X.E ad S) (fun rv w => rv = some (.int r) ∧ w = mW X.E ad S2)) (hd : d < dX) (hc : ce ≤ mcX) (hs : sl ≤ msX) (hcat : (st.map fun v => v.category).sum ≤ 8) (hdg : decode cc pc = .ok (.invokevirtual 242, 3)) (kk : G X nL ce sl (pc + 3) lv (.int r :: st) (mW X.E ad S2)) : G X nL ce sl pc lv (.int a2 :: .int a1 :: .ref (ad 0) :: st) (mW X.E ad S) :=
  g_eqW (app1 _) (g_callV (pre := []) (mid := mW X.E ad S) (post := []) [.int a1, .int a2] hX hq kw_RX12_X12_risesIn hM (fun _ h => absurd h List.not_mem_nil) hd hc hs rfl (Recv.of 0 12 rfl rfl) rfl hcat hdg (fun rv ws2 hp => by obtain ⟨rfl, rfl⟩ := hp; exact g_eqW (app1 _).symm kk))
def f_X12_risesIn (fr : Int32 → Int32 → MS → Option (Int32 × MS)) (a1 : Int32) (a2 : Int32) (S : MS) : Option (Int32 × MS) :=
  if (a1 = 0 : Prop) then
    cb (f_X12_ran 11 S) fun _ S24 =>
    cb (fr_X12_saysIn 8 (S24.2 14) a2 S24) fun r29 S27 =>
    some ((r29 * 2), S27)
  else
    if (a1 = 2 : Prop) then
      cb (f_X12_ran 30 S) fun _ S15 =>
      cb (fr 0 a2 S15) fun r20 S18 =>
      cb (fr_X12_doubtsIn 8 (S18.2 14) 1 S18) fun r23 S21 =>
      some ((r20 - r23), S21)
    else
      if (a1 = 5 : Prop) then
        cb (f_X12_ran 60 S) fun _ S9 =>
        cb (fr 2 (a2 + 1) S9) fun r14 S12 =>
        some (r14, S12)
      else
        cs (f_X12_above a1) fun r4 =>
        cb (fr r4 a2 S) fun r8 S6 =>
        some (r8, S6)
set_option maxRecDepth 100000 in
set_option maxHeartbeats 4000000 in
theorem t_X12_risesIn_0 {X : Cx} {ad : Nat → Nat} {dk : Nat} (hdk : 24 ≤ dk) {PostX : Option Value → va_W → Prop} (hX : Ok X cX12_risesIn 4 RX12) (hq : Rq X (dk + 1) 0 0 (some .int) PostX) {u : (Int32 × MS)} (hp : PostX (some (.int u.1)) (mW X.E ad u.2)) {fr : Int32 → Int32 → MS → Option (Int32 × MS)} (hfr : ∀ (a1 : Int32) (a2 : Int32) (S : MS) (r : Int32) (S2 : MS), fr a1 a2 S = some (r, S2) → CP X.l X.E yX12_risesIn cX12_risesIn 4 (some .int) dk 0 0 [] [.ref (ad 0), .int a1, .int a2] (mW X.E ad S) (fun rv w => rv = some (.int r) ∧ w = mW X.E ad S2)) (a1 : Int32) (a2 : Int32) (S : MS) (hf : f_X12_risesIn fr a1 a2 S = some u) : G X 4 0 0 0 [(0, .ref (ad 0)), (1, .int a1), (2, .int a2)] [] (mW X.E ad S) := by
  unfold f_X12_risesIn at hf
  refine g_iloadn hX 1 rfl rfl dX12_risesIn_0 ?_
  refine g_if_ne hX 22 (by decide) dX12_risesIn_1 (fun c1 => ?_) (fun c1 => ?_)
  · have hf := ite_f c1 hf
    refine g_iloadn hX 1 rfl rfl dX12_risesIn_22 ?_
    refine g_iconst hX (v := 2) (by decide) dX12_risesIn_23 ?_
    refine g_icmp_ne hX 52 (by decide) dX12_risesIn_24 (fun c2 => ?_) (fun c2 => ?_)
    · have hf := ite_f c2 hf
      refine g_iloadn hX 1 rfl rfl dX12_risesIn_52 ?_
      refine g_iconst hX (v := 5) (by decide) dX12_risesIn_53 ?_
      refine g_icmp_ne hX 72 (by decide) dX12_risesIn_54 (fun c3 => ?_) (fun c3 => ?_)
      · have hf := ite_f c3 hf
        refine g_aloadn hX 0 rfl rfl dX12_risesIn_72 ?_
        refine g_iloadn hX 1 rfl rfl dX12_risesIn_73 ?_
        obtain ⟨r4, h5, hf⟩ := cs_open hf
        refine k_RX12_X12_above hX hq h5 (by omega) (by decide) (by decide) (Nat.le_of_ble_eq_true rfl) dX12_risesIn_74 ?_
        refine g_iloadn hX 2 rfl rfl dX12_risesIn_77 ?_
        obtain ⟨r8, S6, h7, hf⟩ := cb_open hf
        refine k_X12_risesIn hX hq (hfr _ _ _ _ _ h7) (by omega) (by decide) (by decide) (Nat.le_of_ble_eq_true rfl) dX12_risesIn_78 ?_
        obtain rfl := oi hf
        exact g_iret hX hq (by decide) (by decide) hp dX12_risesIn_81
      · have hf := ite_t c3 hf
        refine g_aloadn hX 0 rfl rfl dX12_risesIn_57 ?_
        refine g_bipush hX (v := 60) (by decide) dX12_risesIn_58 ?_
        obtain ⟨z11, S9, h10, hf⟩ := cb_open hf
        refine k_X12_ran hX hq (c_X12_ran h10) (by omega) (by decide) (by decide) (Nat.le_of_ble_eq_true rfl) dX12_risesIn_60 ?_
        refine g_aloadn hX 0 rfl rfl dX12_risesIn_63 ?_
        refine g_iconst hX (v := 2) (by decide) dX12_risesIn_64 ?_
        refine g_iloadn hX 2 rfl rfl dX12_risesIn_65 ?_
        refine g_iconst hX (v := 1) (by decide) dX12_risesIn_66 ?_
        refine g_iadd hX dX12_risesIn_67 ?_
        obtain ⟨r14, S12, h13, hf⟩ := cb_open hf
        refine k_X12_risesIn hX hq (hfr _ _ _ _ _ h13) (by omega) (by decide) (by decide) (Nat.le_of_ble_eq_true rfl) dX12_risesIn_68 ?_
        obtain rfl := oi hf
        exact g_iret hX hq (by decide) (by decide) hp dX12_risesIn_71
    · have hf := ite_t c2 hf
      refine g_aloadn hX 0 rfl rfl dX12_risesIn_27 ?_
      refine g_bipush hX (v := 30) (by decide) dX12_risesIn_28 ?_
      obtain ⟨z17, S15, h16, hf⟩ := cb_open hf
      refine k_X12_ran hX hq (c_X12_ran h16) (by omega) (by decide) (by decide) (Nat.le_of_ble_eq_true rfl) dX12_risesIn_30 ?_
      refine g_aloadn hX 0 rfl rfl dX12_risesIn_33 ?_
      refine g_iconst hX (v := 0) (by decide) dX12_risesIn_34 ?_
      refine g_iloadn hX 2 rfl rfl dX12_risesIn_35 ?_
      obtain ⟨r20, S18, h19, hf⟩ := cb_open hf
      refine k_X12_risesIn hX hq (hfr _ _ _ _ _ h19) (by omega) (by decide) (by decide) (Nat.le_of_ble_eq_true rfl) dX12_risesIn_36 ?_
      refine g_istoren hX [(3, .int r20), (0, .ref (ad 0)), (1, .int a1), (2, .int a2)] rfl (by decide) rfl dX12_risesIn_39 ?_
      refine g_iloadn hX 0 rfl rfl dX12_risesIn_40 ?_
      refine g_aloadn hX 1 rfl rfl dX12_risesIn_41 ?_
      refine g_aloadn hX 1 rfl rfl dX12_risesIn_42 ?_
      refine mg_voiceKind hX (v := S18.2 14) rfl dX12_risesIn_43 ?_
      refine g_iconst hX (v := 1) (by decide) dX12_risesIn_46 ?_
      obtain ⟨r23, S21, h22, hf⟩ := cb_open hf
      refine k_X12_doubtsIn hX hq (cr_X12_doubtsIn 8 _ _ _ _ _ h22) (by omega) (by decide) (by decide) (Nat.le_of_ble_eq_true rfl) dX12_risesIn_47 ?_
      refine g_isub hX dX12_risesIn_50 ?_
      obtain rfl := oi hf
      exact g_iret hX hq (by decide) (by decide) hp dX12_risesIn_51
  · have hf := ite_t c1 hf
    refine g_aloadn hX 0 rfl rfl dX12_risesIn_4 ?_
    refine g_bipush hX (v := 11) (by decide) dX12_risesIn_5 ?_
    obtain ⟨z26, S24, h25, hf⟩ := cb_open hf
    refine k_X12_ran hX hq (c_X12_ran h25) (by omega) (by decide) (by decide) (Nat.le_of_ble_eq_true rfl) dX12_risesIn_7 ?_
    refine g_aloadn hX 0 rfl rfl dX12_risesIn_10 ?_
    refine g_aloadn hX 0 rfl rfl dX12_risesIn_11 ?_
    refine mg_voiceKind hX (v := S24.2 14) rfl dX12_risesIn_12 ?_
    refine g_iloadn hX 2 rfl rfl dX12_risesIn_15 ?_
    obtain ⟨r29, S27, h28, hf⟩ := cb_open hf
    refine k_X12_saysIn hX hq (cr_X12_saysIn 8 _ _ _ _ _ h28) (by omega) (by decide) (by decide) (Nat.le_of_ble_eq_true rfl) dX12_risesIn_16 ?_
    refine g_iconst hX (v := 2) (by decide) dX12_risesIn_19 ?_
    refine g_imul hX dX12_risesIn_20 ?_
    obtain rfl := oi hf
    exact g_iret hX hq (by decide) (by decide) hp dX12_risesIn_21
theorem c_X12_risesIn {l : Launch} {E : En} {ad : Nat → Nat} {dk : Nat} (hdk : 24 ≤ dk) {fr : Int32 → Int32 → MS → Option (Int32 × MS)} (hfr : ∀ (a1 : Int32) (a2 : Int32) (S : MS) (r : Int32) (S2 : MS), fr a1 a2 S = some (r, S2) → CP l E yX12_risesIn cX12_risesIn 4 (some .int) dk 0 0 [] [.ref (ad 0), .int a1, .int a2] (mW E ad S) (fun rv w => rv = some (.int r) ∧ w = mW E ad S2)) {a1 : Int32} {a2 : Int32} {r : Int32} {S S2 : MS} (hf : f_X12_risesIn fr a1 a2 S = some (r, S2)) : CP l E yX12_risesIn cX12_risesIn 4 (some .int) (dk + 1) 0 0 [] [.ref (ad 0), .int a1, .int a2] (mW E ad S) (fun rv w => rv = some (.int r) ∧ w = mW E ad S2) :=
  CP.of (lv := [(0, .ref (ad 0)), (1, .int a1), (2, .int a2)]) (by decide +kernel) (Nat.le_of_ble_eq_true rfl) rfl (fun X hl hE hro hX hq hn => by subst hl; subst hE; exact t_X12_risesIn_0 hdk hX hq ⟨rfl, rfl⟩ hfr a1 a2 S hf)
def fr_X12_risesIn : Nat → Int32 → Int32 → MS → Option (Int32 × MS)
  | 0 => fun _ _ _ => none
  | n + 1 => f_X12_risesIn (fr_X12_risesIn n)
theorem cr_X12_risesIn {l : Launch} {E : En} {ad : Nat → Nat} : ∀ (n : Nat) (a1 : Int32) (a2 : Int32) (S : MS) (r : Int32) (S2 : MS), fr_X12_risesIn n a1 a2 S = some (r, S2) → CP l E yX12_risesIn cX12_risesIn 4 (some .int) (24 + n * 1) 0 0 [] [.ref (ad 0), .int a1, .int a2] (mW E ad S) (fun rv w => rv = some (.int r) ∧ w = mW E ad S2) := by
  intro n
  induction n with
  | zero => intro a1 a2 S r S2 hf; cases hf
  | succ n ih =>
    intro a1 a2 S r S2 hf
    have h := c_X12_risesIn (l := l) (E := E) (ad := ad) (dk := 24 + n * 1) (by omega) (fun a1 a2 S r S2 h => ih a1 a2 S r S2 h) hf
    have e : 24 + n * 1 + 1 = 24 + (n + 1) * 1 := by omega
    rw [e] at h
    exact h
theorem kw_RX12_X12_tellsIn : KwV RX12 245 RX12 yX12_tellsIn cX12_tellsIn 4 (some .int) 2 := ⟨mem_wsV wd_6_112 wd_6_114 wd_s_53 wd_1_19 wd_6_115, rfl, ⟨by decide +kernel, by decide +kernel, by decide +kernel⟩, by decide⟩
theorem k_X12_tellsIn {X : Cx} {cc : ByteArray} {nL ce sl pc : Nat} {lv : List (Nat × Value)} {st : List Value} {dX mcX msX : Nat} {retX : Option FieldType} {PostX : Option Value → va_W → Prop} {ad : Nat → Nat} {S S2 : MS} {d : Nat} (hX : Ok X cc nL RX12) (hq : Rq X dX mcX msX retX PostX) {a1 : Int32} {a2 : Int32} {r : Int32} (hM : CP X.l X.E yX12_tellsIn cX12_tellsIn 4 (some .int) d 0 0 [] [.ref (ad 0), .int a1, .int a2] (mW X.E ad S) (fun rv w => rv = some (.int r) ∧ w = mW X.E ad S2)) (hd : d < dX) (hc : ce ≤ mcX) (hs : sl ≤ msX) (hcat : (st.map fun v => v.category).sum ≤ 8) (hdg : decode cc pc = .ok (.invokevirtual 245, 3)) (kk : G X nL ce sl (pc + 3) lv (.int r :: st) (mW X.E ad S2)) : G X nL ce sl pc lv (.int a2 :: .int a1 :: .ref (ad 0) :: st) (mW X.E ad S) :=
  g_eqW (app1 _) (g_callV (pre := []) (mid := mW X.E ad S) (post := []) [.int a1, .int a2] hX hq kw_RX12_X12_tellsIn hM (fun _ h => absurd h List.not_mem_nil) hd hc hs rfl (Recv.of 0 12 rfl rfl) rfl hcat hdg (fun rv ws2 hp => by obtain ⟨rfl, rfl⟩ := hp; exact g_eqW (app1 _).symm kk))
def f_X12_tellsIn (fr : Int32 → Int32 → MS → Option (Int32 × MS)) (a1 : Int32) (a2 : Int32) (S : MS) : Option (Int32 × MS) :=
  if (a1 = 0 : Prop) then
    cb (f_X12_ran 13 S) fun _ S27 =>
    cb (fr_X12_risesIn 8 (S27.2 14) a2 S27) fun r32 S30 =>
    cb (fr_X12_doubtsIn 8 (S30.2 14) a2 S30) fun r35 S33 =>
    some ((r32 ^^^ r35), S33)
  else
    if (a1 = 4 : Prop) then
      cb (f_X12_ran 50 S) fun _ S18 =>
      cb (fr 1 a2 S18) fun r23 S21 =>
      cb (fr_X12_saysIn 8 (S21.2 14) 2 S21) fun r26 S24 =>
      some ((r23 - r26), S24)
    else
      if (a1 = 6 : Prop) then
        cb (f_X12_ran 71 S) fun _ S9 =>
        cb (fr_X12_risesIn 8 (S9.2 14) a2 S9) fun r14 S12 =>
        cb (fr 3 a2 S12) fun r17 S15 =>
        some ((r14 - r17), S15)
      else
        cs (f_X12_above a1) fun r4 =>
        cb (fr r4 a2 S) fun r8 S6 =>
        some (r8, S6)
set_option maxRecDepth 100000 in
set_option maxHeartbeats 4000000 in
theorem t_X12_tellsIn_0 {X : Cx} {ad : Nat → Nat} {dk : Nat} (hdk : 40 ≤ dk) {PostX : Option Value → va_W → Prop} (hX : Ok X cX12_tellsIn 4 RX12) (hq : Rq X (dk + 1) 0 0 (some .int) PostX) {u : (Int32 × MS)} (hp : PostX (some (.int u.1)) (mW X.E ad u.2)) {fr : Int32 → Int32 → MS → Option (Int32 × MS)} (hfr : ∀ (a1 : Int32) (a2 : Int32) (S : MS) (r : Int32) (S2 : MS), fr a1 a2 S = some (r, S2) → CP X.l X.E yX12_tellsIn cX12_tellsIn 4 (some .int) dk 0 0 [] [.ref (ad 0), .int a1, .int a2] (mW X.E ad S) (fun rv w => rv = some (.int r) ∧ w = mW X.E ad S2)) (a1 : Int32) (a2 : Int32) (S : MS) (hf : f_X12_tellsIn fr a1 a2 S = some u) : G X 4 0 0 0 [(0, .ref (ad 0)), (1, .int a1), (2, .int a2)] [] (mW X.E ad S) := by
  unfold f_X12_tellsIn at hf
  refine g_iloadn hX 1 rfl rfl dX12_tellsIn_0 ?_
  refine g_if_ne hX 32 (by decide) dX12_tellsIn_1 (fun c1 => ?_) (fun c1 => ?_)
  · have hf := ite_f c1 hf
    refine g_iloadn hX 1 rfl rfl dX12_tellsIn_32 ?_
    refine g_iconst hX (v := 4) (by decide) dX12_tellsIn_33 ?_
    refine g_icmp_ne hX 62 (by decide) dX12_tellsIn_34 (fun c2 => ?_) (fun c2 => ?_)
    · have hf := ite_f c2 hf
      refine g_iloadn hX 1 rfl rfl dX12_tellsIn_62 ?_
      refine g_bipush hX (v := 6) (by decide) dX12_tellsIn_63 ?_
      refine g_icmp_ne hX 93 (by decide) dX12_tellsIn_65 (fun c3 => ?_) (fun c3 => ?_)
      · have hf := ite_f c3 hf
        refine g_aloadn hX 0 rfl rfl dX12_tellsIn_93 ?_
        refine g_iloadn hX 1 rfl rfl dX12_tellsIn_94 ?_
        obtain ⟨r4, h5, hf⟩ := cs_open hf
        refine k_RX12_X12_above hX hq h5 (by omega) (by decide) (by decide) (Nat.le_of_ble_eq_true rfl) dX12_tellsIn_95 ?_
        refine g_iloadn hX 2 rfl rfl dX12_tellsIn_98 ?_
        obtain ⟨r8, S6, h7, hf⟩ := cb_open hf
        refine k_X12_tellsIn hX hq (hfr _ _ _ _ _ h7) (by omega) (by decide) (by decide) (Nat.le_of_ble_eq_true rfl) dX12_tellsIn_99 ?_
        obtain rfl := oi hf
        exact g_iret hX hq (by decide) (by decide) hp dX12_tellsIn_102
      · have hf := ite_t c3 hf
        refine g_aloadn hX 0 rfl rfl dX12_tellsIn_68 ?_
        refine g_bipush hX (v := 71) (by decide) dX12_tellsIn_69 ?_
        obtain ⟨z11, S9, h10, hf⟩ := cb_open hf
        refine k_X12_ran hX hq (c_X12_ran h10) (by omega) (by decide) (by decide) (Nat.le_of_ble_eq_true rfl) dX12_tellsIn_71 ?_
        refine g_aloadn hX 0 rfl rfl dX12_tellsIn_74 ?_
        refine g_aloadn hX 0 rfl rfl dX12_tellsIn_75 ?_
        refine mg_voiceKind hX (v := S9.2 14) rfl dX12_tellsIn_76 ?_
        refine g_iloadn hX 2 rfl rfl dX12_tellsIn_79 ?_
        obtain ⟨r14, S12, h13, hf⟩ := cb_open hf
        refine k_X12_risesIn hX hq (cr_X12_risesIn 8 _ _ _ _ _ h13) (by omega) (by decide) (by decide) (Nat.le_of_ble_eq_true rfl) dX12_tellsIn_80 ?_
        refine g_istoren hX [(3, .int r14), (0, .ref (ad 0)), (1, .int a1), (2, .int a2)] rfl (by decide) rfl dX12_tellsIn_83 ?_
        refine g_iloadn hX 0 rfl rfl dX12_tellsIn_84 ?_
        refine g_aloadn hX 1 rfl rfl dX12_tellsIn_85 ?_
        refine g_iconst hX (v := 3) (by decide) dX12_tellsIn_86 ?_
        refine g_iloadn hX 3 rfl rfl dX12_tellsIn_87 ?_
        obtain ⟨r17, S15, h16, hf⟩ := cb_open hf
        refine k_X12_tellsIn hX hq (hfr _ _ _ _ _ h16) (by omega) (by decide) (by decide) (Nat.le_of_ble_eq_true rfl) dX12_tellsIn_88 ?_
        refine g_isub hX dX12_tellsIn_91 ?_
        obtain rfl := oi hf
        exact g_iret hX hq (by decide) (by decide) hp dX12_tellsIn_92
    · have hf := ite_t c2 hf
      refine g_aloadn hX 0 rfl rfl dX12_tellsIn_37 ?_
      refine g_bipush hX (v := 50) (by decide) dX12_tellsIn_38 ?_
      obtain ⟨z20, S18, h19, hf⟩ := cb_open hf
      refine k_X12_ran hX hq (c_X12_ran h19) (by omega) (by decide) (by decide) (Nat.le_of_ble_eq_true rfl) dX12_tellsIn_40 ?_
      refine g_aloadn hX 0 rfl rfl dX12_tellsIn_43 ?_
      refine g_iconst hX (v := 1) (by decide) dX12_tellsIn_44 ?_
      refine g_iloadn hX 2 rfl rfl dX12_tellsIn_45 ?_
      obtain ⟨r23, S21, h22, hf⟩ := cb_open hf
      refine k_X12_tellsIn hX hq (hfr _ _ _ _ _ h22) (by omega) (by decide) (by decide) (Nat.le_of_ble_eq_true rfl) dX12_tellsIn_46 ?_
      refine g_istoren hX [(3, .int r23), (0, .ref (ad 0)), (1, .int a1), (2, .int a2)] rfl (by decide) rfl dX12_tellsIn_49 ?_
      refine g_iloadn hX 0 rfl rfl dX12_tellsIn_50 ?_
      refine g_aloadn hX 1 rfl rfl dX12_tellsIn_51 ?_
      refine g_aloadn hX 1 rfl rfl dX12_tellsIn_52 ?_
      refine mg_voiceKind hX (v := S21.2 14) rfl dX12_tellsIn_53 ?_
      refine g_iconst hX (v := 2) (by decide) dX12_tellsIn_56 ?_
      obtain ⟨r26, S24, h25, hf⟩ := cb_open hf
      refine k_X12_saysIn hX hq (cr_X12_saysIn 8 _ _ _ _ _ h25) (by omega) (by decide) (by decide) (Nat.le_of_ble_eq_true rfl) dX12_tellsIn_57 ?_
      refine g_isub hX dX12_tellsIn_60 ?_
      obtain rfl := oi hf
      exact g_iret hX hq (by decide) (by decide) hp dX12_tellsIn_61
  · have hf := ite_t c1 hf
    refine g_aloadn hX 0 rfl rfl dX12_tellsIn_4 ?_
    refine g_bipush hX (v := 13) (by decide) dX12_tellsIn_5 ?_
    obtain ⟨z29, S27, h28, hf⟩ := cb_open hf
    refine k_X12_ran hX hq (c_X12_ran h28) (by omega) (by decide) (by decide) (Nat.le_of_ble_eq_true rfl) dX12_tellsIn_7 ?_
    refine g_aloadn hX 0 rfl rfl dX12_tellsIn_10 ?_
    refine g_aloadn hX 0 rfl rfl dX12_tellsIn_11 ?_
    refine mg_voiceKind hX (v := S27.2 14) rfl dX12_tellsIn_12 ?_
    refine g_iloadn hX 2 rfl rfl dX12_tellsIn_15 ?_
    obtain ⟨r32, S30, h31, hf⟩ := cb_open hf
    refine k_X12_risesIn hX hq (cr_X12_risesIn 8 _ _ _ _ _ h31) (by omega) (by decide) (by decide) (Nat.le_of_ble_eq_true rfl) dX12_tellsIn_16 ?_
    refine g_istoren hX [(3, .int r32), (0, .ref (ad 0)), (1, .int a1), (2, .int a2)] rfl (by decide) rfl dX12_tellsIn_19 ?_
    refine g_iloadn hX 0 rfl rfl dX12_tellsIn_20 ?_
    refine g_aloadn hX 1 rfl rfl dX12_tellsIn_21 ?_
    refine g_aloadn hX 1 rfl rfl dX12_tellsIn_22 ?_
    refine mg_voiceKind hX (v := S30.2 14) rfl dX12_tellsIn_23 ?_
    refine g_iloadn hX 3 rfl rfl dX12_tellsIn_26 ?_
    obtain ⟨r35, S33, h34, hf⟩ := cb_open hf
    refine k_X12_doubtsIn hX hq (cr_X12_doubtsIn 8 _ _ _ _ _ h34) (by omega) (by decide) (by decide) (Nat.le_of_ble_eq_true rfl) dX12_tellsIn_27 ?_
    refine g_ixor hX dX12_tellsIn_30 ?_
    obtain rfl := oi hf
    exact g_iret hX hq (by decide) (by decide) hp dX12_tellsIn_31
theorem c_X12_tellsIn {l : Launch} {E : En} {ad : Nat → Nat} {dk : Nat} (hdk : 40 ≤ dk) {fr : Int32 → Int32 → MS → Option (Int32 × MS)} (hfr : ∀ (a1 : Int32) (a2 : Int32) (S : MS) (r : Int32) (S2 : MS), fr a1 a2 S = some (r, S2) → CP l E yX12_tellsIn cX12_tellsIn 4 (some .int) dk 0 0 [] [.ref (ad 0), .int a1, .int a2] (mW E ad S) (fun rv w => rv = some (.int r) ∧ w = mW E ad S2)) {a1 : Int32} {a2 : Int32} {r : Int32} {S S2 : MS} (hf : f_X12_tellsIn fr a1 a2 S = some (r, S2)) : CP l E yX12_tellsIn cX12_tellsIn 4 (some .int) (dk + 1) 0 0 [] [.ref (ad 0), .int a1, .int a2] (mW E ad S) (fun rv w => rv = some (.int r) ∧ w = mW E ad S2) :=
  CP.of (lv := [(0, .ref (ad 0)), (1, .int a1), (2, .int a2)]) (by decide +kernel) (Nat.le_of_ble_eq_true rfl) rfl (fun X hl hE hro hX hq hn => by subst hl; subst hE; exact t_X12_tellsIn_0 hdk hX hq ⟨rfl, rfl⟩ hfr a1 a2 S hf)
def fr_X12_tellsIn : Nat → Int32 → Int32 → MS → Option (Int32 × MS)
  | 0 => fun _ _ _ => none
  | n + 1 => f_X12_tellsIn (fr_X12_tellsIn n)
theorem cr_X12_tellsIn {l : Launch} {E : En} {ad : Nat → Nat} : ∀ (n : Nat) (a1 : Int32) (a2 : Int32) (S : MS) (r : Int32) (S2 : MS), fr_X12_tellsIn n a1 a2 S = some (r, S2) → CP l E yX12_tellsIn cX12_tellsIn 4 (some .int) (40 + n * 1) 0 0 [] [.ref (ad 0), .int a1, .int a2] (mW E ad S) (fun rv w => rv = some (.int r) ∧ w = mW E ad S2) := by
  intro n
  induction n with
  | zero => intro a1 a2 S r S2 hf; cases hf
  | succ n ih =>
    intro a1 a2 S r S2 hf
    have h := c_X12_tellsIn (l := l) (E := E) (ad := ad) (dk := 40 + n * 1) (by omega) (fun a1 a2 S r S2 h => ih a1 a2 S r S2 h) hf
    have e : 40 + n * 1 + 1 = 40 + (n + 1) * 1 := by omega
    rw [e] at h
    exact h
def f_X12_voice_17 (S : MS) : Option (Int32 × MS) :=
  cb (f_X12_errs (-1000000001) S) fun r7 S5 =>
  some (r7, S5)
def f_X12_voice (a1 : Int32) (a2 : Int32) (a3 : Int32) (S : MS) : Option (Int32 × MS) :=
  cb (f_X12_isRider a1 S) fun r3 S1 =>
  if (r3 = 0 : Prop) then
    f_X12_voice_17 S1
  else
    cs (f_X12_in a2 0 3) fun r8 =>
    if (r8 = 0 : Prop) then
      f_X12_voice_17 S1
    else
      cb (f_X12_its a1 0 (sF S1 13 0)) fun r13 S11 =>
      cb (f_X12_its a1 1 (sF (sF S11 14 r13) 15 a1)) fun r16 S14 =>
      if (a2 = 0 : Prop) then
        cb (fr_X12_saysIn 8 (S14.2 14) a3 (sF S14 16 r16)) fun r20 S18 =>
        some (r20, S18)
      else
      if (a2 = 1 : Prop) then
        cb (fr_X12_risesIn 8 (S14.2 14) a3 (sF S14 16 r16)) fun r24 S22 =>
        some (r24, S22)
      else
      if (a2 = 2 : Prop) then
        cb (fr_X12_doubtsIn 8 (S14.2 14) a3 (sF S14 16 r16)) fun r28 S26 =>
        some (r28, S26)
      else
      cb (fr_X12_tellsIn 8 (S14.2 14) a3 (sF S14 16 r16)) fun r31 S29 =>
      some (r31, S29)
set_option maxRecDepth 100000 in
set_option maxHeartbeats 4000000 in
theorem t_X12_voice_17 {X : Cx} {ad : Nat → Nat} {PostX : Option Value → va_W → Prop} (hX : Ok X cX12_voice 4 RX12) (hq : Rq X 49 0 0 (some .int) PostX) {u : (Int32 × MS)} (hp : PostX (some (.int u.1)) (mW X.E ad u.2)) (S : MS) (hf : f_X12_voice_17 S = some u) : G X 4 0 0 17 [(0, .ref (ad 0))] [] (mW X.E ad S) := by
  unfold f_X12_voice_17 at hf
  refine g_aloadn hX 0 rfl rfl dX12_voice_17 ?_
  refine g_ldc hX (v := (-1000000001)) wd_5_74 dX12_voice_18 ?_
  obtain ⟨r7, S5, h6, hf⟩ := cb_open hf
  refine k_X12_errs hX hq (c_X12_errs h6) (by decide) (by decide) (by decide) (Nat.le_of_ble_eq_true rfl) dX12_voice_20 ?_
  obtain rfl := oi hf
  exact g_iret hX hq (by decide) (by decide) hp dX12_voice_23
set_option maxRecDepth 100000 in
set_option maxHeartbeats 4000000 in
theorem t_X12_voice_0 {X : Cx} {ad : Nat → Nat} {PostX : Option Value → va_W → Prop} (hX : Ok X cX12_voice 4 RX12) (hq : Rq X 49 0 0 (some .int) PostX) {u : (Int32 × MS)} (hp : PostX (some (.int u.1)) (mW X.E ad u.2)) (a1 : Int32) (a2 : Int32) (a3 : Int32) (S : MS) (hf : f_X12_voice a1 a2 a3 S = some u) : G X 4 0 0 0 [(0, .ref (ad 0)), (1, .int a1), (2, .int a2), (3, .int a3)] [] (mW X.E ad S) := by
  unfold f_X12_voice at hf
  refine g_aloadn hX 0 rfl rfl dX12_voice_0 ?_
  refine g_iloadn hX 1 rfl rfl dX12_voice_1 ?_
  obtain ⟨r3, S1, h2, hf⟩ := cb_open hf
  refine k_X12_isRider hX hq (c_X12_isRider h2) (by decide) (by decide) (by decide) (Nat.le_of_ble_eq_true rfl) dX12_voice_2 ?_
  refine g_if_eq hX 17 (by decide) dX12_voice_5 (fun c4 => ?_) (fun c4 => ?_)
  · have hf := ite_t c4 hf
    refine g_lv [0] rfl ?_
    exact t_X12_voice_17 hX hq hp _ hf
  · have hf := ite_f c4 hf
    refine g_iloadn hX 2 rfl rfl dX12_voice_8 ?_
    refine g_iconst hX (v := 0) (by decide) dX12_voice_9 ?_
    refine g_iconst hX (v := 3) (by decide) dX12_voice_10 ?_
    obtain ⟨r8, h9, hf⟩ := cs_open hf
    refine k_RX12_X12_in hX hq h9 (by decide) (by decide) (by decide) (Nat.le_of_ble_eq_true rfl) dX12_voice_11 ?_
    refine g_if_ne hX 24 (by decide) dX12_voice_14 (fun c10 => ?_) (fun c10 => ?_)
    · have hf := ite_f c10 hf
      refine g_aloadn hX 0 rfl rfl dX12_voice_24 ?_
      refine g_iconst hX (v := 0) (by decide) dX12_voice_25 ?_
      refine mp_tracedMany hX dX12_voice_26 ?_
      refine g_aloadn hX 0 rfl rfl dX12_voice_29 ?_
      refine g_aloadn hX 0 rfl rfl dX12_voice_30 ?_
      refine g_iloadn hX 1 rfl rfl dX12_voice_31 ?_
      refine g_iconst hX (v := 0) (by decide) dX12_voice_32 ?_
      obtain ⟨r13, S11, h12, hf⟩ := cb_open hf
      refine k_X12_its hX hq (c_X12_its h12) (by decide) (by decide) (by decide) (Nat.le_of_ble_eq_true rfl) dX12_voice_33 ?_
      refine mp_voiceKind hX dX12_voice_36 ?_
      refine g_aloadn hX 0 rfl rfl dX12_voice_39 ?_
      refine g_iloadn hX 1 rfl rfl dX12_voice_40 ?_
      refine mp_voiceN hX dX12_voice_41 ?_
      refine g_aloadn hX 0 rfl rfl dX12_voice_44 ?_
      refine g_aloadn hX 0 rfl rfl dX12_voice_45 ?_
      refine g_iloadn hX 1 rfl rfl dX12_voice_46 ?_
      refine g_iconst hX (v := 1) (by decide) dX12_voice_47 ?_
      obtain ⟨r16, S14, h15, hf⟩ := cb_open hf
      refine k_X12_its hX hq (c_X12_its h15) (by decide) (by decide) (by decide) (Nat.le_of_ble_eq_true rfl) dX12_voice_48 ?_
      refine mp_voiceM hX dX12_voice_51 ?_
      refine g_iloadn hX 2 rfl rfl dX12_voice_54 ?_
      by_cases c17 : a2 = 0
      · have hf := ite_t c17 hf
        refine g_tsin hX 80 c17 (by decide) (by rfl) (by decide) dX12_voice_55 ?_
        refine g_aloadn hX 0 rfl rfl dX12_voice_80 ?_
        refine g_aloadn hX 0 rfl rfl dX12_voice_81 ?_
        refine mg_voiceKind hX (v := S14.2 14) rfl dX12_voice_82 ?_
        refine g_iloadn hX 3 rfl rfl dX12_voice_85 ?_
        obtain ⟨r20, S18, h19, hf⟩ := cb_open hf
        refine k_X12_saysIn hX hq (cr_X12_saysIn 8 _ _ _ _ _ h19) (by decide) (by decide) (by decide) (Nat.le_of_ble_eq_true rfl) dX12_voice_86 ?_
        obtain rfl := oi hf
        exact g_iret hX hq (by decide) (by decide) hp dX12_voice_89
      have hf := ite_f c17 hf
      by_cases c21 : a2 = 1
      · have hf := ite_t c21 hf
        refine g_tsin hX 90 c21 (by decide) (by rfl) (by decide) dX12_voice_55 ?_
        refine g_aloadn hX 0 rfl rfl dX12_voice_90 ?_
        refine g_aloadn hX 0 rfl rfl dX12_voice_91 ?_
        refine mg_voiceKind hX (v := S14.2 14) rfl dX12_voice_92 ?_
        refine g_iloadn hX 3 rfl rfl dX12_voice_95 ?_
        obtain ⟨r24, S22, h23, hf⟩ := cb_open hf
        refine k_X12_risesIn hX hq (cr_X12_risesIn 8 _ _ _ _ _ h23) (by decide) (by decide) (by decide) (Nat.le_of_ble_eq_true rfl) dX12_voice_96 ?_
        obtain rfl := oi hf
        exact g_iret hX hq (by decide) (by decide) hp dX12_voice_99
      have hf := ite_f c21 hf
      by_cases c25 : a2 = 2
      · have hf := ite_t c25 hf
        refine g_tsin hX 100 c25 (by decide) (by rfl) (by decide) dX12_voice_55 ?_
        refine g_aloadn hX 0 rfl rfl dX12_voice_100 ?_
        refine g_aloadn hX 0 rfl rfl dX12_voice_101 ?_
        refine mg_voiceKind hX (v := S14.2 14) rfl dX12_voice_102 ?_
        refine g_iloadn hX 3 rfl rfl dX12_voice_105 ?_
        obtain ⟨r28, S26, h27, hf⟩ := cb_open hf
        refine k_X12_doubtsIn hX hq (cr_X12_doubtsIn 8 _ _ _ _ _ h27) (by decide) (by decide) (by decide) (Nat.le_of_ble_eq_true rfl) dX12_voice_106 ?_
        obtain rfl := oi hf
        exact g_iret hX hq (by decide) (by decide) hp dX12_voice_109
      have hf := ite_f c25 hf
      refine g_tsout hX 110 (tsw_out_0_2 c17 c21 c25) (by decide) dX12_voice_55 ?_
      refine g_aloadn hX 0 rfl rfl dX12_voice_110 ?_
      refine g_aloadn hX 0 rfl rfl dX12_voice_111 ?_
      refine mg_voiceKind hX (v := S14.2 14) rfl dX12_voice_112 ?_
      refine g_iloadn hX 3 rfl rfl dX12_voice_115 ?_
      obtain ⟨r31, S29, h30, hf⟩ := cb_open hf
      refine k_X12_tellsIn hX hq (cr_X12_tellsIn 8 _ _ _ _ _ h30) (by decide) (by decide) (by decide) (Nat.le_of_ble_eq_true rfl) dX12_voice_116 ?_
      obtain rfl := oi hf
      exact g_iret hX hq (by decide) (by decide) hp dX12_voice_119
    · have hf := ite_t c10 hf
      refine g_lv [0] rfl ?_
      exact t_X12_voice_17 hX hq hp _ hf
theorem c_X12_voice {l : Launch} {E : En} {ad : Nat → Nat} {a1 : Int32} {a2 : Int32} {a3 : Int32} {r : Int32} {S S2 : MS} (hf : f_X12_voice a1 a2 a3 S = some (r, S2)) : CP l E yX12_voice cX12_voice 4 (some .int) 49 0 0 [] [.ref (ad 0), .int a1, .int a2, .int a3] (mW E ad S) (fun rv w => rv = some (.int r) ∧ w = mW E ad S2) :=
  CP.of (lv := [(0, .ref (ad 0)), (1, .int a1), (2, .int a2), (3, .int a3)]) (by decide +kernel) (Nat.le_of_ble_eq_true rfl) rfl (fun X hl hE hro hX hq hn => by subst hl; subst hE; exact t_X12_voice_0 hX hq ⟨rfl, rfl⟩ a1 a2 a3 S hf)
def f_X12_trace (a1 : Int32) (S : MS) : Option (Int32 × MS) :=
  cs (f_X12_in a1 0 ((S.2 13) - 1)) fun r1 =>
  if (r1 = 0 : Prop) then
    cb (f_X12_errs (-1000000002) S) fun r6 S4 =>
    some (r6, S4)
  else
    gix a1 40 fun k7 =>
    some ((S.1 12 k7), S)
set_option maxRecDepth 100000 in
set_option maxHeartbeats 4000000 in
theorem t_X12_trace_0 {X : Cx} {ad : Nat → Nat} {PostX : Option Value → va_W → Prop} (hX : Ok X cX12_trace 2 RX12) (hq : Rq X 1 0 0 (some .int) PostX) {u : (Int32 × MS)} (hp : PostX (some (.int u.1)) (mW X.E ad u.2)) (a1 : Int32) (S : MS) (hf : f_X12_trace a1 S = some u) : G X 2 0 0 0 [(0, .ref (ad 0)), (1, .int a1)] [] (mW X.E ad S) := by
  unfold f_X12_trace at hf
  refine g_iloadn hX 1 rfl rfl dX12_trace_0 ?_
  refine g_iconst hX (v := 0) (by decide) dX12_trace_1 ?_
  refine g_aloadn hX 0 rfl rfl dX12_trace_2 ?_
  refine mg_tracedMany hX (v := S.2 13) rfl dX12_trace_3 ?_
  refine g_iconst hX (v := 1) (by decide) dX12_trace_6 ?_
  refine g_isub hX dX12_trace_7 ?_
  obtain ⟨r1, h2, hf⟩ := cs_open hf
  refine k_RX12_X12_in hX hq h2 (by decide) (by decide) (by decide) (Nat.le_of_ble_eq_true rfl) dX12_trace_8 ?_
  refine g_if_eq hX 23 (by decide) dX12_trace_11 (fun c3 => ?_) (fun c3 => ?_)
  · have hf := ite_t c3 hf
    refine g_aloadn hX 0 rfl rfl dX12_trace_23 ?_
    refine g_ldc hX (v := (-1000000002)) wd_6_48 dX12_trace_24 ?_
    obtain ⟨r6, S4, h5, hf⟩ := cb_open hf
    refine k_X12_errs hX hq (c_X12_errs h5) (by decide) (by decide) (by decide) (Nat.le_of_ble_eq_true rfl) dX12_trace_26 ?_
    obtain rfl := oi hf
    exact g_iret hX hq (by decide) (by decide) hp dX12_trace_29
  · have hf := ite_f c3 hf
    refine g_aloadn hX 0 rfl rfl dX12_trace_14 ?_
    refine mg_traced hX dX12_trace_15 ?_
    refine g_iloadn hX 1 rfl rfl dX12_trace_18 ?_
    obtain ⟨k7, jk7, ik7, hf⟩ := gix_open hf
    refine ml_traced hX ik7 k7 jk7 (v := S.1 12 k7) rfl dX12_trace_19 ?_
    refine g_goto hX 29 (by decide) dX12_trace_20 ?_
    obtain rfl := oi hf
    exact g_iret hX hq (by decide) (by decide) hp dX12_trace_29
theorem c_X12_trace {l : Launch} {E : En} {ad : Nat → Nat} {a1 : Int32} {r : Int32} {S S2 : MS} (hf : f_X12_trace a1 S = some (r, S2)) : CP l E yX12_trace cX12_trace 2 (some .int) 1 0 0 [] [.ref (ad 0), .int a1] (mW E ad S) (fun rv w => rv = some (.int r) ∧ w = mW E ad S2) :=
  CP.of (lv := [(0, .ref (ad 0)), (1, .int a1)]) (by decide +kernel) (Nat.le_of_ble_eq_true rfl) rfl (fun X hl hE hro hX hq hn => by subst hl; subst hE; exact t_X12_trace_0 hX hq ⟨rfl, rfl⟩ a1 S hf)
def f_X12_sheet_29 (S : MS) : Option (Int32 × MS) :=
  cb (f_X12_errs (-1000000001) S) fun r6 S4 =>
  some (r6, S4)
def f_X12_sheet_93 : Nat → Int32 → Int32 → MS → Option (Int32 × MS)
  | 0 => fun _ _ _ => none
  | n + 1 => fun x1 x4 S =>
    let lp93 := f_X12_sheet_93 n
    if (40 ≤ x4 : Prop) then
      some (1, S)
    else
      gix ((40 * x1) + x4) 160 fun k14 =>
      bI (x4 + 1) fun v15 =>
      lp93 x1 v15 (sA S 9 k14 0)
def f_X12_sheet_89 (x1 : Int32) (y1 : Int32) (y2 : Int32) (S : MS) : Option (Int32 × MS) :=
  gix y1 4 fun k12 =>
  f_X12_sheet_93 100 x1 0 (sA S 8 k12 y2)
def f_X12_sheet_68 (x1 : Int32) (x2 : Int32) (x3 : Int32) (S : MS) : Option (Int32 × MS) :=
  gix x1 4 fun k10 =>
  if (x2 = 0 : Prop) then
    f_X12_sheet_89 x1 x1 0 (sA S 7 k10 x2)
  else
    f_X12_sheet_89 x1 x1 x3 (sA S 7 k10 x2)
def f_X12_sheet_51 (x1 : Int32) (x2 : Int32) (x3 : Int32) (S : MS) : Option (Int32 × MS) :=
  if (x2 = 0 : Prop) then
    f_X12_sheet_68 x1 x2 x3 S
  else
    if (x3 ≤ 40 : Prop) then
      f_X12_sheet_68 x1 x2 x3 S
    else
      cb (f_X12_errs (-1000000001) S) fun r19 S17 =>
      some (r19, S17)
def f_X12_sheet_36 (x1 : Int32) (x2 : Int32) (x3 : Int32) (S : MS) : Option (Int32 × MS) :=
  if (x2 = 0 : Prop) then
    f_X12_sheet_51 x1 x2 x3 S
  else
    if (0 ≤ x3 : Prop) then
      f_X12_sheet_51 x1 x2 x3 S
    else
      cb (f_X12_errs (-1000000003) S) fun r23 S21 =>
      some (r23, S21)
def f_X12_sheet (a1 : Int32) (a2 : Int32) (a3 : Int32) (S : MS) : Option (Int32 × MS) :=
  cs (f_X12_isSheet a1) fun r1 =>
  if (r1 = 0 : Prop) then
    f_X12_sheet_29 S
  else
    if (a2 = 0 : Prop) then
      f_X12_sheet_36 a1 a2 a3 S
    else
      if (a2 = 8 : Prop) then
        f_X12_sheet_36 a1 a2 a3 S
      else
        if (a2 = 16 : Prop) then
          f_X12_sheet_36 a1 a2 a3 S
        else
          if (a2 = 32 : Prop) then
            f_X12_sheet_36 a1 a2 a3 S
          else
            f_X12_sheet_29 S
set_option maxRecDepth 100000 in
set_option maxHeartbeats 4000000 in
theorem t_X12_sheet_29 {X : Cx} {ad : Nat → Nat} {PostX : Option Value → va_W → Prop} (hX : Ok X cX12_sheet 5 RX12) (hq : Rq X 2 0 0 (some .int) PostX) {u : (Int32 × MS)} (hp : PostX (some (.int u.1)) (mW X.E ad u.2)) (S : MS) (hf : f_X12_sheet_29 S = some u) : G X 5 0 0 29 [(0, .ref (ad 0))] [] (mW X.E ad S) := by
  unfold f_X12_sheet_29 at hf
  refine g_aloadn hX 0 rfl rfl dX12_sheet_29 ?_
  refine g_ldc hX (v := (-1000000001)) wd_5_74 dX12_sheet_30 ?_
  obtain ⟨r6, S4, h5, hf⟩ := cb_open hf
  refine k_X12_errs hX hq (c_X12_errs h5) (by decide) (by decide) (by decide) (Nat.le_of_ble_eq_true rfl) dX12_sheet_32 ?_
  obtain rfl := oi hf
  exact g_iret hX hq (by decide) (by decide) hp dX12_sheet_35
set_option maxRecDepth 100000 in
set_option maxHeartbeats 4000000 in
theorem t_X12_sheet_93 {X : Cx} {ad : Nat → Nat} {PostX : Option Value → va_W → Prop} (hX : Ok X cX12_sheet 5 RX12) (hq : Rq X 2 0 0 (some .int) PostX) {u : (Int32 × MS)} (hp : PostX (some (.int u.1)) (mW X.E ad u.2)) : ∀ (n : Nat) (x1 : Int32) (x4 : Int32) (S : MS), f_X12_sheet_93 n x1 x4 S = some u → G X 5 0 0 93 [(0, .ref (ad 0)), (1, .int x1), (4, .int x4)] [] (mW X.E ad S) := by
  intro n
  induction n with
  | zero => intro _ _ _ hf; unfold f_X12_sheet_93 at hf; cases hf
  | succ n hlp93 =>
  intro x1 x4 S hf
  unfold f_X12_sheet_93 at hf
  refine g_iload hX 2 rfl dX12_sheet_93 ?_
  refine g_bipush hX (v := 40) (by decide) dX12_sheet_95 ?_
  refine g_icmp_ge hX 119 (by decide) dX12_sheet_97 (fun c13 => ?_) (fun c13 => ?_)
  · have hf := ite_t c13 hf
    refine g_iconst hX (v := 1) (by decide) dX12_sheet_119 ?_
    obtain rfl := oi hf
    exact g_iret hX hq (by decide) (by decide) hp dX12_sheet_120
  · have hf := ite_f c13 hf
    refine g_aloadn hX 0 rfl rfl dX12_sheet_100 ?_
    refine mg_sheets hX dX12_sheet_101 ?_
    refine g_bipush hX (v := 40) (by decide) dX12_sheet_104 ?_
    refine g_iloadn hX 1 rfl rfl dX12_sheet_106 ?_
    refine g_imul hX dX12_sheet_107 ?_
    refine g_iload hX 2 rfl dX12_sheet_108 ?_
    refine g_iadd hX dX12_sheet_110 ?_
    refine g_iconst hX (v := 0) (by decide) dX12_sheet_111 ?_
    obtain ⟨k14, jk14, ik14, hf⟩ := gix_open hf
    refine ms_sheets hX ik14 k14 jk14 dX12_sheet_112 ?_
    obtain ⟨v15, ev15, hf⟩ := bI_open hf
    refine g_iinc hX 2 (v := v15) [(4, .int v15), (0, .ref (ad 0)), (1, .int x1)] rfl (by rw [ev15]; rfl) (by decide) rfl dX12_sheet_113 ?_
    refine g_goto hX 93 (by decide) dX12_sheet_116 ?_
    refine g_lv [1, 2, 0] rfl ?_
    exact hlp93 _ _ _ hf
set_option maxRecDepth 100000 in
set_option maxHeartbeats 4000000 in
theorem t_X12_sheet_89 {X : Cx} {ad : Nat → Nat} {PostX : Option Value → va_W → Prop} (hX : Ok X cX12_sheet 5 RX12) (hq : Rq X 2 0 0 (some .int) PostX) {u : (Int32 × MS)} (hp : PostX (some (.int u.1)) (mW X.E ad u.2)) (x1 : Int32) (y1 : Int32) (y2 : Int32) (S : MS) (hf : f_X12_sheet_89 x1 y1 y2 S = some u) : G X 5 0 0 89 [(0, .ref (ad 0)), (1, .int x1)] [.int y2, .int y1, .ref (ad 8)] (mW X.E ad S) := by
  unfold f_X12_sheet_89 at hf
  obtain ⟨k12, jk12, ik12, hf⟩ := gix_open hf
  refine ms_sizeOf hX ik12 k12 jk12 dX12_sheet_89 ?_
  refine g_iconst hX (v := 0) (by decide) dX12_sheet_90 ?_
  refine g_istore hX [(4, .int 0), (0, .ref (ad 0)), (1, .int x1)] (by decide) rfl dX12_sheet_91 ?_
  refine g_lv [1, 2, 0] rfl ?_
  exact t_X12_sheet_93 hX hq hp _ _ _ _ hf
set_option maxRecDepth 100000 in
set_option maxHeartbeats 4000000 in
theorem t_X12_sheet_68 {X : Cx} {ad : Nat → Nat} {PostX : Option Value → va_W → Prop} (hX : Ok X cX12_sheet 5 RX12) (hq : Rq X 2 0 0 (some .int) PostX) {u : (Int32 × MS)} (hp : PostX (some (.int u.1)) (mW X.E ad u.2)) (x1 : Int32) (x2 : Int32) (x3 : Int32) (S : MS) (hf : f_X12_sheet_68 x1 x2 x3 S = some u) : G X 5 0 0 68 [(0, .ref (ad 0)), (1, .int x1), (2, .int x2), (3, .int x3)] [] (mW X.E ad S) := by
  unfold f_X12_sheet_68 at hf
  refine g_aloadn hX 0 rfl rfl dX12_sheet_68 ?_
  refine mg_bitsOf hX dX12_sheet_69 ?_
  refine g_iloadn hX 1 rfl rfl dX12_sheet_72 ?_
  refine g_iloadn hX 2 rfl rfl dX12_sheet_73 ?_
  obtain ⟨k10, jk10, ik10, hf⟩ := gix_open hf
  refine ms_bitsOf hX ik10 k10 jk10 dX12_sheet_74 ?_
  refine g_aloadn hX 0 rfl rfl dX12_sheet_75 ?_
  refine mg_sizeOf hX dX12_sheet_76 ?_
  refine g_iloadn hX 1 rfl rfl dX12_sheet_79 ?_
  refine g_iloadn hX 2 rfl rfl dX12_sheet_80 ?_
  refine g_if_ne hX 88 (by decide) dX12_sheet_81 (fun c11 => ?_) (fun c11 => ?_)
  · have hf := ite_f c11 hf
    refine g_iloadn hX 3 rfl rfl dX12_sheet_88 ?_
    refine g_lv [0, 1] rfl ?_
    exact t_X12_sheet_89 hX hq hp _ _ _ _ hf
  · have hf := ite_t c11 hf
    refine g_iconst hX (v := 0) (by decide) dX12_sheet_84 ?_
    refine g_goto hX 89 (by decide) dX12_sheet_85 ?_
    refine g_lv [0, 1] rfl ?_
    exact t_X12_sheet_89 hX hq hp _ _ _ _ hf
set_option maxRecDepth 100000 in
set_option maxHeartbeats 4000000 in
theorem t_X12_sheet_51 {X : Cx} {ad : Nat → Nat} {PostX : Option Value → va_W → Prop} (hX : Ok X cX12_sheet 5 RX12) (hq : Rq X 2 0 0 (some .int) PostX) {u : (Int32 × MS)} (hp : PostX (some (.int u.1)) (mW X.E ad u.2)) (x1 : Int32) (x2 : Int32) (x3 : Int32) (S : MS) (hf : f_X12_sheet_51 x1 x2 x3 S = some u) : G X 5 0 0 51 [(0, .ref (ad 0)), (1, .int x1), (2, .int x2), (3, .int x3)] [] (mW X.E ad S) := by
  unfold f_X12_sheet_51 at hf
  refine g_iloadn hX 2 rfl rfl dX12_sheet_51 ?_
  refine g_if_eq hX 68 (by decide) dX12_sheet_52 (fun c9 => ?_) (fun c9 => ?_)
  · have hf := ite_t c9 hf
    exact t_X12_sheet_68 hX hq hp _ _ _ _ hf
  · have hf := ite_f c9 hf
    refine g_iloadn hX 3 rfl rfl dX12_sheet_55 ?_
    refine g_bipush hX (v := 40) (by decide) dX12_sheet_56 ?_
    refine g_icmp_le hX 68 (by decide) dX12_sheet_58 (fun c16 => ?_) (fun c16 => ?_)
    · have hf := ite_t c16 hf
      exact t_X12_sheet_68 hX hq hp _ _ _ _ hf
    · have hf := ite_f c16 hf
      refine g_aloadn hX 0 rfl rfl dX12_sheet_61 ?_
      refine g_ldc hX (v := (-1000000001)) wd_5_74 dX12_sheet_62 ?_
      obtain ⟨r19, S17, h18, hf⟩ := cb_open hf
      refine k_X12_errs hX hq (c_X12_errs h18) (by decide) (by decide) (by decide) (Nat.le_of_ble_eq_true rfl) dX12_sheet_64 ?_
      obtain rfl := oi hf
      exact g_iret hX hq (by decide) (by decide) hp dX12_sheet_67
set_option maxRecDepth 100000 in
set_option maxHeartbeats 4000000 in
theorem t_X12_sheet_36 {X : Cx} {ad : Nat → Nat} {PostX : Option Value → va_W → Prop} (hX : Ok X cX12_sheet 5 RX12) (hq : Rq X 2 0 0 (some .int) PostX) {u : (Int32 × MS)} (hp : PostX (some (.int u.1)) (mW X.E ad u.2)) (x1 : Int32) (x2 : Int32) (x3 : Int32) (S : MS) (hf : f_X12_sheet_36 x1 x2 x3 S = some u) : G X 5 0 0 36 [(0, .ref (ad 0)), (1, .int x1), (2, .int x2), (3, .int x3)] [] (mW X.E ad S) := by
  unfold f_X12_sheet_36 at hf
  refine g_iloadn hX 2 rfl rfl dX12_sheet_36 ?_
  refine g_if_eq hX 51 (by decide) dX12_sheet_37 (fun c8 => ?_) (fun c8 => ?_)
  · have hf := ite_t c8 hf
    exact t_X12_sheet_51 hX hq hp _ _ _ _ hf
  · have hf := ite_f c8 hf
    refine g_iloadn hX 3 rfl rfl dX12_sheet_40 ?_
    refine g_if_ge hX 51 (by decide) dX12_sheet_41 (fun c20 => ?_) (fun c20 => ?_)
    · have hf := ite_t c20 hf
      exact t_X12_sheet_51 hX hq hp _ _ _ _ hf
    · have hf := ite_f c20 hf
      refine g_aloadn hX 0 rfl rfl dX12_sheet_44 ?_
      refine g_ldc hX (v := (-1000000003)) wd_6_4 dX12_sheet_45 ?_
      obtain ⟨r23, S21, h22, hf⟩ := cb_open hf
      refine k_X12_errs hX hq (c_X12_errs h22) (by decide) (by decide) (by decide) (Nat.le_of_ble_eq_true rfl) dX12_sheet_47 ?_
      obtain rfl := oi hf
      exact g_iret hX hq (by decide) (by decide) hp dX12_sheet_50
set_option maxRecDepth 100000 in
set_option maxHeartbeats 4000000 in
theorem t_X12_sheet_0 {X : Cx} {ad : Nat → Nat} {PostX : Option Value → va_W → Prop} (hX : Ok X cX12_sheet 5 RX12) (hq : Rq X 2 0 0 (some .int) PostX) {u : (Int32 × MS)} (hp : PostX (some (.int u.1)) (mW X.E ad u.2)) (a1 : Int32) (a2 : Int32) (a3 : Int32) (S : MS) (hf : f_X12_sheet a1 a2 a3 S = some u) : G X 5 0 0 0 [(0, .ref (ad 0)), (1, .int a1), (2, .int a2), (3, .int a3)] [] (mW X.E ad S) := by
  unfold f_X12_sheet at hf
  refine g_iloadn hX 1 rfl rfl dX12_sheet_0 ?_
  obtain ⟨r1, h2, hf⟩ := cs_open hf
  refine k_RX12_X12_isSheet hX hq h2 (by decide) (by decide) (by decide) (Nat.le_of_ble_eq_true rfl) dX12_sheet_1 ?_
  refine g_if_eq hX 29 (by decide) dX12_sheet_4 (fun c3 => ?_) (fun c3 => ?_)
  · have hf := ite_t c3 hf
    refine g_lv [0] rfl ?_
    exact t_X12_sheet_29 hX hq hp _ hf
  · have hf := ite_f c3 hf
    refine g_iloadn hX 2 rfl rfl dX12_sheet_7 ?_
    refine g_if_eq hX 36 (by decide) dX12_sheet_8 (fun c7 => ?_) (fun c7 => ?_)
    · have hf := ite_t c7 hf
      exact t_X12_sheet_36 hX hq hp _ _ _ _ hf
    · have hf := ite_f c7 hf
      refine g_iloadn hX 2 rfl rfl dX12_sheet_11 ?_
      refine g_bipush hX (v := 8) (by decide) dX12_sheet_12 ?_
      refine g_icmp_eq hX 36 (by decide) dX12_sheet_14 (fun c24 => ?_) (fun c24 => ?_)
      · have hf := ite_t c24 hf
        exact t_X12_sheet_36 hX hq hp _ _ _ _ hf
      · have hf := ite_f c24 hf
        refine g_iloadn hX 2 rfl rfl dX12_sheet_17 ?_
        refine g_bipush hX (v := 16) (by decide) dX12_sheet_18 ?_
        refine g_icmp_eq hX 36 (by decide) dX12_sheet_20 (fun c25 => ?_) (fun c25 => ?_)
        · have hf := ite_t c25 hf
          exact t_X12_sheet_36 hX hq hp _ _ _ _ hf
        · have hf := ite_f c25 hf
          refine g_iloadn hX 2 rfl rfl dX12_sheet_23 ?_
          refine g_bipush hX (v := 32) (by decide) dX12_sheet_24 ?_
          refine g_icmp_eq hX 36 (by decide) dX12_sheet_26 (fun c26 => ?_) (fun c26 => ?_)
          · have hf := ite_t c26 hf
            exact t_X12_sheet_36 hX hq hp _ _ _ _ hf
          · have hf := ite_f c26 hf
            refine g_lv [0] rfl ?_
            exact t_X12_sheet_29 hX hq hp _ hf
theorem c_X12_sheet {l : Launch} {E : En} {ad : Nat → Nat} {a1 : Int32} {a2 : Int32} {a3 : Int32} {r : Int32} {S S2 : MS} (hf : f_X12_sheet a1 a2 a3 S = some (r, S2)) : CP l E yX12_sheet cX12_sheet 5 (some .int) 2 0 0 [] [.ref (ad 0), .int a1, .int a2, .int a3] (mW E ad S) (fun rv w => rv = some (.int r) ∧ w = mW E ad S2) :=
  CP.of (lv := [(0, .ref (ad 0)), (1, .int a1), (2, .int a2), (3, .int a3)]) (by decide +kernel) (Nat.le_of_ble_eq_true rfl) rfl (fun X hl hE hro hX hq hn => by subst hl; subst hE; exact t_X12_sheet_0 hX hq ⟨rfl, rfl⟩ a1 a2 a3 S hf)
def f_X12_put (a1 : Int32) (a2 : Int32) (a3 : Int32) (S : MS) : Option (Int32 × MS) :=
  cs (f_X12_isSheet a1) fun r1 =>
  if (r1 = 0 : Prop) then
    cb (f_X12_errs (-1000000001) S) fun r22 S20 =>
    some (r22, S20)
  else
    gix a1 4 fun k4 =>
    if ((S.1 7 k4) = 0 : Prop) then
      cb (f_X12_errs (-1000000002) S) fun r19 S17 =>
      some (r19, S17)
    else
      gix a1 4 fun k6 =>
      cs (f_X12_in a2 0 ((S.1 8 k6) - 1)) fun r7 =>
      if (r7 = 0 : Prop) then
        cb (f_X12_errs (-1000000001) S) fun r16 S14 =>
        some (r16, S14)
      else
        gix a1 4 fun k10 =>
        cs (f_X12_narrow (S.1 7 k10) a3) fun r11 =>
        gix ((40 * a1) + a2) 160 fun k13 =>
        some (1, (sA S 9 k13 r11))
set_option maxRecDepth 100000 in
set_option maxHeartbeats 4000000 in
theorem t_X12_put_0 {X : Cx} {ad : Nat → Nat} {PostX : Option Value → va_W → Prop} (hX : Ok X cX12_put 4 RX12) (hq : Rq X 2 0 0 (some .int) PostX) {u : (Int32 × MS)} (hp : PostX (some (.int u.1)) (mW X.E ad u.2)) (a1 : Int32) (a2 : Int32) (a3 : Int32) (S : MS) (hf : f_X12_put a1 a2 a3 S = some u) : G X 4 0 0 0 [(0, .ref (ad 0)), (1, .int a1), (2, .int a2), (3, .int a3)] [] (mW X.E ad S) := by
  unfold f_X12_put at hf
  refine g_iloadn hX 1 rfl rfl dX12_put_0 ?_
  obtain ⟨r1, h2, hf⟩ := cs_open hf
  refine k_RX12_X12_isSheet hX hq h2 (by decide) (by decide) (by decide) (Nat.le_of_ble_eq_true rfl) dX12_put_1 ?_
  refine g_if_ne hX 14 (by decide) dX12_put_4 (fun c3 => ?_) (fun c3 => ?_)
  · have hf := ite_f c3 hf
    refine g_aloadn hX 0 rfl rfl dX12_put_14 ?_
    refine mg_bitsOf hX dX12_put_15 ?_
    refine g_iloadn hX 1 rfl rfl dX12_put_18 ?_
    obtain ⟨k4, jk4, ik4, hf⟩ := gix_open hf
    refine ml_bitsOf hX ik4 k4 jk4 (v := S.1 7 k4) rfl dX12_put_19 ?_
    refine g_if_ne hX 30 (by decide) dX12_put_20 (fun c5 => ?_) (fun c5 => ?_)
    · have hf := ite_f c5 hf
      refine g_iloadn hX 2 rfl rfl dX12_put_30 ?_
      refine g_iconst hX (v := 0) (by decide) dX12_put_31 ?_
      refine g_aloadn hX 0 rfl rfl dX12_put_32 ?_
      refine mg_sizeOf hX dX12_put_33 ?_
      refine g_iloadn hX 1 rfl rfl dX12_put_36 ?_
      obtain ⟨k6, jk6, ik6, hf⟩ := gix_open hf
      refine ml_sizeOf hX ik6 k6 jk6 (v := S.1 8 k6) rfl dX12_put_37 ?_
      refine g_iconst hX (v := 1) (by decide) dX12_put_38 ?_
      refine g_isub hX dX12_put_39 ?_
      obtain ⟨r7, h8, hf⟩ := cs_open hf
      refine k_RX12_X12_in hX hq h8 (by decide) (by decide) (by decide) (Nat.le_of_ble_eq_true rfl) dX12_put_40 ?_
      refine g_if_ne hX 53 (by decide) dX12_put_43 (fun c9 => ?_) (fun c9 => ?_)
      · have hf := ite_f c9 hf
        refine g_aloadn hX 0 rfl rfl dX12_put_53 ?_
        refine mg_sheets hX dX12_put_54 ?_
        refine g_bipush hX (v := 40) (by decide) dX12_put_57 ?_
        refine g_iloadn hX 1 rfl rfl dX12_put_59 ?_
        refine g_imul hX dX12_put_60 ?_
        refine g_iloadn hX 2 rfl rfl dX12_put_61 ?_
        refine g_iadd hX dX12_put_62 ?_
        refine g_aloadn hX 0 rfl rfl dX12_put_63 ?_
        refine mg_bitsOf hX dX12_put_64 ?_
        refine g_iloadn hX 1 rfl rfl dX12_put_67 ?_
        obtain ⟨k10, jk10, ik10, hf⟩ := gix_open hf
        refine ml_bitsOf hX ik10 k10 jk10 (v := S.1 7 k10) rfl dX12_put_68 ?_
        refine g_iloadn hX 3 rfl rfl dX12_put_69 ?_
        obtain ⟨r11, h12, hf⟩ := cs_open hf
        refine k_RX12_X12_narrow hX hq h12 (by decide) (by decide) (by decide) (Nat.le_of_ble_eq_true rfl) dX12_put_70 ?_
        obtain ⟨k13, jk13, ik13, hf⟩ := gix_open hf
        refine ms_sheets hX ik13 k13 jk13 dX12_put_73 ?_
        refine g_iconst hX (v := 1) (by decide) dX12_put_74 ?_
        obtain rfl := oi hf
        exact g_iret hX hq (by decide) (by decide) hp dX12_put_75
      · have hf := ite_t c9 hf
        refine g_aloadn hX 0 rfl rfl dX12_put_46 ?_
        refine g_ldc hX (v := (-1000000001)) wd_5_74 dX12_put_47 ?_
        obtain ⟨r16, S14, h15, hf⟩ := cb_open hf
        refine k_X12_errs hX hq (c_X12_errs h15) (by decide) (by decide) (by decide) (Nat.le_of_ble_eq_true rfl) dX12_put_49 ?_
        obtain rfl := oi hf
        exact g_iret hX hq (by decide) (by decide) hp dX12_put_52
    · have hf := ite_t c5 hf
      refine g_aloadn hX 0 rfl rfl dX12_put_23 ?_
      refine g_ldc hX (v := (-1000000002)) wd_6_48 dX12_put_24 ?_
      obtain ⟨r19, S17, h18, hf⟩ := cb_open hf
      refine k_X12_errs hX hq (c_X12_errs h18) (by decide) (by decide) (by decide) (Nat.le_of_ble_eq_true rfl) dX12_put_26 ?_
      obtain rfl := oi hf
      exact g_iret hX hq (by decide) (by decide) hp dX12_put_29
  · have hf := ite_t c3 hf
    refine g_aloadn hX 0 rfl rfl dX12_put_7 ?_
    refine g_ldc hX (v := (-1000000001)) wd_5_74 dX12_put_8 ?_
    obtain ⟨r22, S20, h21, hf⟩ := cb_open hf
    refine k_X12_errs hX hq (c_X12_errs h21) (by decide) (by decide) (by decide) (Nat.le_of_ble_eq_true rfl) dX12_put_10 ?_
    obtain rfl := oi hf
    exact g_iret hX hq (by decide) (by decide) hp dX12_put_13
theorem c_X12_put {l : Launch} {E : En} {ad : Nat → Nat} {a1 : Int32} {a2 : Int32} {a3 : Int32} {r : Int32} {S S2 : MS} (hf : f_X12_put a1 a2 a3 S = some (r, S2)) : CP l E yX12_put cX12_put 4 (some .int) 2 0 0 [] [.ref (ad 0), .int a1, .int a2, .int a3] (mW E ad S) (fun rv w => rv = some (.int r) ∧ w = mW E ad S2) :=
  CP.of (lv := [(0, .ref (ad 0)), (1, .int a1), (2, .int a2), (3, .int a3)]) (by decide +kernel) (Nat.le_of_ble_eq_true rfl) rfl (fun X hl hE hro hX hq hn => by subst hl; subst hE; exact t_X12_put_0 hX hq ⟨rfl, rfl⟩ a1 a2 a3 S hf)
def f_X12_move_14 (S : MS) : Option (Int32 × MS) :=
  cb (f_X12_errs (-1000000001) S) fun r6 S4 =>
  some (r6, S4)
def f_X12_move_39 (S : MS) : Option (Int32 × MS) :=
  cb (f_X12_errs (-1000000002) S) fun r14 S12 =>
  some (r14, S12)
def f_X12_move_109 (S : MS) : Option (Int32 × MS) :=
  cb (f_X12_errs (-1000000001) S) fun r23 S21 =>
  some (r23, S21)
def f_X12_move_156 : Nat → Int32 → Int32 → Int32 → Int32 → MS → Option (Int32 × MS)
  | 0 => fun _ _ _ _ _ => none
  | n + 1 => fun x3 x4 x5 x6 S =>
    let lp156 := f_X12_move_156 n
    if (x5 ≤ x6 : Prop) then
      some (x5, S)
    else
      gix x6 40 fun k32 =>
      bI (S.1 10 k32) fun v33 =>
      gix (((40 * x3) + x4) + x6) 160 fun k34 =>
      bI (x6 + 1) fun v35 =>
      lp156 x3 x4 x5 v35 (sA S 9 k34 v33)
def f_X12_move_119 : Nat → Int32 → Int32 → Int32 → Int32 → Int32 → Int32 → MS → Option (Int32 × MS)
  | 0 => fun _ _ _ _ _ _ _ => none
  | n + 1 => fun x1 x2 x3 x4 x5 x6 S =>
    let lp119 := f_X12_move_119 n
    if (x5 ≤ x6 : Prop) then
      f_X12_move_156 100 x3 x4 x5 0 S
    else
      gix (((40 * x1) + x2) + x6) 160 fun k36 =>
      bI (S.1 9 k36) fun v37 =>
      gix x6 40 fun k38 =>
      bI (x6 + 1) fun v39 =>
      lp119 x1 x2 x3 x4 x5 v39 (sA S 10 k38 v37)
def f_X12_move (a1 : Int32) (a2 : Int32) (a3 : Int32) (a4 : Int32) (a5 : Int32) (S : MS) : Option (Int32 × MS) :=
  cs (f_X12_isSheet a1) fun r1 =>
  if (r1 = 0 : Prop) then
    f_X12_move_14 S
  else
    cs (f_X12_isSheet a3) fun r7 =>
    if (r7 = 0 : Prop) then
      f_X12_move_14 S
    else
      gix a1 4 fun k10 =>
      if ((S.1 7 k10) = 0 : Prop) then
        f_X12_move_39 S
      else
        gix a3 4 fun k15 =>
        if ((S.1 7 k15) = 0 : Prop) then
          f_X12_move_39 S
        else
          gix a1 4 fun k17 =>
          gix a3 4 fun k18 =>
          if ((S.1 7 k17) = (S.1 7 k18) : Prop) then
            if (a5 < 0 : Prop) then
              f_X12_move_109 S
            else
              if (a2 < 0 : Prop) then
                f_X12_move_109 S
              else
                if (a4 < 0 : Prop) then
                  f_X12_move_109 S
                else
                  gix a1 4 fun k26 =>
                  if (((S.1 8 k26) - a5) < a2 : Prop) then
                    f_X12_move_109 S
                  else
                    gix a3 4 fun k28 =>
                    if (a4 ≤ ((S.1 8 k28) - a5) : Prop) then
                      f_X12_move_119 100 a1 a2 a3 a4 a5 0 S
                    else
                      f_X12_move_109 S
          else
            cb (f_X12_errs (-1000000005) S) fun r42 S40 =>
            some (r42, S40)
set_option maxRecDepth 100000 in
set_option maxHeartbeats 4000000 in
theorem t_X12_move_14 {X : Cx} {ad : Nat → Nat} {PostX : Option Value → va_W → Prop} (hX : Ok X cX12_move 7 RX12) (hq : Rq X 2 0 0 (some .int) PostX) {u : (Int32 × MS)} (hp : PostX (some (.int u.1)) (mW X.E ad u.2)) (S : MS) (hf : f_X12_move_14 S = some u) : G X 7 0 0 14 [(0, .ref (ad 0))] [] (mW X.E ad S) := by
  unfold f_X12_move_14 at hf
  refine g_aloadn hX 0 rfl rfl dX12_move_14 ?_
  refine g_ldc hX (v := (-1000000001)) wd_5_74 dX12_move_15 ?_
  obtain ⟨r6, S4, h5, hf⟩ := cb_open hf
  refine k_X12_errs hX hq (c_X12_errs h5) (by decide) (by decide) (by decide) (Nat.le_of_ble_eq_true rfl) dX12_move_17 ?_
  obtain rfl := oi hf
  exact g_iret hX hq (by decide) (by decide) hp dX12_move_20
set_option maxRecDepth 100000 in
set_option maxHeartbeats 4000000 in
theorem t_X12_move_39 {X : Cx} {ad : Nat → Nat} {PostX : Option Value → va_W → Prop} (hX : Ok X cX12_move 7 RX12) (hq : Rq X 2 0 0 (some .int) PostX) {u : (Int32 × MS)} (hp : PostX (some (.int u.1)) (mW X.E ad u.2)) (S : MS) (hf : f_X12_move_39 S = some u) : G X 7 0 0 39 [(0, .ref (ad 0))] [] (mW X.E ad S) := by
  unfold f_X12_move_39 at hf
  refine g_aloadn hX 0 rfl rfl dX12_move_39 ?_
  refine g_ldc hX (v := (-1000000002)) wd_6_48 dX12_move_40 ?_
  obtain ⟨r14, S12, h13, hf⟩ := cb_open hf
  refine k_X12_errs hX hq (c_X12_errs h13) (by decide) (by decide) (by decide) (Nat.le_of_ble_eq_true rfl) dX12_move_42 ?_
  obtain rfl := oi hf
  exact g_iret hX hq (by decide) (by decide) hp dX12_move_45
set_option maxRecDepth 100000 in
set_option maxHeartbeats 4000000 in
theorem t_X12_move_109 {X : Cx} {ad : Nat → Nat} {PostX : Option Value → va_W → Prop} (hX : Ok X cX12_move 7 RX12) (hq : Rq X 2 0 0 (some .int) PostX) {u : (Int32 × MS)} (hp : PostX (some (.int u.1)) (mW X.E ad u.2)) (S : MS) (hf : f_X12_move_109 S = some u) : G X 7 0 0 109 [(0, .ref (ad 0))] [] (mW X.E ad S) := by
  unfold f_X12_move_109 at hf
  refine g_aloadn hX 0 rfl rfl dX12_move_109 ?_
  refine g_ldc hX (v := (-1000000001)) wd_5_74 dX12_move_110 ?_
  obtain ⟨r23, S21, h22, hf⟩ := cb_open hf
  refine k_X12_errs hX hq (c_X12_errs h22) (by decide) (by decide) (by decide) (Nat.le_of_ble_eq_true rfl) dX12_move_112 ?_
  obtain rfl := oi hf
  exact g_iret hX hq (by decide) (by decide) hp dX12_move_115
set_option maxRecDepth 100000 in
set_option maxHeartbeats 4000000 in
theorem t_X12_move_156 {X : Cx} {ad : Nat → Nat} {PostX : Option Value → va_W → Prop} (hX : Ok X cX12_move 7 RX12) (hq : Rq X 2 0 0 (some .int) PostX) {u : (Int32 × MS)} (hp : PostX (some (.int u.1)) (mW X.E ad u.2)) : ∀ (n : Nat) (x3 : Int32) (x4 : Int32) (x5 : Int32) (x6 : Int32) (S : MS), f_X12_move_156 n x3 x4 x5 x6 S = some u → G X 7 0 0 156 [(0, .ref (ad 0)), (3, .int x3), (4, .int x4), (5, .int x5), (6, .int x6)] [] (mW X.E ad S) := by
  intro n
  induction n with
  | zero => intro _ _ _ _ _ hf; unfold f_X12_move_156 at hf; cases hf
  | succ n hlp156 =>
  intro x3 x4 x5 x6 S hf
  unfold f_X12_move_156 at hf
  refine g_iload hX 4 rfl dX12_move_156 ?_
  refine g_iload hX 3 rfl dX12_move_158 ?_
  refine g_icmp_ge hX 191 (by decide) dX12_move_160 (fun c31 => ?_) (fun c31 => ?_)
  · have hf := ite_t c31 hf
    refine g_iload hX 3 rfl dX12_move_191 ?_
    obtain rfl := oi hf
    exact g_iret hX hq (by decide) (by decide) hp dX12_move_193
  · have hf := ite_f c31 hf
    refine g_aloadn hX 0 rfl rfl dX12_move_163 ?_
    refine mg_sheets hX dX12_move_164 ?_
    refine g_bipush hX (v := 40) (by decide) dX12_move_167 ?_
    refine g_iloadn hX 1 rfl rfl dX12_move_169 ?_
    refine g_imul hX dX12_move_170 ?_
    refine g_iload hX 2 rfl dX12_move_171 ?_
    refine g_iadd hX dX12_move_173 ?_
    refine g_iload hX 4 rfl dX12_move_174 ?_
    refine g_iadd hX dX12_move_176 ?_
    refine g_aloadn hX 0 rfl rfl dX12_move_177 ?_
    refine mg_moved hX dX12_move_178 ?_
    refine g_iload hX 4 rfl dX12_move_181 ?_
    obtain ⟨k32, jk32, ik32, hf⟩ := gix_open hf
    refine ml_moved hX ik32 k32 jk32 (v := S.1 10 k32) rfl dX12_move_183 ?_
    obtain ⟨v33, ev33, hf⟩ := bI_open hf
    refine g_nm ev33 ?_
    obtain ⟨k34, jk34, ik34, hf⟩ := gix_open hf
    refine ms_sheets hX ik34 k34 jk34 dX12_move_184 ?_
    obtain ⟨v35, ev35, hf⟩ := bI_open hf
    refine g_iinc hX 4 (v := v35) [(6, .int v35), (0, .ref (ad 0)), (3, .int x3), (4, .int x4), (5, .int x5)] rfl (by rw [ev35]; rfl) (by decide) rfl dX12_move_185 ?_
    refine g_goto hX 156 (by decide) dX12_move_188 ?_
    refine g_lv [1, 2, 3, 4, 0] rfl ?_
    exact hlp156 _ _ _ _ _ hf
set_option maxRecDepth 100000 in
set_option maxHeartbeats 4000000 in
theorem t_X12_move_119 {X : Cx} {ad : Nat → Nat} {PostX : Option Value → va_W → Prop} (hX : Ok X cX12_move 7 RX12) (hq : Rq X 2 0 0 (some .int) PostX) {u : (Int32 × MS)} (hp : PostX (some (.int u.1)) (mW X.E ad u.2)) : ∀ (n : Nat) (x1 : Int32) (x2 : Int32) (x3 : Int32) (x4 : Int32) (x5 : Int32) (x6 : Int32) (S : MS), f_X12_move_119 n x1 x2 x3 x4 x5 x6 S = some u → G X 7 0 0 119 [(0, .ref (ad 0)), (1, .int x1), (2, .int x2), (3, .int x3), (4, .int x4), (5, .int x5), (6, .int x6)] [] (mW X.E ad S) := by
  intro n
  induction n with
  | zero => intro _ _ _ _ _ _ _ hf; unfold f_X12_move_119 at hf; cases hf
  | succ n hlp119 =>
  intro x1 x2 x3 x4 x5 x6 S hf
  unfold f_X12_move_119 at hf
  refine g_iload hX 6 rfl dX12_move_119 ?_
  refine g_iload hX 5 rfl dX12_move_121 ?_
  refine g_icmp_ge hX 153 (by decide) dX12_move_123 (fun c30 => ?_) (fun c30 => ?_)
  · have hf := ite_t c30 hf
    refine g_iconst hX (v := 0) (by decide) dX12_move_153 ?_
    refine g_istore hX [(6, .int 0), (0, .ref (ad 0)), (1, .int x1), (2, .int x2), (3, .int x3), (4, .int x4), (5, .int x5)] (by decide) rfl dX12_move_154 ?_
    refine g_lv [1, 4, 5, 6, 0] rfl ?_
    exact t_X12_move_156 hX hq hp _ _ _ _ _ _ hf
  · have hf := ite_f c30 hf
    refine g_aloadn hX 0 rfl rfl dX12_move_126 ?_
    refine mg_moved hX dX12_move_127 ?_
    refine g_iload hX 6 rfl dX12_move_130 ?_
    refine g_aloadn hX 0 rfl rfl dX12_move_132 ?_
    refine mg_sheets hX dX12_move_133 ?_
    refine g_bipush hX (v := 40) (by decide) dX12_move_136 ?_
    refine g_iloadn hX 1 rfl rfl dX12_move_138 ?_
    refine g_imul hX dX12_move_139 ?_
    refine g_iloadn hX 2 rfl rfl dX12_move_140 ?_
    refine g_iadd hX dX12_move_141 ?_
    refine g_iload hX 6 rfl dX12_move_142 ?_
    refine g_iadd hX dX12_move_144 ?_
    obtain ⟨k36, jk36, ik36, hf⟩ := gix_open hf
    refine ml_sheets hX ik36 k36 jk36 (v := S.1 9 k36) rfl dX12_move_145 ?_
    obtain ⟨v37, ev37, hf⟩ := bI_open hf
    refine g_nm ev37 ?_
    obtain ⟨k38, jk38, ik38, hf⟩ := gix_open hf
    refine ms_moved hX ik38 k38 jk38 dX12_move_146 ?_
    obtain ⟨v39, ev39, hf⟩ := bI_open hf
    refine g_iinc hX 6 (v := v39) [(6, .int v39), (0, .ref (ad 0)), (1, .int x1), (2, .int x2), (3, .int x3), (4, .int x4), (5, .int x5)] rfl (by rw [ev39]; rfl) (by decide) rfl dX12_move_147 ?_
    refine g_goto hX 119 (by decide) dX12_move_150 ?_
    refine g_lv [1, 2, 3, 4, 5, 6, 0] rfl ?_
    exact hlp119 _ _ _ _ _ _ _ hf
set_option maxRecDepth 100000 in
set_option maxHeartbeats 4000000 in
theorem t_X12_move_0 {X : Cx} {ad : Nat → Nat} {PostX : Option Value → va_W → Prop} (hX : Ok X cX12_move 7 RX12) (hq : Rq X 2 0 0 (some .int) PostX) {u : (Int32 × MS)} (hp : PostX (some (.int u.1)) (mW X.E ad u.2)) (a1 : Int32) (a2 : Int32) (a3 : Int32) (a4 : Int32) (a5 : Int32) (S : MS) (hf : f_X12_move a1 a2 a3 a4 a5 S = some u) : G X 7 0 0 0 [(0, .ref (ad 0)), (1, .int a1), (2, .int a2), (3, .int a3), (4, .int a4), (5, .int a5)] [] (mW X.E ad S) := by
  unfold f_X12_move at hf
  refine g_iloadn hX 1 rfl rfl dX12_move_0 ?_
  obtain ⟨r1, h2, hf⟩ := cs_open hf
  refine k_RX12_X12_isSheet hX hq h2 (by decide) (by decide) (by decide) (Nat.le_of_ble_eq_true rfl) dX12_move_1 ?_
  refine g_if_eq hX 14 (by decide) dX12_move_4 (fun c3 => ?_) (fun c3 => ?_)
  · have hf := ite_t c3 hf
    refine g_lv [0] rfl ?_
    exact t_X12_move_14 hX hq hp _ hf
  · have hf := ite_f c3 hf
    refine g_iloadn hX 3 rfl rfl dX12_move_7 ?_
    obtain ⟨r7, h8, hf⟩ := cs_open hf
    refine k_RX12_X12_isSheet hX hq h8 (by decide) (by decide) (by decide) (Nat.le_of_ble_eq_true rfl) dX12_move_8 ?_
    refine g_if_ne hX 21 (by decide) dX12_move_11 (fun c9 => ?_) (fun c9 => ?_)
    · have hf := ite_f c9 hf
      refine g_aloadn hX 0 rfl rfl dX12_move_21 ?_
      refine mg_bitsOf hX dX12_move_22 ?_
      refine g_iloadn hX 1 rfl rfl dX12_move_25 ?_
      obtain ⟨k10, jk10, ik10, hf⟩ := gix_open hf
      refine ml_bitsOf hX ik10 k10 jk10 (v := S.1 7 k10) rfl dX12_move_26 ?_
      refine g_if_eq hX 39 (by decide) dX12_move_27 (fun c11 => ?_) (fun c11 => ?_)
      · have hf := ite_t c11 hf
        refine g_lv [0] rfl ?_
        exact t_X12_move_39 hX hq hp _ hf
      · have hf := ite_f c11 hf
        refine g_aloadn hX 0 rfl rfl dX12_move_30 ?_
        refine mg_bitsOf hX dX12_move_31 ?_
        refine g_iloadn hX 3 rfl rfl dX12_move_34 ?_
        obtain ⟨k15, jk15, ik15, hf⟩ := gix_open hf
        refine ml_bitsOf hX ik15 k15 jk15 (v := S.1 7 k15) rfl dX12_move_35 ?_
        refine g_if_ne hX 46 (by decide) dX12_move_36 (fun c16 => ?_) (fun c16 => ?_)
        · have hf := ite_f c16 hf
          refine g_aloadn hX 0 rfl rfl dX12_move_46 ?_
          refine mg_bitsOf hX dX12_move_47 ?_
          refine g_iloadn hX 1 rfl rfl dX12_move_50 ?_
          obtain ⟨k17, jk17, ik17, hf⟩ := gix_open hf
          refine ml_bitsOf hX ik17 k17 jk17 (v := S.1 7 k17) rfl dX12_move_51 ?_
          refine g_aloadn hX 0 rfl rfl dX12_move_52 ?_
          refine mg_bitsOf hX dX12_move_53 ?_
          refine g_iloadn hX 3 rfl rfl dX12_move_56 ?_
          obtain ⟨k18, jk18, ik18, hf⟩ := gix_open hf
          refine ml_bitsOf hX ik18 k18 jk18 (v := S.1 7 k18) rfl dX12_move_57 ?_
          refine g_icmp_eq hX 68 (by decide) dX12_move_58 (fun c19 => ?_) (fun c19 => ?_)
          · have hf := ite_t c19 hf
            refine g_iload hX 5 rfl dX12_move_68 ?_
            refine g_if_lt hX 109 (by decide) dX12_move_70 (fun c20 => ?_) (fun c20 => ?_)
            · have hf := ite_t c20 hf
              refine g_lv [0] rfl ?_
              exact t_X12_move_109 hX hq hp _ hf
            · have hf := ite_f c20 hf
              refine g_iloadn hX 2 rfl rfl dX12_move_73 ?_
              refine g_if_lt hX 109 (by decide) dX12_move_74 (fun c24 => ?_) (fun c24 => ?_)
              · have hf := ite_t c24 hf
                refine g_lv [0] rfl ?_
                exact t_X12_move_109 hX hq hp _ hf
              · have hf := ite_f c24 hf
                refine g_iload hX 4 rfl dX12_move_77 ?_
                refine g_if_lt hX 109 (by decide) dX12_move_79 (fun c25 => ?_) (fun c25 => ?_)
                · have hf := ite_t c25 hf
                  refine g_lv [0] rfl ?_
                  exact t_X12_move_109 hX hq hp _ hf
                · have hf := ite_f c25 hf
                  refine g_iloadn hX 2 rfl rfl dX12_move_82 ?_
                  refine g_aloadn hX 0 rfl rfl dX12_move_83 ?_
                  refine mg_sizeOf hX dX12_move_84 ?_
                  refine g_iloadn hX 1 rfl rfl dX12_move_87 ?_
                  obtain ⟨k26, jk26, ik26, hf⟩ := gix_open hf
                  refine ml_sizeOf hX ik26 k26 jk26 (v := S.1 8 k26) rfl dX12_move_88 ?_
                  refine g_iload hX 5 rfl dX12_move_89 ?_
                  refine g_isub hX dX12_move_91 ?_
                  refine g_icmp_gt hX 109 (by decide) dX12_move_92 (fun c27 => ?_) (fun c27 => ?_)
                  · have hf := ite_t c27 hf
                    refine g_lv [0] rfl ?_
                    exact t_X12_move_109 hX hq hp _ hf
                  · have hf := ite_f c27 hf
                    refine g_iload hX 4 rfl dX12_move_95 ?_
                    refine g_aloadn hX 0 rfl rfl dX12_move_97 ?_
                    refine mg_sizeOf hX dX12_move_98 ?_
                    refine g_iloadn hX 3 rfl rfl dX12_move_101 ?_
                    obtain ⟨k28, jk28, ik28, hf⟩ := gix_open hf
                    refine ml_sizeOf hX ik28 k28 jk28 (v := S.1 8 k28) rfl dX12_move_102 ?_
                    refine g_iload hX 5 rfl dX12_move_103 ?_
                    refine g_isub hX dX12_move_105 ?_
                    refine g_icmp_le hX 116 (by decide) dX12_move_106 (fun c29 => ?_) (fun c29 => ?_)
                    · have hf := ite_t c29 hf
                      refine g_iconst hX (v := 0) (by decide) dX12_move_116 ?_
                      refine g_istore hX [(6, .int 0), (0, .ref (ad 0)), (1, .int a1), (2, .int a2), (3, .int a3), (4, .int a4), (5, .int a5)] (by decide) rfl dX12_move_117 ?_
                      refine g_lv [1, 2, 3, 4, 5, 6, 0] rfl ?_
                      exact t_X12_move_119 hX hq hp _ _ _ _ _ _ _ _ hf
                    · have hf := ite_f c29 hf
                      refine g_lv [0] rfl ?_
                      exact t_X12_move_109 hX hq hp _ hf
          · have hf := ite_f c19 hf
            refine g_aloadn hX 0 rfl rfl dX12_move_61 ?_
            refine g_ldc hX (v := (-1000000005)) wd_5_214 dX12_move_62 ?_
            obtain ⟨r42, S40, h41, hf⟩ := cb_open hf
            refine k_X12_errs hX hq (c_X12_errs h41) (by decide) (by decide) (by decide) (Nat.le_of_ble_eq_true rfl) dX12_move_64 ?_
            obtain rfl := oi hf
            exact g_iret hX hq (by decide) (by decide) hp dX12_move_67
        · have hf := ite_t c16 hf
          refine g_lv [0] rfl ?_
          exact t_X12_move_39 hX hq hp _ hf
    · have hf := ite_t c9 hf
      refine g_lv [0] rfl ?_
      exact t_X12_move_14 hX hq hp _ hf
theorem c_X12_move {l : Launch} {E : En} {ad : Nat → Nat} {a1 : Int32} {a2 : Int32} {a3 : Int32} {a4 : Int32} {a5 : Int32} {r : Int32} {S S2 : MS} (hf : f_X12_move a1 a2 a3 a4 a5 S = some (r, S2)) : CP l E yX12_move cX12_move 7 (some .int) 2 0 0 [] [.ref (ad 0), .int a1, .int a2, .int a3, .int a4, .int a5] (mW E ad S) (fun rv w => rv = some (.int r) ∧ w = mW E ad S2) :=
  CP.of (lv := [(0, .ref (ad 0)), (1, .int a1), (2, .int a2), (3, .int a3), (4, .int a4), (5, .int a5)]) (by decide +kernel) (Nat.le_of_ble_eq_true rfl) rfl (fun X hl hE hro hX hq hn => by subst hl; subst hE; exact t_X12_move_0 hX hq ⟨rfl, rfl⟩ a1 a2 a3 a4 a5 S hf)
def f_X12_stories_32 : Nat → Int32 → Int32 → MS → Option (Int32 × MS)
  | 0 => fun _ _ _ => none
  | n + 1 => fun x1 x2 S =>
    let lp32 := f_X12_stories_32 n
    gix x1 4 fun k6 =>
    if ((S.1 8 k6) ≤ x2 : Prop) then
      some (x2, S)
    else
      if ((S.1 1 3) ≤ x2 : Prop) then
        some (x2, S)
      else
        gix ((40 * x1) + x2) 160 fun k9 =>
        cs (f_X12_in (S.1 9 k9) 0 6560) fun r10 =>
        if (r10 = 0 : Prop) then
          some (x2, S)
        else
          gix ((40 * x1) + x2) 160 fun k13 =>
          bI (S.1 9 k13) fun v14 =>
          gix ((18 + (3 * x2)) + 2) 206 fun k15 =>
          bI (x2 + 1) fun v16 =>
          lp32 x1 v16 (sA S 1 k15 v14)
def f_X12_stories (a1 : Int32) (S : MS) : Option (Int32 × MS) :=
  cs (f_X12_isSheet a1) fun r1 =>
  if (r1 = 0 : Prop) then
    cb (f_X12_errs (-1000000001) S) fun r22 S20 =>
    some (r22, S20)
  else
    gix a1 4 fun k4 =>
    if ((S.1 7 k4) = 0 : Prop) then
      cb (f_X12_errs (-1000000002) S) fun r19 S17 =>
      some (r19, S17)
    else
      f_X12_stories_32 100 a1 0 S
set_option maxRecDepth 100000 in
set_option maxHeartbeats 4000000 in
theorem t_X12_stories_32 {X : Cx} {ad : Nat → Nat} {PostX : Option Value → va_W → Prop} (hX : Ok X cX12_stories 3 RX12) (hq : Rq X 2 0 0 (some .int) PostX) {u : (Int32 × MS)} (hp : PostX (some (.int u.1)) (mW X.E ad u.2)) : ∀ (n : Nat) (x1 : Int32) (x2 : Int32) (S : MS), f_X12_stories_32 n x1 x2 S = some u → G X 3 0 0 32 [(0, .ref (ad 0)), (1, .int x1), (2, .int x2)] [] (mW X.E ad S) := by
  intro n
  induction n with
  | zero => intro _ _ _ hf; unfold f_X12_stories_32 at hf; cases hf
  | succ n hlp32 =>
  intro x1 x2 S hf
  unfold f_X12_stories_32 at hf
  refine g_iloadn hX 2 rfl rfl dX12_stories_32 ?_
  refine g_aloadn hX 0 rfl rfl dX12_stories_33 ?_
  refine mg_sizeOf hX dX12_stories_34 ?_
  refine g_iloadn hX 1 rfl rfl dX12_stories_37 ?_
  obtain ⟨k6, jk6, ik6, hf⟩ := gix_open hf
  refine ml_sizeOf hX ik6 k6 jk6 (v := S.1 8 k6) rfl dX12_stories_38 ?_
  refine g_icmp_ge hX 103 (by decide) dX12_stories_39 (fun c7 => ?_) (fun c7 => ?_)
  · have hf := ite_t c7 hf
    refine g_iloadn hX 2 rfl rfl dX12_stories_103 ?_
    obtain rfl := oi hf
    exact g_iret hX hq (by decide) (by decide) hp dX12_stories_104
  · have hf := ite_f c7 hf
    refine g_iloadn hX 2 rfl rfl dX12_stories_42 ?_
    refine g_aloadn hX 0 rfl rfl dX12_stories_43 ?_
    refine mg_row hX dX12_stories_44 ?_
    refine g_iconst hX (v := 3) (by decide) dX12_stories_47 ?_
    refine ml_row hX (vpc (by decide)) 3 (by decide) (v := S.1 1 3) rfl dX12_stories_48 ?_
    refine g_icmp_ge hX 103 (by decide) dX12_stories_49 (fun c8 => ?_) (fun c8 => ?_)
    · have hf := ite_t c8 hf
      refine g_iloadn hX 2 rfl rfl dX12_stories_103 ?_
      obtain rfl := oi hf
      exact g_iret hX hq (by decide) (by decide) hp dX12_stories_104
    · have hf := ite_f c8 hf
      refine g_aloadn hX 0 rfl rfl dX12_stories_52 ?_
      refine mg_sheets hX dX12_stories_53 ?_
      refine g_bipush hX (v := 40) (by decide) dX12_stories_56 ?_
      refine g_iloadn hX 1 rfl rfl dX12_stories_58 ?_
      refine g_imul hX dX12_stories_59 ?_
      refine g_iloadn hX 2 rfl rfl dX12_stories_60 ?_
      refine g_iadd hX dX12_stories_61 ?_
      obtain ⟨k9, jk9, ik9, hf⟩ := gix_open hf
      refine ml_sheets hX ik9 k9 jk9 (v := S.1 9 k9) rfl dX12_stories_62 ?_
      refine g_iconst hX (v := 0) (by decide) dX12_stories_63 ?_
      refine g_sipush hX (v := 6560) (by decide) dX12_stories_64 ?_
      obtain ⟨r10, h11, hf⟩ := cs_open hf
      refine k_RX12_X12_in hX hq h11 (by decide) (by decide) (by decide) (Nat.le_of_ble_eq_true rfl) dX12_stories_67 ?_
      refine g_if_eq hX 103 (by decide) dX12_stories_70 (fun c12 => ?_) (fun c12 => ?_)
      · have hf := ite_t c12 hf
        refine g_iloadn hX 2 rfl rfl dX12_stories_103 ?_
        obtain rfl := oi hf
        exact g_iret hX hq (by decide) (by decide) hp dX12_stories_104
      · have hf := ite_f c12 hf
        refine g_aloadn hX 0 rfl rfl dX12_stories_73 ?_
        refine mg_row hX dX12_stories_74 ?_
        refine g_bipush hX (v := 18) (by decide) dX12_stories_77 ?_
        refine g_iconst hX (v := 3) (by decide) dX12_stories_79 ?_
        refine g_iloadn hX 2 rfl rfl dX12_stories_80 ?_
        refine g_imul hX dX12_stories_81 ?_
        refine g_iadd hX dX12_stories_82 ?_
        refine g_iconst hX (v := 2) (by decide) dX12_stories_83 ?_
        refine g_iadd hX dX12_stories_84 ?_
        refine g_aloadn hX 0 rfl rfl dX12_stories_85 ?_
        refine mg_sheets hX dX12_stories_86 ?_
        refine g_bipush hX (v := 40) (by decide) dX12_stories_89 ?_
        refine g_iloadn hX 1 rfl rfl dX12_stories_91 ?_
        refine g_imul hX dX12_stories_92 ?_
        refine g_iloadn hX 2 rfl rfl dX12_stories_93 ?_
        refine g_iadd hX dX12_stories_94 ?_
        obtain ⟨k13, jk13, ik13, hf⟩ := gix_open hf
        refine ml_sheets hX ik13 k13 jk13 (v := S.1 9 k13) rfl dX12_stories_95 ?_
        obtain ⟨v14, ev14, hf⟩ := bI_open hf
        refine g_nm ev14 ?_
        obtain ⟨k15, jk15, ik15, hf⟩ := gix_open hf
        refine ms_row hX ik15 k15 jk15 dX12_stories_96 ?_
        obtain ⟨v16, ev16, hf⟩ := bI_open hf
        refine g_iinc hX 2 (v := v16) [(2, .int v16), (0, .ref (ad 0)), (1, .int x1)] rfl (by rw [ev16]; rfl) (by decide) rfl dX12_stories_97 ?_
        refine g_goto hX 32 (by decide) dX12_stories_100 ?_
        refine g_lv [1, 2, 0] rfl ?_
        exact hlp32 _ _ _ hf
set_option maxRecDepth 100000 in
set_option maxHeartbeats 4000000 in
theorem t_X12_stories_0 {X : Cx} {ad : Nat → Nat} {PostX : Option Value → va_W → Prop} (hX : Ok X cX12_stories 3 RX12) (hq : Rq X 2 0 0 (some .int) PostX) {u : (Int32 × MS)} (hp : PostX (some (.int u.1)) (mW X.E ad u.2)) (a1 : Int32) (S : MS) (hf : f_X12_stories a1 S = some u) : G X 3 0 0 0 [(0, .ref (ad 0)), (1, .int a1)] [] (mW X.E ad S) := by
  unfold f_X12_stories at hf
  refine g_iloadn hX 1 rfl rfl dX12_stories_0 ?_
  obtain ⟨r1, h2, hf⟩ := cs_open hf
  refine k_RX12_X12_isSheet hX hq h2 (by decide) (by decide) (by decide) (Nat.le_of_ble_eq_true rfl) dX12_stories_1 ?_
  refine g_if_ne hX 14 (by decide) dX12_stories_4 (fun c3 => ?_) (fun c3 => ?_)
  · have hf := ite_f c3 hf
    refine g_aloadn hX 0 rfl rfl dX12_stories_14 ?_
    refine mg_bitsOf hX dX12_stories_15 ?_
    refine g_iloadn hX 1 rfl rfl dX12_stories_18 ?_
    obtain ⟨k4, jk4, ik4, hf⟩ := gix_open hf
    refine ml_bitsOf hX ik4 k4 jk4 (v := S.1 7 k4) rfl dX12_stories_19 ?_
    refine g_if_ne hX 30 (by decide) dX12_stories_20 (fun c5 => ?_) (fun c5 => ?_)
    · have hf := ite_f c5 hf
      refine g_iconst hX (v := 0) (by decide) dX12_stories_30 ?_
      refine g_istoren hX [(2, .int 0), (0, .ref (ad 0)), (1, .int a1)] rfl (by decide) rfl dX12_stories_31 ?_
      refine g_lv [1, 2, 0] rfl ?_
      exact t_X12_stories_32 hX hq hp _ _ _ _ hf
    · have hf := ite_t c5 hf
      refine g_aloadn hX 0 rfl rfl dX12_stories_23 ?_
      refine g_ldc hX (v := (-1000000002)) wd_6_48 dX12_stories_24 ?_
      obtain ⟨r19, S17, h18, hf⟩ := cb_open hf
      refine k_X12_errs hX hq (c_X12_errs h18) (by decide) (by decide) (by decide) (Nat.le_of_ble_eq_true rfl) dX12_stories_26 ?_
      obtain rfl := oi hf
      exact g_iret hX hq (by decide) (by decide) hp dX12_stories_29
  · have hf := ite_t c3 hf
    refine g_aloadn hX 0 rfl rfl dX12_stories_7 ?_
    refine g_ldc hX (v := (-1000000001)) wd_5_74 dX12_stories_8 ?_
    obtain ⟨r22, S20, h21, hf⟩ := cb_open hf
    refine k_X12_errs hX hq (c_X12_errs h21) (by decide) (by decide) (by decide) (Nat.le_of_ble_eq_true rfl) dX12_stories_10 ?_
    obtain rfl := oi hf
    exact g_iret hX hq (by decide) (by decide) hp dX12_stories_13
theorem c_X12_stories {l : Launch} {E : En} {ad : Nat → Nat} {a1 : Int32} {r : Int32} {S S2 : MS} (hf : f_X12_stories a1 S = some (r, S2)) : CP l E yX12_stories cX12_stories 3 (some .int) 2 0 0 [] [.ref (ad 0), .int a1] (mW E ad S) (fun rv w => rv = some (.int r) ∧ w = mW E ad S2) :=
  CP.of (lv := [(0, .ref (ad 0)), (1, .int a1)]) (by decide +kernel) (Nat.le_of_ble_eq_true rfl) rfl (fun X hl hE hro hX hq hn => by subst hl; subst hE; exact t_X12_stories_0 hX hq ⟨rfl, rfl⟩ a1 S hf)
def f_X12_judge_77 (x1 : Int32) (x2 : Int32) (S : MS) : Option (Int32 × MS) :=
  gix x1 4 fun k8 =>
  if (x2 = (S.1 8 k8) : Prop) then
    if (x2 = (S.1 1 3) : Prop) then
      some ((-1), S)
    else
      some (x2, S)
  else
    some (x2, S)
def f_X12_judge_32 : Nat → Int32 → Int32 → MS → Option (Int32 × MS)
  | 0 => fun _ _ _ => none
  | n + 1 => fun x1 x2 S =>
    let lp32 := f_X12_judge_32 n
    gix x1 4 fun k6 =>
    if ((S.1 8 k6) ≤ x2 : Prop) then
      f_X12_judge_77 x1 x2 S
    else
      if ((S.1 1 3) ≤ x2 : Prop) then
        f_X12_judge_77 x1 x2 S
      else
        gix ((40 * x1) + x2) 160 fun k12 =>
        cb (f_X12_floorOf x2 S) fun r15 S13 =>
        if ((S.1 9 k12) = r15 : Prop) then
          bI (x2 + 1) fun v17 =>
          lp32 x1 v17 S13
        else
          f_X12_judge_77 x1 x2 S13
def f_X12_judge (a1 : Int32) (S : MS) : Option (Int32 × MS) :=
  cs (f_X12_isSheet a1) fun r1 =>
  if (r1 = 0 : Prop) then
    cb (f_X12_errs (-1000000001) S) fun r23 S21 =>
    some (r23, S21)
  else
    gix a1 4 fun k4 =>
    if ((S.1 7 k4) = 0 : Prop) then
      cb (f_X12_errs (-1000000002) S) fun r20 S18 =>
      some (r20, S18)
    else
      f_X12_judge_32 100 a1 0 S
set_option maxRecDepth 100000 in
set_option maxHeartbeats 4000000 in
theorem t_X12_judge_77 {X : Cx} {ad : Nat → Nat} {PostX : Option Value → va_W → Prop} (hX : Ok X cX12_judge 3 RX12) (hq : Rq X 71 0 0 (some .int) PostX) {u : (Int32 × MS)} (hp : PostX (some (.int u.1)) (mW X.E ad u.2)) (x1 : Int32) (x2 : Int32) (S : MS) (hf : f_X12_judge_77 x1 x2 S = some u) : G X 3 0 0 77 [(0, .ref (ad 0)), (1, .int x1), (2, .int x2)] [] (mW X.E ad S) := by
  unfold f_X12_judge_77 at hf
  refine g_iloadn hX 2 rfl rfl dX12_judge_77 ?_
  refine g_aloadn hX 0 rfl rfl dX12_judge_78 ?_
  refine mg_sizeOf hX dX12_judge_79 ?_
  refine g_iloadn hX 1 rfl rfl dX12_judge_82 ?_
  obtain ⟨k8, jk8, ik8, hf⟩ := gix_open hf
  refine ml_sizeOf hX ik8 k8 jk8 (v := S.1 8 k8) rfl dX12_judge_83 ?_
  refine g_icmp_ne hX 101 (by decide) dX12_judge_84 (fun c9 => ?_) (fun c9 => ?_)
  · have hf := ite_f c9 hf
    refine g_iloadn hX 2 rfl rfl dX12_judge_101 ?_
    obtain rfl := oi hf
    exact g_iret hX hq (by decide) (by decide) hp dX12_judge_102
  · have hf := ite_t c9 hf
    refine g_iloadn hX 2 rfl rfl dX12_judge_87 ?_
    refine g_aloadn hX 0 rfl rfl dX12_judge_88 ?_
    refine mg_row hX dX12_judge_89 ?_
    refine g_iconst hX (v := 3) (by decide) dX12_judge_92 ?_
    refine ml_row hX (vpc (by decide)) 3 (by decide) (v := S.1 1 3) rfl dX12_judge_93 ?_
    refine g_icmp_ne hX 101 (by decide) dX12_judge_94 (fun c10 => ?_) (fun c10 => ?_)
    · have hf := ite_f c10 hf
      refine g_iloadn hX 2 rfl rfl dX12_judge_101 ?_
      obtain rfl := oi hf
      exact g_iret hX hq (by decide) (by decide) hp dX12_judge_102
    · have hf := ite_t c10 hf
      refine g_iconst hX (v := (-1)) (by decide) dX12_judge_97 ?_
      refine g_goto hX 102 (by decide) dX12_judge_98 ?_
      obtain rfl := oi hf
      exact g_iret hX hq (by decide) (by decide) hp dX12_judge_102
set_option maxRecDepth 100000 in
set_option maxHeartbeats 4000000 in
theorem t_X12_judge_32 {X : Cx} {ad : Nat → Nat} {PostX : Option Value → va_W → Prop} (hX : Ok X cX12_judge 3 RX12) (hq : Rq X 71 0 0 (some .int) PostX) {u : (Int32 × MS)} (hp : PostX (some (.int u.1)) (mW X.E ad u.2)) : ∀ (n : Nat) (x1 : Int32) (x2 : Int32) (S : MS), f_X12_judge_32 n x1 x2 S = some u → G X 3 0 0 32 [(0, .ref (ad 0)), (1, .int x1), (2, .int x2)] [] (mW X.E ad S) := by
  intro n
  induction n with
  | zero => intro _ _ _ hf; unfold f_X12_judge_32 at hf; cases hf
  | succ n hlp32 =>
  intro x1 x2 S hf
  unfold f_X12_judge_32 at hf
  refine g_iloadn hX 2 rfl rfl dX12_judge_32 ?_
  refine g_aloadn hX 0 rfl rfl dX12_judge_33 ?_
  refine mg_sizeOf hX dX12_judge_34 ?_
  refine g_iloadn hX 1 rfl rfl dX12_judge_37 ?_
  obtain ⟨k6, jk6, ik6, hf⟩ := gix_open hf
  refine ml_sizeOf hX ik6 k6 jk6 (v := S.1 8 k6) rfl dX12_judge_38 ?_
  refine g_icmp_ge hX 77 (by decide) dX12_judge_39 (fun c7 => ?_) (fun c7 => ?_)
  · have hf := ite_t c7 hf
    exact t_X12_judge_77 hX hq hp _ _ _ hf
  · have hf := ite_f c7 hf
    refine g_iloadn hX 2 rfl rfl dX12_judge_42 ?_
    refine g_aloadn hX 0 rfl rfl dX12_judge_43 ?_
    refine mg_row hX dX12_judge_44 ?_
    refine g_iconst hX (v := 3) (by decide) dX12_judge_47 ?_
    refine ml_row hX (vpc (by decide)) 3 (by decide) (v := S.1 1 3) rfl dX12_judge_48 ?_
    refine g_icmp_ge hX 77 (by decide) dX12_judge_49 (fun c11 => ?_) (fun c11 => ?_)
    · have hf := ite_t c11 hf
      exact t_X12_judge_77 hX hq hp _ _ _ hf
    · have hf := ite_f c11 hf
      refine g_aloadn hX 0 rfl rfl dX12_judge_52 ?_
      refine mg_sheets hX dX12_judge_53 ?_
      refine g_bipush hX (v := 40) (by decide) dX12_judge_56 ?_
      refine g_iloadn hX 1 rfl rfl dX12_judge_58 ?_
      refine g_imul hX dX12_judge_59 ?_
      refine g_iloadn hX 2 rfl rfl dX12_judge_60 ?_
      refine g_iadd hX dX12_judge_61 ?_
      obtain ⟨k12, jk12, ik12, hf⟩ := gix_open hf
      refine ml_sheets hX ik12 k12 jk12 (v := S.1 9 k12) rfl dX12_judge_62 ?_
      refine g_aloadn hX 0 rfl rfl dX12_judge_63 ?_
      refine g_iloadn hX 2 rfl rfl dX12_judge_64 ?_
      obtain ⟨r15, S13, h14, hf⟩ := cb_open hf
      refine k_X12_floorOf hX hq (c_X12_floorOf h14) (by decide) (by decide) (by decide) (Nat.le_of_ble_eq_true rfl) dX12_judge_65 ?_
      refine g_icmp_ne hX 77 (by decide) dX12_judge_68 (fun c16 => ?_) (fun c16 => ?_)
      · have hf := ite_f c16 hf
        exact t_X12_judge_77 hX hq hp _ _ _ hf
      · have hf := ite_t c16 hf
        obtain ⟨v17, ev17, hf⟩ := bI_open hf
        refine g_iinc hX 2 (v := v17) [(2, .int v17), (0, .ref (ad 0)), (1, .int x1)] rfl (by rw [ev17]; rfl) (by decide) rfl dX12_judge_71 ?_
        refine g_goto hX 32 (by decide) dX12_judge_74 ?_
        refine g_lv [1, 2, 0] rfl ?_
        exact hlp32 _ _ _ hf
set_option maxRecDepth 100000 in
set_option maxHeartbeats 4000000 in
theorem t_X12_judge_0 {X : Cx} {ad : Nat → Nat} {PostX : Option Value → va_W → Prop} (hX : Ok X cX12_judge 3 RX12) (hq : Rq X 71 0 0 (some .int) PostX) {u : (Int32 × MS)} (hp : PostX (some (.int u.1)) (mW X.E ad u.2)) (a1 : Int32) (S : MS) (hf : f_X12_judge a1 S = some u) : G X 3 0 0 0 [(0, .ref (ad 0)), (1, .int a1)] [] (mW X.E ad S) := by
  unfold f_X12_judge at hf
  refine g_iloadn hX 1 rfl rfl dX12_judge_0 ?_
  obtain ⟨r1, h2, hf⟩ := cs_open hf
  refine k_RX12_X12_isSheet hX hq h2 (by decide) (by decide) (by decide) (Nat.le_of_ble_eq_true rfl) dX12_judge_1 ?_
  refine g_if_ne hX 14 (by decide) dX12_judge_4 (fun c3 => ?_) (fun c3 => ?_)
  · have hf := ite_f c3 hf
    refine g_aloadn hX 0 rfl rfl dX12_judge_14 ?_
    refine mg_bitsOf hX dX12_judge_15 ?_
    refine g_iloadn hX 1 rfl rfl dX12_judge_18 ?_
    obtain ⟨k4, jk4, ik4, hf⟩ := gix_open hf
    refine ml_bitsOf hX ik4 k4 jk4 (v := S.1 7 k4) rfl dX12_judge_19 ?_
    refine g_if_ne hX 30 (by decide) dX12_judge_20 (fun c5 => ?_) (fun c5 => ?_)
    · have hf := ite_f c5 hf
      refine g_iconst hX (v := 0) (by decide) dX12_judge_30 ?_
      refine g_istoren hX [(2, .int 0), (0, .ref (ad 0)), (1, .int a1)] rfl (by decide) rfl dX12_judge_31 ?_
      refine g_lv [1, 2, 0] rfl ?_
      exact t_X12_judge_32 hX hq hp _ _ _ _ hf
    · have hf := ite_t c5 hf
      refine g_aloadn hX 0 rfl rfl dX12_judge_23 ?_
      refine g_ldc hX (v := (-1000000002)) wd_6_48 dX12_judge_24 ?_
      obtain ⟨r20, S18, h19, hf⟩ := cb_open hf
      refine k_X12_errs hX hq (c_X12_errs h19) (by decide) (by decide) (by decide) (Nat.le_of_ble_eq_true rfl) dX12_judge_26 ?_
      obtain rfl := oi hf
      exact g_iret hX hq (by decide) (by decide) hp dX12_judge_29
  · have hf := ite_t c3 hf
    refine g_aloadn hX 0 rfl rfl dX12_judge_7 ?_
    refine g_ldc hX (v := (-1000000001)) wd_5_74 dX12_judge_8 ?_
    obtain ⟨r23, S21, h22, hf⟩ := cb_open hf
    refine k_X12_errs hX hq (c_X12_errs h22) (by decide) (by decide) (by decide) (Nat.le_of_ble_eq_true rfl) dX12_judge_10 ?_
    obtain rfl := oi hf
    exact g_iret hX hq (by decide) (by decide) hp dX12_judge_13
theorem c_X12_judge {l : Launch} {E : En} {ad : Nat → Nat} {a1 : Int32} {r : Int32} {S S2 : MS} (hf : f_X12_judge a1 S = some (r, S2)) : CP l E yX12_judge cX12_judge 3 (some .int) 71 0 0 [] [.ref (ad 0), .int a1] (mW E ad S) (fun rv w => rv = some (.int r) ∧ w = mW E ad S2) :=
  CP.of (lv := [(0, .ref (ad 0)), (1, .int a1)]) (by decide +kernel) (Nat.le_of_ble_eq_true rfl) rfl (fun X hl hE hro hX hq hn => by subst hl; subst hE; exact t_X12_judge_0 hX hq ⟨rfl, rfl⟩ a1 S hf)
def f_X12_image (S : MS) : Option (Int32 × MS) :=
  bI ((S.2 1) + 1) fun v1 =>
  some (v1, (sF (sF (sM S 1 2) 0 1) 1 v1))
set_option maxRecDepth 100000 in
set_option maxHeartbeats 4000000 in
theorem t_X12_image_0 {X : Cx} {ad : Nat → Nat} {PostX : Option Value → va_W → Prop} (hX : Ok X cX12_image 1 RX12) (hq : Rq X 1 0 0 (some .int) PostX) {u : (Int32 × MS)} (hp : PostX (some (.int u.1)) (mW X.E ad u.2)) (S : MS) (hf : f_X12_image S = some u) : G X 1 0 0 0 [(0, .ref (ad 0))] [] (mW X.E ad S) := by
  unfold f_X12_image at hf
  refine g_aloadn hX 0 rfl rfl dX12_image_0 ?_
  refine g_aloadn hX 0 rfl rfl dX12_image_1 ?_
  refine mg_row hX dX12_image_2 ?_
  refine g_aloadn hX 0 rfl rfl dX12_image_5 ?_
  refine mg_kept hX dX12_image_6 ?_
  refine k_moveAll_1_2 hX hq (by decide) (by decide) (by decide) (Nat.le_of_ble_eq_true rfl) dX12_image_9 ?_
  refine g_aloadn hX 0 rfl rfl dX12_image_12 ?_
  refine g_iconst hX (v := 1) (by decide) dX12_image_13 ?_
  refine mp_isKept hX (by decide) dX12_image_14 ?_
  refine g_aloadn hX 0 rfl rfl dX12_image_17 ?_
  refine g_dup hX rfl dX12_image_18 ?_
  refine mg_images hX (v := S.2 1) rfl dX12_image_19 ?_
  refine g_iconst hX (v := 1) (by decide) dX12_image_22 ?_
  refine g_iadd hX dX12_image_23 ?_
  obtain ⟨v1, ev1, hf⟩ := bI_open hf
  refine g_nm ev1 ?_
  refine mp_images hX dX12_image_24 ?_
  refine g_aloadn hX 0 rfl rfl dX12_image_27 ?_
  refine mg_images hX (v := v1) rfl dX12_image_28 ?_
  obtain rfl := oi hf
  exact g_iret hX hq (by decide) (by decide) hp dX12_image_31
theorem c_X12_image {l : Launch} {E : En} {ad : Nat → Nat} {r : Int32} {S S2 : MS} (hf : f_X12_image S = some (r, S2)) : CP l E yX12_image cX12_image 1 (some .int) 1 0 0 [] [.ref (ad 0)] (mW E ad S) (fun rv w => rv = some (.int r) ∧ w = mW E ad S2) :=
  CP.of (lv := [(0, .ref (ad 0))]) (by decide +kernel) (Nat.le_of_ble_eq_true rfl) rfl (fun X hl hE hro hX hq hn => by subst hl; subst hE; exact t_X12_image_0 hX hq ⟨rfl, rfl⟩ S hf)
def f_X12_restore (S : MS) : Option (Int32 × MS) :=
  if ((S.2 0) = 0 : Prop) then
    cb (f_X12_errs (-1000000002) S) fun r4 S2 =>
    some (r4, S2)
  else
    some (((sM S 2 1).1 1 0), (sM S 2 1))
set_option maxRecDepth 100000 in
set_option maxHeartbeats 4000000 in
theorem t_X12_restore_0 {X : Cx} {ad : Nat → Nat} {PostX : Option Value → va_W → Prop} (hX : Ok X cX12_restore 1 RX12) (hq : Rq X 1 0 0 (some .int) PostX) {u : (Int32 × MS)} (hp : PostX (some (.int u.1)) (mW X.E ad u.2)) (S : MS) (hf : f_X12_restore S = some u) : G X 1 0 0 0 [(0, .ref (ad 0))] [] (mW X.E ad S) := by
  unfold f_X12_restore at hf
  refine g_aloadn hX 0 rfl rfl dX12_restore_0 ?_
  refine mg_isKept hX (v := S.2 0) rfl dX12_restore_1 ?_
  refine g_if_ne hX 14 (by decide) dX12_restore_4 (fun c1 => ?_) (fun c1 => ?_)
  · have hf := ite_f c1 hf
    refine g_aloadn hX 0 rfl rfl dX12_restore_14 ?_
    refine g_aloadn hX 0 rfl rfl dX12_restore_15 ?_
    refine mg_kept hX dX12_restore_16 ?_
    refine g_aloadn hX 0 rfl rfl dX12_restore_19 ?_
    refine mg_row hX dX12_restore_20 ?_
    refine k_moveAll_2_1 hX hq (by decide) (by decide) (by decide) (Nat.le_of_ble_eq_true rfl) dX12_restore_23 ?_
    refine g_aloadn hX 0 rfl rfl dX12_restore_26 ?_
    refine mg_row hX dX12_restore_27 ?_
    refine g_iconst hX (v := 0) (by decide) dX12_restore_30 ?_
    refine ml_row hX (vpc (by decide)) 0 (by decide) (v := (sM S 2 1).1 1 0) rfl dX12_restore_31 ?_
    obtain rfl := oi hf
    exact g_iret hX hq (by decide) (by decide) hp dX12_restore_32
  · have hf := ite_t c1 hf
    refine g_aloadn hX 0 rfl rfl dX12_restore_7 ?_
    refine g_ldc hX (v := (-1000000002)) wd_6_48 dX12_restore_8 ?_
    obtain ⟨r4, S2, h3, hf⟩ := cb_open hf
    refine k_X12_errs hX hq (c_X12_errs h3) (by decide) (by decide) (by decide) (Nat.le_of_ble_eq_true rfl) dX12_restore_10 ?_
    obtain rfl := oi hf
    exact g_iret hX hq (by decide) (by decide) hp dX12_restore_13
theorem c_X12_restore {l : Launch} {E : En} {ad : Nat → Nat} {r : Int32} {S S2 : MS} (hf : f_X12_restore S = some (r, S2)) : CP l E yX12_restore cX12_restore 1 (some .int) 1 0 0 [] [.ref (ad 0)] (mW E ad S) (fun rv w => rv = some (.int r) ∧ w = mW E ad S2) :=
  CP.of (lv := [(0, .ref (ad 0))]) (by decide +kernel) (Nat.le_of_ble_eq_true rfl) rfl (fun X hl hE hro hX hq hn => by subst hl; subst hE; exact t_X12_restore_0 hX hq ⟨rfl, rfl⟩ S hf)
def f_X12_tell (a1 : Int32) (S : MS) : Option (Int32 × MS) :=
  if ((S.1 1 5) = 20 : Prop) then
    cb (f_X12_errs (-1000000004) S) fun r6 S4 =>
    some (r6, S4)
  else
    gix (86 + (S.1 1 5)) 206 fun k2 =>
    bI (((sA S 1 k2 a1).1 1 5) + 1) fun v3 =>
    some (((sA (sA S 1 k2 a1) 1 5 v3).1 1 5), (sA (sA S 1 k2 a1) 1 5 v3))
set_option maxRecDepth 100000 in
set_option maxHeartbeats 4000000 in
theorem t_X12_tell_0 {X : Cx} {ad : Nat → Nat} {PostX : Option Value → va_W → Prop} (hX : Ok X cX12_tell 2 RX12) (hq : Rq X 1 0 0 (some .int) PostX) {u : (Int32 × MS)} (hp : PostX (some (.int u.1)) (mW X.E ad u.2)) (a1 : Int32) (S : MS) (hf : f_X12_tell a1 S = some u) : G X 2 0 0 0 [(0, .ref (ad 0)), (1, .int a1)] [] (mW X.E ad S) := by
  unfold f_X12_tell at hf
  refine g_aloadn hX 0 rfl rfl dX12_tell_0 ?_
  refine mg_row hX dX12_tell_1 ?_
  refine g_iconst hX (v := 5) (by decide) dX12_tell_4 ?_
  refine ml_row hX (vpc (by decide)) 5 (by decide) (v := S.1 1 5) rfl dX12_tell_5 ?_
  refine g_bipush hX (v := 20) (by decide) dX12_tell_6 ?_
  refine g_icmp_ne hX 18 (by decide) dX12_tell_8 (fun c1 => ?_) (fun c1 => ?_)
  · have hf := ite_f c1 hf
    refine g_aloadn hX 0 rfl rfl dX12_tell_18 ?_
    refine mg_row hX dX12_tell_19 ?_
    refine g_bipush hX (v := 86) (by decide) dX12_tell_22 ?_
    refine g_aloadn hX 0 rfl rfl dX12_tell_24 ?_
    refine mg_row hX dX12_tell_25 ?_
    refine g_iconst hX (v := 5) (by decide) dX12_tell_28 ?_
    refine ml_row hX (vpc (by decide)) 5 (by decide) (v := S.1 1 5) rfl dX12_tell_29 ?_
    refine g_iadd hX dX12_tell_30 ?_
    refine g_iloadn hX 1 rfl rfl dX12_tell_31 ?_
    obtain ⟨k2, jk2, ik2, hf⟩ := gix_open hf
    refine ms_row hX ik2 k2 jk2 dX12_tell_32 ?_
    refine g_aloadn hX 0 rfl rfl dX12_tell_33 ?_
    refine mg_row hX dX12_tell_34 ?_
    refine g_iconst hX (v := 5) (by decide) dX12_tell_37 ?_
    refine g_dup2 hX rfl rfl dX12_tell_38 ?_
    refine ml_row hX (vpc (by decide)) 5 (by decide) (v := (sA S 1 k2 a1).1 1 5) rfl dX12_tell_39 ?_
    refine g_iconst hX (v := 1) (by decide) dX12_tell_40 ?_
    refine g_iadd hX dX12_tell_41 ?_
    obtain ⟨v3, ev3, hf⟩ := bI_open hf
    refine g_nm ev3 ?_
    refine ms_row hX (vpc (by decide)) 5 (by decide) dX12_tell_42 ?_
    refine g_aloadn hX 0 rfl rfl dX12_tell_43 ?_
    refine mg_row hX dX12_tell_44 ?_
    refine g_iconst hX (v := 5) (by decide) dX12_tell_47 ?_
    refine ml_row hX (vpc (by decide)) 5 (by decide) (v := (sA (sA S 1 k2 a1) 1 5 v3).1 1 5) rfl dX12_tell_48 ?_
    obtain rfl := oi hf
    exact g_iret hX hq (by decide) (by decide) hp dX12_tell_49
  · have hf := ite_t c1 hf
    refine g_aloadn hX 0 rfl rfl dX12_tell_11 ?_
    refine g_ldc hX (v := (-1000000004)) wd_5_100 dX12_tell_12 ?_
    obtain ⟨r6, S4, h5, hf⟩ := cb_open hf
    refine k_X12_errs hX hq (c_X12_errs h5) (by decide) (by decide) (by decide) (Nat.le_of_ble_eq_true rfl) dX12_tell_14 ?_
    obtain rfl := oi hf
    exact g_iret hX hq (by decide) (by decide) hp dX12_tell_17
theorem c_X12_tell {l : Launch} {E : En} {ad : Nat → Nat} {a1 : Int32} {r : Int32} {S S2 : MS} (hf : f_X12_tell a1 S = some (r, S2)) : CP l E yX12_tell cX12_tell 2 (some .int) 1 0 0 [] [.ref (ad 0), .int a1] (mW E ad S) (fun rv w => rv = some (.int r) ∧ w = mW E ad S2) :=
  CP.of (lv := [(0, .ref (ad 0)), (1, .int a1)]) (by decide +kernel) (Nat.le_of_ble_eq_true rfl) rfl (fun X hl hE hro hX hq hn => by subst hl; subst hE; exact t_X12_tell_0 hX hq ⟨rfl, rfl⟩ a1 S hf)
def f_X12_check_75 (lp30 : Int32 → Int32 → Int32 → MS → Option (Int32 × MS)) (x1 : Int32) (x3 : Int32) (y0 : Int32) (y1 : Int32) (S : MS) : Option (Int32 × MS) :=
  bI (y0 + y1) fun v14 =>
  lp30 x1 v14 x3 S
def f_X12_check_64 (lp30 : Int32 → Int32 → Int32 → MS → Option (Int32 × MS)) (x1 : Int32) (x2 : Int32) (y0 : Int32) (S : MS) : Option (Int32 × MS) :=
  if (y0 = 0 : Prop) then
    f_X12_check_75 lp30 x1 y0 x2 0 S
  else
    f_X12_check_75 lp30 x1 y0 x2 1 S
def f_X12_check_80 (x2 : Int32) (x3 : Int32) (S : MS) : Option (Int32 × MS) :=
  if (x3 = 0 : Prop) then
    some ((1 + x2), (sM S 3 1))
  else
    some (0, (sM S 3 1))
def f_X12_check_30 : Nat → Int32 → Int32 → Int32 → MS → Option (Int32 × MS)
  | 0 => fun _ _ _ _ => none
  | n + 1 => fun x1 x2 x3 S =>
    let lp30 := f_X12_check_30 n
    if (x1 ≤ x2 : Prop) then
      f_X12_check_80 x2 x3 S
    else
      if (x3 = 0 : Prop) then
        f_X12_check_80 x2 x3 S
      else
        cb (f_X12_oneDay S) fun _ S5 =>
        cb (f_X12_heardAll S5) fun r10 S8 =>
        gix (86 + x2) 206 fun k11 =>
        if (r10 = (S8.1 1 k11) : Prop) then
          f_X12_check_64 lp30 x1 x2 1 S8
        else
          f_X12_check_64 lp30 x1 x2 0 S8
def f_X12_check (S : MS) : Option (Int32 × MS) :=
  bI (S.1 1 5) fun v1 =>
  f_X12_check_30 100 v1 0 1 (sM (sA S 1 5 0) 1 3)
set_option maxRecDepth 100000 in
set_option maxHeartbeats 4000000 in
theorem t_X12_check_75 {X : Cx} {ad : Nat → Nat} {PostX : Option Value → va_W → Prop} (hX : Ok X cX12_check 4 RX12) (hq : Rq X 72 0 0 (some .int) PostX) {u : (Int32 × MS)} (hp : PostX (some (.int u.1)) (mW X.E ad u.2)) {lp30 : Int32 → Int32 → Int32 → MS → Option (Int32 × MS)} (hlp30 : ∀ (x1 : Int32) (x2 : Int32) (x3 : Int32) (S : MS), lp30 x1 x2 x3 S = some u → G X 4 0 0 30 [(0, .ref (ad 0)), (1, .int x1), (2, .int x2), (3, .int x3)] [] (mW X.E ad S)) (x1 : Int32) (x3 : Int32) (y0 : Int32) (y1 : Int32) (S : MS) (hf : f_X12_check_75 lp30 x1 x3 y0 y1 S = some u) : G X 4 0 0 75 [(0, .ref (ad 0)), (1, .int x1), (3, .int x3)] [.int y1, .int y0] (mW X.E ad S) := by
  unfold f_X12_check_75 at hf
  refine g_iadd hX dX12_check_75 ?_
  obtain ⟨v14, ev14, hf⟩ := bI_open hf
  refine g_nm ev14 ?_
  refine g_istoren hX [(2, .int v14), (0, .ref (ad 0)), (1, .int x1), (3, .int x3)] rfl (by decide) rfl dX12_check_76 ?_
  refine g_goto hX 30 (by decide) dX12_check_77 ?_
  refine g_lv [1, 2, 0, 3] rfl ?_
  exact hlp30 _ _ _ _ hf
set_option maxRecDepth 100000 in
set_option maxHeartbeats 4000000 in
theorem t_X12_check_64 {X : Cx} {ad : Nat → Nat} {PostX : Option Value → va_W → Prop} (hX : Ok X cX12_check 4 RX12) (hq : Rq X 72 0 0 (some .int) PostX) {u : (Int32 × MS)} (hp : PostX (some (.int u.1)) (mW X.E ad u.2)) {lp30 : Int32 → Int32 → Int32 → MS → Option (Int32 × MS)} (hlp30 : ∀ (x1 : Int32) (x2 : Int32) (x3 : Int32) (S : MS), lp30 x1 x2 x3 S = some u → G X 4 0 0 30 [(0, .ref (ad 0)), (1, .int x1), (2, .int x2), (3, .int x3)] [] (mW X.E ad S)) (x1 : Int32) (x2 : Int32) (y0 : Int32) (S : MS) (hf : f_X12_check_64 lp30 x1 x2 y0 S = some u) : G X 4 0 0 64 [(0, .ref (ad 0)), (1, .int x1), (2, .int x2)] [.int y0] (mW X.E ad S) := by
  unfold f_X12_check_64 at hf
  refine g_istoren hX [(3, .int y0), (0, .ref (ad 0)), (1, .int x1), (2, .int x2)] rfl (by decide) rfl dX12_check_64 ?_
  refine g_iloadn hX 3 rfl rfl dX12_check_65 ?_
  refine g_iloadn hX 0 rfl rfl dX12_check_66 ?_
  refine g_if_eq hX 74 (by decide) dX12_check_67 (fun c13 => ?_) (fun c13 => ?_)
  · have hf := ite_t c13 hf
    refine g_iconst hX (v := 0) (by decide) dX12_check_74 ?_
    refine g_lv [1, 2, 0] rfl ?_
    exact t_X12_check_75 hX hq hp hlp30 _ _ _ _ _ hf
  · have hf := ite_f c13 hf
    refine g_iconst hX (v := 1) (by decide) dX12_check_70 ?_
    refine g_goto hX 75 (by decide) dX12_check_71 ?_
    refine g_lv [1, 2, 0] rfl ?_
    exact t_X12_check_75 hX hq hp hlp30 _ _ _ _ _ hf
set_option maxRecDepth 100000 in
set_option maxHeartbeats 4000000 in
theorem t_X12_check_80 {X : Cx} {ad : Nat → Nat} {PostX : Option Value → va_W → Prop} (hX : Ok X cX12_check 4 RX12) (hq : Rq X 72 0 0 (some .int) PostX) {u : (Int32 × MS)} (hp : PostX (some (.int u.1)) (mW X.E ad u.2)) (x2 : Int32) (x3 : Int32) (S : MS) (hf : f_X12_check_80 x2 x3 S = some u) : G X 4 0 0 80 [(0, .ref (ad 0)), (2, .int x2), (3, .int x3)] [] (mW X.E ad S) := by
  unfold f_X12_check_80 at hf
  refine g_aloadn hX 0 rfl rfl dX12_check_80 ?_
  refine g_aloadn hX 0 rfl rfl dX12_check_81 ?_
  refine mg_tried hX dX12_check_82 ?_
  refine g_aloadn hX 0 rfl rfl dX12_check_85 ?_
  refine mg_row hX dX12_check_86 ?_
  refine k_moveAll_3_1 hX hq (by decide) (by decide) (by decide) (Nat.le_of_ble_eq_true rfl) dX12_check_89 ?_
  refine g_iloadn hX 2 rfl rfl dX12_check_92 ?_
  refine g_if_eq hX 100 (by decide) dX12_check_93 (fun c3 => ?_) (fun c3 => ?_)
  · have hf := ite_t c3 hf
    refine g_iconst hX (v := 1) (by decide) dX12_check_100 ?_
    refine g_iloadn hX 1 rfl rfl dX12_check_101 ?_
    refine g_iadd hX dX12_check_102 ?_
    obtain rfl := oi hf
    exact g_iret hX hq (by decide) (by decide) hp dX12_check_103
  · have hf := ite_f c3 hf
    refine g_iconst hX (v := 0) (by decide) dX12_check_96 ?_
    refine g_goto hX 103 (by decide) dX12_check_97 ?_
    obtain rfl := oi hf
    exact g_iret hX hq (by decide) (by decide) hp dX12_check_103
set_option maxRecDepth 100000 in
set_option maxHeartbeats 4000000 in
theorem t_X12_check_30 {X : Cx} {ad : Nat → Nat} {PostX : Option Value → va_W → Prop} (hX : Ok X cX12_check 4 RX12) (hq : Rq X 72 0 0 (some .int) PostX) {u : (Int32 × MS)} (hp : PostX (some (.int u.1)) (mW X.E ad u.2)) : ∀ (n : Nat) (x1 : Int32) (x2 : Int32) (x3 : Int32) (S : MS), f_X12_check_30 n x1 x2 x3 S = some u → G X 4 0 0 30 [(0, .ref (ad 0)), (1, .int x1), (2, .int x2), (3, .int x3)] [] (mW X.E ad S) := by
  intro n
  induction n with
  | zero => intro _ _ _ _ hf; unfold f_X12_check_30 at hf; cases hf
  | succ n hlp30 =>
  intro x1 x2 x3 S hf
  unfold f_X12_check_30 at hf
  refine g_iloadn hX 2 rfl rfl dX12_check_30 ?_
  refine g_iloadn hX 1 rfl rfl dX12_check_31 ?_
  refine g_icmp_ge hX 80 (by decide) dX12_check_32 (fun c2 => ?_) (fun c2 => ?_)
  · have hf := ite_t c2 hf
    refine g_lv [0, 2, 3] rfl ?_
    exact t_X12_check_80 hX hq hp _ _ _ hf
  · have hf := ite_f c2 hf
    refine g_iloadn hX 3 rfl rfl dX12_check_35 ?_
    refine g_if_eq hX 80 (by decide) dX12_check_36 (fun c4 => ?_) (fun c4 => ?_)
    · have hf := ite_t c4 hf
      refine g_lv [0, 2, 3] rfl ?_
      exact t_X12_check_80 hX hq hp _ _ _ hf
    · have hf := ite_f c4 hf
      refine g_aloadn hX 0 rfl rfl dX12_check_39 ?_
      obtain ⟨z7, S5, h6, hf⟩ := cb_open hf
      refine k_X12_oneDay hX hq (c_X12_oneDay h6) (by decide) (by decide) (by decide) (Nat.le_of_ble_eq_true rfl) dX12_check_40 ?_
      refine g_aloadn hX 0 rfl rfl dX12_check_43 ?_
      obtain ⟨r10, S8, h9, hf⟩ := cb_open hf
      refine k_X12_heardAll hX hq (c_X12_heardAll h9) (by decide) (by decide) (by decide) (Nat.le_of_ble_eq_true rfl) dX12_check_44 ?_
      refine g_aloadn hX 0 rfl rfl dX12_check_47 ?_
      refine mg_row hX dX12_check_48 ?_
      refine g_bipush hX (v := 86) (by decide) dX12_check_51 ?_
      refine g_iloadn hX 2 rfl rfl dX12_check_53 ?_
      refine g_iadd hX dX12_check_54 ?_
      obtain ⟨k11, jk11, ik11, hf⟩ := gix_open hf
      refine ml_row hX ik11 k11 jk11 (v := S8.1 1 k11) rfl dX12_check_55 ?_
      refine g_icmp_ne hX 63 (by decide) dX12_check_56 (fun c12 => ?_) (fun c12 => ?_)
      · have hf := ite_f c12 hf
        refine g_iconst hX (v := 0) (by decide) dX12_check_63 ?_
        refine g_lv [0, 1, 2] rfl ?_
        exact t_X12_check_64 hX hq hp hlp30 _ _ _ _ hf
      · have hf := ite_t c12 hf
        refine g_iconst hX (v := 1) (by decide) dX12_check_59 ?_
        refine g_goto hX 64 (by decide) dX12_check_60 ?_
        refine g_lv [0, 1, 2] rfl ?_
        exact t_X12_check_64 hX hq hp hlp30 _ _ _ _ hf
set_option maxRecDepth 100000 in
set_option maxHeartbeats 4000000 in
theorem t_X12_check_0 {X : Cx} {ad : Nat → Nat} {PostX : Option Value → va_W → Prop} (hX : Ok X cX12_check 4 RX12) (hq : Rq X 72 0 0 (some .int) PostX) {u : (Int32 × MS)} (hp : PostX (some (.int u.1)) (mW X.E ad u.2)) (S : MS) (hf : f_X12_check S = some u) : G X 4 0 0 0 [(0, .ref (ad 0))] [] (mW X.E ad S) := by
  unfold f_X12_check at hf
  refine g_aloadn hX 0 rfl rfl dX12_check_0 ?_
  refine mg_row hX dX12_check_1 ?_
  refine g_iconst hX (v := 5) (by decide) dX12_check_4 ?_
  refine ml_row hX (vpc (by decide)) 5 (by decide) (v := S.1 1 5) rfl dX12_check_5 ?_
  obtain ⟨v1, ev1, hf⟩ := bI_open hf
  refine g_nm ev1 ?_
  refine g_istoren hX [(1, .int v1), (0, .ref (ad 0))] rfl (by decide) rfl dX12_check_6 ?_
  refine g_aloadn hX 1 rfl rfl dX12_check_7 ?_
  refine mg_row hX dX12_check_8 ?_
  refine g_iconst hX (v := 5) (by decide) dX12_check_11 ?_
  refine g_iconst hX (v := 0) (by decide) dX12_check_12 ?_
  refine ms_row hX (vpc (by decide)) 5 (by decide) dX12_check_13 ?_
  refine g_aloadn hX 1 rfl rfl dX12_check_14 ?_
  refine g_aloadn hX 1 rfl rfl dX12_check_15 ?_
  refine mg_row hX dX12_check_16 ?_
  refine g_aloadn hX 1 rfl rfl dX12_check_19 ?_
  refine mg_tried hX dX12_check_20 ?_
  refine k_moveAll_1_3 hX hq (by decide) (by decide) (by decide) (Nat.le_of_ble_eq_true rfl) dX12_check_23 ?_
  refine g_iconst hX (v := 0) (by decide) dX12_check_26 ?_
  refine g_istoren hX [(2, .int 0), (1, .int v1), (0, .ref (ad 0))] rfl (by decide) rfl dX12_check_27 ?_
  refine g_iconst hX (v := 1) (by decide) dX12_check_28 ?_
  refine g_istoren hX [(3, .int 1), (2, .int 0), (1, .int v1), (0, .ref (ad 0))] rfl (by decide) rfl dX12_check_29 ?_
  refine g_lv [3, 2, 1, 0] rfl ?_
  exact t_X12_check_30 hX hq hp _ _ _ _ _ hf
theorem c_X12_check {l : Launch} {E : En} {ad : Nat → Nat} {r : Int32} {S S2 : MS} (hf : f_X12_check S = some (r, S2)) : CP l E yX12_check cX12_check 4 (some .int) 72 0 0 [] [.ref (ad 0)] (mW E ad S) (fun rv w => rv = some (.int r) ∧ w = mW E ad S2) :=
  CP.of (lv := [(0, .ref (ad 0))]) (by decide +kernel) (Nat.le_of_ble_eq_true rfl) rfl (fun X hl hE hro hX hq hn => by subst hl; subst hE; exact t_X12_check_0 hX hq ⟨rfl, rfl⟩ S hf)
def f_X12_heardMany_56 (lp10 : Int32 → Int32 → Int32 → Int32 → MS → Option (Int32 × MS)) (x1 : Int32) (x3 : Int32) (x4 : Int32) (y0 : Int32) (y1 : Int32) (S : MS) : Option (Int32 × MS) :=
  bI (y0 + y1) fun v8 =>
  bI (x4 + 1) fun v9 =>
  lp10 x1 v8 x3 v9 S
def f_X12_heardMany_51 (lp10 : Int32 → Int32 → Int32 → Int32 → MS → Option (Int32 × MS)) (x1 : Int32) (x3 : Int32) (x4 : Int32) (y0 : Int32) (S : MS) : Option (Int32 × MS) :=
  f_X12_heardMany_56 lp10 x1 x3 x4 y0 1 S
def f_X12_heardMany_55 (lp10 : Int32 → Int32 → Int32 → Int32 → MS → Option (Int32 × MS)) (x1 : Int32) (x3 : Int32) (x4 : Int32) (y0 : Int32) (S : MS) : Option (Int32 × MS) :=
  f_X12_heardMany_56 lp10 x1 x3 x4 y0 0 S
def f_X12_heardMany_10 : Nat → Int32 → Int32 → Int32 → Int32 → MS → Option (Int32 × MS)
  | 0 => fun _ _ _ _ _ => none
  | n + 1 => fun x1 x2 x3 x4 S =>
    let lp10 := f_X12_heardMany_10 n
    if (8 ≤ x4 : Prop) then
      some (x2, S)
    else
      gix (10 + x4) 206 fun k5 =>
      bI (S.1 1 k5) fun v6 =>
      if (v6 ≤ 0 : Prop) then
        f_X12_heardMany_55 lp10 x1 x3 x4 x2 S
      else
        if (x1 = 0 : Prop) then
          f_X12_heardMany_51 lp10 x1 x3 x4 x2 S
        else
          cb (f_X12_saying x3 x4 S) fun r13 S11 =>
          if (v6 = r13 : Prop) then
            f_X12_heardMany_51 lp10 x1 x3 x4 x2 S11
          else
            f_X12_heardMany_55 lp10 x1 x3 x4 x2 S11
def f_X12_heardMany (a1 : Int32) (S : MS) : Option (Int32 × MS) :=
  cb (f_X12_worldStory S) fun r3 S1 =>
  f_X12_heardMany_10 100 a1 0 r3 0 S1
set_option maxRecDepth 100000 in
set_option maxHeartbeats 4000000 in
theorem t_X12_heardMany_56 {X : Cx} {ad : Nat → Nat} {PostX : Option Value → va_W → Prop} (hX : Ok X cX12_heardMany 6 RX12) (hq : Rq X 1 0 0 (some .int) PostX) {u : (Int32 × MS)} (hp : PostX (some (.int u.1)) (mW X.E ad u.2)) {lp10 : Int32 → Int32 → Int32 → Int32 → MS → Option (Int32 × MS)} (hlp10 : ∀ (x1 : Int32) (x2 : Int32) (x3 : Int32) (x4 : Int32) (S : MS), lp10 x1 x2 x3 x4 S = some u → G X 6 0 0 10 [(0, .ref (ad 0)), (1, .int x1), (2, .int x2), (3, .int x3), (4, .int x4)] [] (mW X.E ad S)) (x1 : Int32) (x3 : Int32) (x4 : Int32) (y0 : Int32) (y1 : Int32) (S : MS) (hf : f_X12_heardMany_56 lp10 x1 x3 x4 y0 y1 S = some u) : G X 6 0 0 56 [(0, .ref (ad 0)), (1, .int x1), (3, .int x3), (4, .int x4)] [.int y1, .int y0] (mW X.E ad S) := by
  unfold f_X12_heardMany_56 at hf
  refine g_iadd hX dX12_heardMany_56 ?_
  obtain ⟨v8, ev8, hf⟩ := bI_open hf
  refine g_nm ev8 ?_
  refine g_istoren hX [(2, .int v8), (0, .ref (ad 0)), (1, .int x1), (3, .int x3), (4, .int x4)] rfl (by decide) rfl dX12_heardMany_57 ?_
  obtain ⟨v9, ev9, hf⟩ := bI_open hf
  refine g_iinc hX 4 (v := v9) [(4, .int v9), (2, .int v8), (0, .ref (ad 0)), (1, .int x1), (3, .int x3)] rfl (by rw [ev9]; rfl) (by decide) rfl dX12_heardMany_58 ?_
  refine g_goto hX 10 (by decide) dX12_heardMany_61 ?_
  refine g_lv [2, 3, 1, 4, 0] rfl ?_
  exact hlp10 _ _ _ _ _ hf
set_option maxRecDepth 100000 in
set_option maxHeartbeats 4000000 in
theorem t_X12_heardMany_51 {X : Cx} {ad : Nat → Nat} {PostX : Option Value → va_W → Prop} (hX : Ok X cX12_heardMany 6 RX12) (hq : Rq X 1 0 0 (some .int) PostX) {u : (Int32 × MS)} (hp : PostX (some (.int u.1)) (mW X.E ad u.2)) {lp10 : Int32 → Int32 → Int32 → Int32 → MS → Option (Int32 × MS)} (hlp10 : ∀ (x1 : Int32) (x2 : Int32) (x3 : Int32) (x4 : Int32) (S : MS), lp10 x1 x2 x3 x4 S = some u → G X 6 0 0 10 [(0, .ref (ad 0)), (1, .int x1), (2, .int x2), (3, .int x3), (4, .int x4)] [] (mW X.E ad S)) (x1 : Int32) (x3 : Int32) (x4 : Int32) (y0 : Int32) (S : MS) (hf : f_X12_heardMany_51 lp10 x1 x3 x4 y0 S = some u) : G X 6 0 0 51 [(0, .ref (ad 0)), (1, .int x1), (3, .int x3), (4, .int x4)] [.int y0] (mW X.E ad S) := by
  unfold f_X12_heardMany_51 at hf
  refine g_iconst hX (v := 1) (by decide) dX12_heardMany_51 ?_
  refine g_goto hX 56 (by decide) dX12_heardMany_52 ?_
  exact t_X12_heardMany_56 hX hq hp hlp10 _ _ _ _ _ _ hf
set_option maxRecDepth 100000 in
set_option maxHeartbeats 4000000 in
theorem t_X12_heardMany_55 {X : Cx} {ad : Nat → Nat} {PostX : Option Value → va_W → Prop} (hX : Ok X cX12_heardMany 6 RX12) (hq : Rq X 1 0 0 (some .int) PostX) {u : (Int32 × MS)} (hp : PostX (some (.int u.1)) (mW X.E ad u.2)) {lp10 : Int32 → Int32 → Int32 → Int32 → MS → Option (Int32 × MS)} (hlp10 : ∀ (x1 : Int32) (x2 : Int32) (x3 : Int32) (x4 : Int32) (S : MS), lp10 x1 x2 x3 x4 S = some u → G X 6 0 0 10 [(0, .ref (ad 0)), (1, .int x1), (2, .int x2), (3, .int x3), (4, .int x4)] [] (mW X.E ad S)) (x1 : Int32) (x3 : Int32) (x4 : Int32) (y0 : Int32) (S : MS) (hf : f_X12_heardMany_55 lp10 x1 x3 x4 y0 S = some u) : G X 6 0 0 55 [(0, .ref (ad 0)), (1, .int x1), (3, .int x3), (4, .int x4)] [.int y0] (mW X.E ad S) := by
  unfold f_X12_heardMany_55 at hf
  refine g_iconst hX (v := 0) (by decide) dX12_heardMany_55 ?_
  exact t_X12_heardMany_56 hX hq hp hlp10 _ _ _ _ _ _ hf
set_option maxRecDepth 100000 in
set_option maxHeartbeats 4000000 in
theorem t_X12_heardMany_10 {X : Cx} {ad : Nat → Nat} {PostX : Option Value → va_W → Prop} (hX : Ok X cX12_heardMany 6 RX12) (hq : Rq X 1 0 0 (some .int) PostX) {u : (Int32 × MS)} (hp : PostX (some (.int u.1)) (mW X.E ad u.2)) : ∀ (n : Nat) (x1 : Int32) (x2 : Int32) (x3 : Int32) (x4 : Int32) (S : MS), f_X12_heardMany_10 n x1 x2 x3 x4 S = some u → G X 6 0 0 10 [(0, .ref (ad 0)), (1, .int x1), (2, .int x2), (3, .int x3), (4, .int x4)] [] (mW X.E ad S) := by
  intro n
  induction n with
  | zero => intro _ _ _ _ _ hf; unfold f_X12_heardMany_10 at hf; cases hf
  | succ n hlp10 =>
  intro x1 x2 x3 x4 S hf
  unfold f_X12_heardMany_10 at hf
  refine g_iload hX 4 rfl dX12_heardMany_10 ?_
  refine g_bipush hX (v := 8) (by decide) dX12_heardMany_12 ?_
  refine g_icmp_ge hX 64 (by decide) dX12_heardMany_14 (fun c4 => ?_) (fun c4 => ?_)
  · have hf := ite_t c4 hf
    refine g_iloadn hX 2 rfl rfl dX12_heardMany_64 ?_
    obtain rfl := oi hf
    exact g_iret hX hq (by decide) (by decide) hp dX12_heardMany_65
  · have hf := ite_f c4 hf
    refine g_aloadn hX 0 rfl rfl dX12_heardMany_17 ?_
    refine mg_row hX dX12_heardMany_18 ?_
    refine g_bipush hX (v := 10) (by decide) dX12_heardMany_21 ?_
    refine g_iload hX 4 rfl dX12_heardMany_23 ?_
    refine g_iadd hX dX12_heardMany_25 ?_
    obtain ⟨k5, jk5, ik5, hf⟩ := gix_open hf
    refine ml_row hX ik5 k5 jk5 (v := S.1 1 k5) rfl dX12_heardMany_26 ?_
    obtain ⟨v6, ev6, hf⟩ := bI_open hf
    refine g_nm ev6 ?_
    refine g_istore hX [(5, .int v6), (0, .ref (ad 0)), (1, .int x1), (2, .int x2), (3, .int x3), (4, .int x4)] (by decide) rfl dX12_heardMany_27 ?_
    refine g_iloadn hX 3 rfl rfl dX12_heardMany_29 ?_
    refine g_iload hX 0 rfl dX12_heardMany_30 ?_
    refine g_if_le hX 55 (by decide) dX12_heardMany_32 (fun c7 => ?_) (fun c7 => ?_)
    · have hf := ite_t c7 hf
      refine g_lv [1, 2, 4, 5] rfl ?_
      exact t_X12_heardMany_55 hX hq hp hlp10 _ _ _ _ _ hf
    · have hf := ite_f c7 hf
      refine g_iloadn hX 2 rfl rfl dX12_heardMany_35 ?_
      refine g_if_eq hX 51 (by decide) dX12_heardMany_36 (fun c10 => ?_) (fun c10 => ?_)
      · have hf := ite_t c10 hf
        refine g_lv [1, 2, 4, 5] rfl ?_
        exact t_X12_heardMany_51 hX hq hp hlp10 _ _ _ _ _ hf
      · have hf := ite_f c10 hf
        refine g_iload hX 0 rfl dX12_heardMany_39 ?_
        refine g_aloadn hX 1 rfl rfl dX12_heardMany_41 ?_
        refine g_iloadn hX 4 rfl rfl dX12_heardMany_42 ?_
        refine g_iload hX 5 rfl dX12_heardMany_43 ?_
        obtain ⟨r13, S11, h12, hf⟩ := cb_open hf
        refine k_X12_saying hX hq (c_X12_saying h12) (by decide) (by decide) (by decide) (Nat.le_of_ble_eq_true rfl) dX12_heardMany_45 ?_
        refine g_icmp_ne hX 55 (by decide) dX12_heardMany_48 (fun c14 => ?_) (fun c14 => ?_)
        · have hf := ite_f c14 hf
          refine g_lv [1, 2, 4, 5] rfl ?_
          exact t_X12_heardMany_55 hX hq hp hlp10 _ _ _ _ _ hf
        · have hf := ite_t c14 hf
          refine g_lv [1, 2, 4, 5] rfl ?_
          exact t_X12_heardMany_51 hX hq hp hlp10 _ _ _ _ _ hf
set_option maxRecDepth 100000 in
set_option maxHeartbeats 4000000 in
theorem t_X12_heardMany_0 {X : Cx} {ad : Nat → Nat} {PostX : Option Value → va_W → Prop} (hX : Ok X cX12_heardMany 6 RX12) (hq : Rq X 1 0 0 (some .int) PostX) {u : (Int32 × MS)} (hp : PostX (some (.int u.1)) (mW X.E ad u.2)) (a1 : Int32) (S : MS) (hf : f_X12_heardMany a1 S = some u) : G X 6 0 0 0 [(0, .ref (ad 0)), (1, .int a1)] [] (mW X.E ad S) := by
  unfold f_X12_heardMany at hf
  refine g_iconst hX (v := 0) (by decide) dX12_heardMany_0 ?_
  refine g_istoren hX [(2, .int 0), (0, .ref (ad 0)), (1, .int a1)] rfl (by decide) rfl dX12_heardMany_1 ?_
  refine g_aloadn hX 1 rfl rfl dX12_heardMany_2 ?_
  obtain ⟨r3, S1, h2, hf⟩ := cb_open hf
  refine k_X12_worldStory hX hq (c_X12_worldStory h2) (by decide) (by decide) (by decide) (Nat.le_of_ble_eq_true rfl) dX12_heardMany_3 ?_
  refine g_istoren hX [(3, .int r3), (2, .int 0), (0, .ref (ad 0)), (1, .int a1)] rfl (by decide) rfl dX12_heardMany_6 ?_
  refine g_iconst hX (v := 0) (by decide) dX12_heardMany_7 ?_
  refine g_istore hX [(4, .int 0), (3, .int r3), (2, .int 0), (0, .ref (ad 0)), (1, .int a1)] (by decide) rfl dX12_heardMany_8 ?_
  refine g_lv [3, 4, 2, 1, 0] rfl ?_
  exact t_X12_heardMany_10 hX hq hp _ _ _ _ _ _ hf
theorem c_X12_heardMany {l : Launch} {E : En} {ad : Nat → Nat} {a1 : Int32} {r : Int32} {S S2 : MS} (hf : f_X12_heardMany a1 S = some (r, S2)) : CP l E yX12_heardMany cX12_heardMany 6 (some .int) 1 0 0 [] [.ref (ad 0), .int a1] (mW E ad S) (fun rv w => rv = some (.int r) ∧ w = mW E ad S2) :=
  CP.of (lv := [(0, .ref (ad 0)), (1, .int a1)]) (by decide +kernel) (Nat.le_of_ble_eq_true rfl) rfl (fun X hl hE hro hX hq hn => by subst hl; subst hE; exact t_X12_heardMany_0 hX hq ⟨rfl, rfl⟩ a1 S hf)
theorem kw_RX12_X12_heardMany : KwV RX12 257 RX12 yX12_heardMany cX12_heardMany 6 (some .int) 1 := ⟨mem_wsV wd_6_163 wd_6_165 wd_s_54 wd_1_19 wd_6_166, rfl, ⟨by decide +kernel, by decide +kernel, by decide +kernel⟩, by decide⟩
theorem k_X12_heardMany {X : Cx} {cc : ByteArray} {nL ce sl pc : Nat} {lv : List (Nat × Value)} {st : List Value} {dX mcX msX : Nat} {retX : Option FieldType} {PostX : Option Value → va_W → Prop} {ad : Nat → Nat} {S S2 : MS} {d : Nat} (hX : Ok X cc nL RX12) (hq : Rq X dX mcX msX retX PostX) {a1 : Int32} {r : Int32} (hM : CP X.l X.E yX12_heardMany cX12_heardMany 6 (some .int) d 0 0 [] [.ref (ad 0), .int a1] (mW X.E ad S) (fun rv w => rv = some (.int r) ∧ w = mW X.E ad S2)) (hd : d < dX) (hc : ce ≤ mcX) (hs : sl ≤ msX) (hcat : (st.map fun v => v.category).sum ≤ 8) (hdg : decode cc pc = .ok (.invokevirtual 257, 3)) (kk : G X nL ce sl (pc + 3) lv (.int r :: st) (mW X.E ad S2)) : G X nL ce sl pc lv (.int a1 :: .ref (ad 0) :: st) (mW X.E ad S) :=
  g_eqW (app1 _) (g_callV (pre := []) (mid := mW X.E ad S) (post := []) [.int a1] hX hq kw_RX12_X12_heardMany hM (fun _ h => absurd h List.not_mem_nil) hd hc hs rfl (Recv.of 0 12 rfl rfl) rfl hcat hdg (fun rv ws2 hp => by obtain ⟨rfl, rfl⟩ := hp; exact g_eqW (app1 _).symm kk))
def f_X12_count (a1 : Int32) (S : MS) : Option (Int32 × MS) :=
  if (a1 = 0 : Prop) then
    some ((S.1 1 3), S)
  else
  if (a1 = 1 : Prop) then
    some ((S.1 1 0), S)
  else
  if (a1 = 2 : Prop) then
    some ((S.1 1 1), S)
  else
  if (a1 = 3 : Prop) then
    cb (f_X12_heardMany 0 S) fun r7 S5 =>
    some (r7, S5)
  else
  if (a1 = 4 : Prop) then
    cb (f_X12_heardMany 1 S) fun r11 S9 =>
    some (r11, S9)
  else
  if (a1 = 5 : Prop) then
    some ((S.1 1 9), S)
  else
  if (a1 = 6 : Prop) then
    some ((S.1 1 8), S)
  else
  if (a1 = 7 : Prop) then
    some ((S.1 1 4), S)
  else
  if (a1 = 8 : Prop) then
    some ((S.1 1 5), S)
  else
  if (a1 = 9 : Prop) then
    some ((S.2 13), S)
  else
  if (a1 = 10 : Prop) then
    some ((S.1 1 2), S)
  else
  cb (f_X12_errs (-1000000001) S) fun r20 S18 =>
  some (r20, S18)
set_option maxRecDepth 100000 in
set_option maxHeartbeats 4000000 in
theorem t_X12_count_0 {X : Cx} {ad : Nat → Nat} {PostX : Option Value → va_W → Prop} (hX : Ok X cX12_count 2 RX12) (hq : Rq X 2 0 0 (some .int) PostX) {u : (Int32 × MS)} (hp : PostX (some (.int u.1)) (mW X.E ad u.2)) (a1 : Int32) (S : MS) (hf : f_X12_count a1 S = some u) : G X 2 0 0 0 [(0, .ref (ad 0)), (1, .int a1)] [] (mW X.E ad S) := by
  unfold f_X12_count at hf
  refine g_iloadn hX 1 rfl rfl dX12_count_0 ?_
  by_cases c1 : a1 = 0
  · have hf := ite_t c1 hf
    refine g_tsin hX 60 c1 (by decide) (by rfl) (by decide) dX12_count_1 ?_
    refine g_aloadn hX 0 rfl rfl dX12_count_60 ?_
    refine mg_row hX dX12_count_61 ?_
    refine g_iconst hX (v := 3) (by decide) dX12_count_64 ?_
    refine ml_row hX (vpc (by decide)) 3 (by decide) (v := S.1 1 3) rfl dX12_count_65 ?_
    obtain rfl := oi hf
    exact g_iret hX hq (by decide) (by decide) hp dX12_count_66
  have hf := ite_f c1 hf
  by_cases c2 : a1 = 1
  · have hf := ite_t c2 hf
    refine g_tsin hX 67 c2 (by decide) (by rfl) (by decide) dX12_count_1 ?_
    refine g_aloadn hX 0 rfl rfl dX12_count_67 ?_
    refine mg_row hX dX12_count_68 ?_
    refine g_iconst hX (v := 0) (by decide) dX12_count_71 ?_
    refine ml_row hX (vpc (by decide)) 0 (by decide) (v := S.1 1 0) rfl dX12_count_72 ?_
    obtain rfl := oi hf
    exact g_iret hX hq (by decide) (by decide) hp dX12_count_73
  have hf := ite_f c2 hf
  by_cases c3 : a1 = 2
  · have hf := ite_t c3 hf
    refine g_tsin hX 74 c3 (by decide) (by rfl) (by decide) dX12_count_1 ?_
    refine g_aloadn hX 0 rfl rfl dX12_count_74 ?_
    refine mg_row hX dX12_count_75 ?_
    refine g_iconst hX (v := 1) (by decide) dX12_count_78 ?_
    refine ml_row hX (vpc (by decide)) 1 (by decide) (v := S.1 1 1) rfl dX12_count_79 ?_
    obtain rfl := oi hf
    exact g_iret hX hq (by decide) (by decide) hp dX12_count_80
  have hf := ite_f c3 hf
  by_cases c4 : a1 = 3
  · have hf := ite_t c4 hf
    refine g_tsin hX 81 c4 (by decide) (by rfl) (by decide) dX12_count_1 ?_
    refine g_aloadn hX 0 rfl rfl dX12_count_81 ?_
    refine g_iconst hX (v := 0) (by decide) dX12_count_82 ?_
    obtain ⟨r7, S5, h6, hf⟩ := cb_open hf
    refine k_X12_heardMany hX hq (c_X12_heardMany h6) (by decide) (by decide) (by decide) (Nat.le_of_ble_eq_true rfl) dX12_count_83 ?_
    obtain rfl := oi hf
    exact g_iret hX hq (by decide) (by decide) hp dX12_count_86
  have hf := ite_f c4 hf
  by_cases c8 : a1 = 4
  · have hf := ite_t c8 hf
    refine g_tsin hX 87 c8 (by decide) (by rfl) (by decide) dX12_count_1 ?_
    refine g_aloadn hX 0 rfl rfl dX12_count_87 ?_
    refine g_iconst hX (v := 1) (by decide) dX12_count_88 ?_
    obtain ⟨r11, S9, h10, hf⟩ := cb_open hf
    refine k_X12_heardMany hX hq (c_X12_heardMany h10) (by decide) (by decide) (by decide) (Nat.le_of_ble_eq_true rfl) dX12_count_89 ?_
    obtain rfl := oi hf
    exact g_iret hX hq (by decide) (by decide) hp dX12_count_92
  have hf := ite_f c8 hf
  by_cases c12 : a1 = 5
  · have hf := ite_t c12 hf
    refine g_tsin hX 93 c12 (by decide) (by rfl) (by decide) dX12_count_1 ?_
    refine g_aloadn hX 0 rfl rfl dX12_count_93 ?_
    refine mg_row hX dX12_count_94 ?_
    refine g_bipush hX (v := 9) (by decide) dX12_count_97 ?_
    refine ml_row hX (vpc (by decide)) 9 (by decide) (v := S.1 1 9) rfl dX12_count_99 ?_
    obtain rfl := oi hf
    exact g_iret hX hq (by decide) (by decide) hp dX12_count_100
  have hf := ite_f c12 hf
  by_cases c13 : a1 = 6
  · have hf := ite_t c13 hf
    refine g_tsin hX 101 c13 (by decide) (by rfl) (by decide) dX12_count_1 ?_
    refine g_aloadn hX 0 rfl rfl dX12_count_101 ?_
    refine mg_row hX dX12_count_102 ?_
    refine g_bipush hX (v := 8) (by decide) dX12_count_105 ?_
    refine ml_row hX (vpc (by decide)) 8 (by decide) (v := S.1 1 8) rfl dX12_count_107 ?_
    obtain rfl := oi hf
    exact g_iret hX hq (by decide) (by decide) hp dX12_count_108
  have hf := ite_f c13 hf
  by_cases c14 : a1 = 7
  · have hf := ite_t c14 hf
    refine g_tsin hX 109 c14 (by decide) (by rfl) (by decide) dX12_count_1 ?_
    refine g_aloadn hX 0 rfl rfl dX12_count_109 ?_
    refine mg_row hX dX12_count_110 ?_
    refine g_iconst hX (v := 4) (by decide) dX12_count_113 ?_
    refine ml_row hX (vpc (by decide)) 4 (by decide) (v := S.1 1 4) rfl dX12_count_114 ?_
    obtain rfl := oi hf
    exact g_iret hX hq (by decide) (by decide) hp dX12_count_115
  have hf := ite_f c14 hf
  by_cases c15 : a1 = 8
  · have hf := ite_t c15 hf
    refine g_tsin hX 116 c15 (by decide) (by rfl) (by decide) dX12_count_1 ?_
    refine g_aloadn hX 0 rfl rfl dX12_count_116 ?_
    refine mg_row hX dX12_count_117 ?_
    refine g_iconst hX (v := 5) (by decide) dX12_count_120 ?_
    refine ml_row hX (vpc (by decide)) 5 (by decide) (v := S.1 1 5) rfl dX12_count_121 ?_
    obtain rfl := oi hf
    exact g_iret hX hq (by decide) (by decide) hp dX12_count_122
  have hf := ite_f c15 hf
  by_cases c16 : a1 = 9
  · have hf := ite_t c16 hf
    refine g_tsin hX 123 c16 (by decide) (by rfl) (by decide) dX12_count_1 ?_
    refine g_aloadn hX 0 rfl rfl dX12_count_123 ?_
    refine mg_tracedMany hX (v := S.2 13) rfl dX12_count_124 ?_
    obtain rfl := oi hf
    exact g_iret hX hq (by decide) (by decide) hp dX12_count_127
  have hf := ite_f c16 hf
  by_cases c17 : a1 = 10
  · have hf := ite_t c17 hf
    refine g_tsin hX 128 c17 (by decide) (by rfl) (by decide) dX12_count_1 ?_
    refine g_aloadn hX 0 rfl rfl dX12_count_128 ?_
    refine mg_row hX dX12_count_129 ?_
    refine g_iconst hX (v := 2) (by decide) dX12_count_132 ?_
    refine ml_row hX (vpc (by decide)) 2 (by decide) (v := S.1 1 2) rfl dX12_count_133 ?_
    obtain rfl := oi hf
    exact g_iret hX hq (by decide) (by decide) hp dX12_count_134
  have hf := ite_f c17 hf
  refine g_tsout hX 135 (tsw_out_0_10 c1 c2 c3 c4 c8 c12 c13 c14 c15 c16 c17) (by decide) dX12_count_1 ?_
  refine g_aloadn hX 0 rfl rfl dX12_count_135 ?_
  refine g_ldc hX (v := (-1000000001)) wd_5_74 dX12_count_136 ?_
  obtain ⟨r20, S18, h19, hf⟩ := cb_open hf
  refine k_X12_errs hX hq (c_X12_errs h19) (by decide) (by decide) (by decide) (Nat.le_of_ble_eq_true rfl) dX12_count_138 ?_
  obtain rfl := oi hf
  exact g_iret hX hq (by decide) (by decide) hp dX12_count_141
theorem c_X12_count {l : Launch} {E : En} {ad : Nat → Nat} {a1 : Int32} {r : Int32} {S S2 : MS} (hf : f_X12_count a1 S = some (r, S2)) : CP l E yX12_count cX12_count 2 (some .int) 2 0 0 [] [.ref (ad 0), .int a1] (mW E ad S) (fun rv w => rv = some (.int r) ∧ w = mW E ad S2) :=
  CP.of (lv := [(0, .ref (ad 0)), (1, .int a1)]) (by decide +kernel) (Nat.le_of_ble_eq_true rfl) rfl (fun X hl hE hro hX hq hn => by subst hl; subst hE; exact t_X12_count_0 hX hq ⟨rfl, rfl⟩ a1 S hf)
def f_X12_told (a1 : Int32) (S : MS) : Option (Int32 × MS) :=
  cs (f_X12_in a1 1 5) fun r1 =>
  if (r1 = 0 : Prop) then
    cb (f_X12_errs (-1000000001) S) fun r6 S4 =>
    some (r6, S4)
  else
    gix a1 6 fun k7 =>
    some ((S.1 6 k7), S)
set_option maxRecDepth 100000 in
set_option maxHeartbeats 4000000 in
theorem t_X12_told_0 {X : Cx} {ad : Nat → Nat} {PostX : Option Value → va_W → Prop} (hX : Ok X cX12_told 2 RX12) (hq : Rq X 1 0 0 (some .int) PostX) {u : (Int32 × MS)} (hp : PostX (some (.int u.1)) (mW X.E ad u.2)) (a1 : Int32) (S : MS) (hf : f_X12_told a1 S = some u) : G X 2 0 0 0 [(0, .ref (ad 0)), (1, .int a1)] [] (mW X.E ad S) := by
  unfold f_X12_told at hf
  refine g_iloadn hX 1 rfl rfl dX12_told_0 ?_
  refine g_iconst hX (v := 1) (by decide) dX12_told_1 ?_
  refine g_iconst hX (v := 5) (by decide) dX12_told_2 ?_
  obtain ⟨r1, h2, hf⟩ := cs_open hf
  refine k_RX12_X12_in hX hq h2 (by decide) (by decide) (by decide) (Nat.le_of_ble_eq_true rfl) dX12_told_3 ?_
  refine g_if_eq hX 18 (by decide) dX12_told_6 (fun c3 => ?_) (fun c3 => ?_)
  · have hf := ite_t c3 hf
    refine g_aloadn hX 0 rfl rfl dX12_told_18 ?_
    refine g_ldc hX (v := (-1000000001)) wd_5_74 dX12_told_19 ?_
    obtain ⟨r6, S4, h5, hf⟩ := cb_open hf
    refine k_X12_errs hX hq (c_X12_errs h5) (by decide) (by decide) (by decide) (Nat.le_of_ble_eq_true rfl) dX12_told_21 ?_
    obtain rfl := oi hf
    exact g_iret hX hq (by decide) (by decide) hp dX12_told_24
  · have hf := ite_f c3 hf
    refine g_aloadn hX 0 rfl rfl dX12_told_9 ?_
    refine mg_found hX dX12_told_10 ?_
    refine g_iloadn hX 1 rfl rfl dX12_told_13 ?_
    obtain ⟨k7, jk7, ik7, hf⟩ := gix_open hf
    refine ml_found hX ik7 k7 jk7 (v := S.1 6 k7) rfl dX12_told_14 ?_
    refine g_goto hX 24 (by decide) dX12_told_15 ?_
    obtain rfl := oi hf
    exact g_iret hX hq (by decide) (by decide) hp dX12_told_24
theorem c_X12_told {l : Launch} {E : En} {ad : Nat → Nat} {a1 : Int32} {r : Int32} {S S2 : MS} (hf : f_X12_told a1 S = some (r, S2)) : CP l E yX12_told cX12_told 2 (some .int) 1 0 0 [] [.ref (ad 0), .int a1] (mW E ad S) (fun rv w => rv = some (.int r) ∧ w = mW E ad S2) :=
  CP.of (lv := [(0, .ref (ad 0)), (1, .int a1)]) (by decide +kernel) (Nat.le_of_ble_eq_true rfl) rfl (fun X hl hE hro hX hq hn => by subst hl; subst hE; exact t_X12_told_0 hX hq ⟨rfl, rfl⟩ a1 S hf)

def gch {α : Type} (v : Int32) (k : Option α) : Option α := if ji2c v = v then k else none
theorem gch_open {α : Type} {v : Int32} {k : Option α} {u : α} (h : gch v k = some u) : ji2c v = v ∧ k = some u := by
  unfold gch at h
  by_cases q : ji2c v = v
  · rw [if_pos q] at h
    exact ⟨q, h⟩
  · rw [if_neg q] at h
    cases h
theorem nar_c {v : Int32} (h : ji2c v = v) : narrow .char (.int v) = .int v := by
  have h2 := pk_nc v
  have h3 : narrow .char (.int (ji2c v)) = .int (ji2c v) := h2
  rw [h] at h3
  exact h3
section STRS
variable {X : Cx} {cc : ByteArray} {nL ce sl pc : Nat} {own : String} {lv lv' : List (Nat × Value)} {st st0 : List Value} {ws : va_W} {dX mcX msX : Nat} {retX : Option FieldType} {PostX : Option Value → va_W → Prop} {i : Nat}
theorem g_compact (hX : Ok X cc nL RJ0) (hdg : decode cc pc = .ok (.getstatic 38, 3)) (k : G X nL ce sl (pc + 3) lv (.int 1 :: st) ws) : G X nL ce sl pc lv st ws :=
  fun H locs ls hP hD hS h => va_gets hX.hx hX.hb hX.hRo.2.2.2.1 hS hX.hown (hX.hts _ wd_1_55) (fun _ h => h) hdg (k H locs ls hP hD hS h)
theorem g_scod (hX : Ok X cc nL RJ0) (hi : i < 4) (hdg : decode cc pc = .ok (.getfield 15, 3)) (k : G X nL ce sl (pc + 3) lv (.int 0 :: st) ws) : G X nL ce sl pc lv (.ref (X.E.aK i) :: st) ws :=
  fun H locs ls hP hD hS h => vk_getf hX.hx hX.hb (hX.hRo.2.2.1.1 i hi).2.1 hS hX.hown (hX.hts _ wd_6_194) (fun _ h => h) hdg (k H locs ls hP hD hS h)
theorem g_sval (hX : Ok X cc nL RJ0) (hi : i < 4) (hdg : decode cc pc = .ok (.getfield 9, 3)) (k : G X nL ce sl (pc + 3) lv (.ref (X.E.aV i) :: st) ws) : G X nL ce sl pc lv (.ref (X.E.aK i) :: st) ws :=
  fun H locs ls hP hD hS h => vk_getf hX.hx hX.hb (hX.hRo.2.2.1.1 i hi).2.2.1 hS hX.hown (hX.hts _ wd_6_193) (fun _ h => h) hdg (k H locs ls hP hD hS h)
theorem g_slen (hX : Ok X cc nL own) (hi : i < 4) (hdg : decode cc pc = .ok (.arraylength, 1)) (k : G X nL ce sl (pc + 1) lv (.int (nI (strLen.getD i 0)) :: st) ws) : G X nL ce sl pc lv (.ref (X.E.aV i) :: st) ws :=
  fun H locs ls hP hD hS h => va_tlen hX.hx hX.hb (hX.hRo.2.2.1.1 i hi).2.2.2 hS rfl hdg (k H locs ls hP hD hS h)
theorem g_sld (hX : Ok X cc nL own) (hi : i < 4) {x : Int32} (hin : vp_in x (strLen.getD i 0)) (j : Nat) (hj : x.toNatClampNeg = j) (hdg : decode cc pc = .ok (.baload, 1)) (k : G X nL ce sl (pc + 1) lv (.int ((strByt.getD i []).getD j 0) :: st) ws) : G X nL ce sl pc lv (.int x :: .ref (X.E.aV i) :: st) ws :=
  fun H locs ls hP hD hS h => va_tb hX.hx hX.hb (hX.hRo.2.2.1.1 i hi).2.2.2 hS hin (v := .int ((strByt.getD i []).getD j 0)) (by rw [hj]) hdg (k H locs ls hP hD hS h)
theorem g_callVs {y : MethodName} {ccY : ByteArray} {nY idx n d mc ms : Nat} {ret : Option FieldType} {roC pre mid post : va_W} {Post : Option Value → va_W → Prop} (As : List Value) (hX : Ok X cc nL own) (hq : Rq X dX mcX msX retX PostX) (hi : i < 4) (hw : KwV own idx RJ0 y ccY nY ret n)
    (hM : CP X.l X.E y ccY nY ret d mc ms roC (.ref (X.E.aK i) :: As) mid Post) (hro : ∀ q ∈ roC, q ∈ X.ro) (hd : d < dX) (hc : ce + mc ≤ mcX) (hs : sl + ms ≤ msX) (hn : As.length = n) (hst : As.reverse ++ .ref (X.E.aK i) :: st = st0) (hcat : (st.map fun v => v.category).sum ≤ 8) (hdg : decode cc pc = .ok (.invokevirtual idx, 3))
    (kk : ∀ rv ws', Post rv ws' → G X nL (ce + mc) (sl + ms) (pc + 3) lv (rv.toList ++ st) (pre ++ (ws' ++ post))) : G X nL ce sl pc lv st0 (pre ++ (mid ++ post)) := by
  refine g_run (aa := (Value.ref (X.E.aK i) :: As).toArray) hX (fun H locs ls hP hD hS hl => ?_) kk
  exact va_runV (As := As) (rest := st) ⟨hX.hx, hX.hb, hX.hml, hX.hown, hX.hts⟩ (hM H.size) (cwV n hX.hts hw.1 rfl rfl rfl ⟨hw.2.1, hw.2.2.1⟩ (rm_fits hq.1 hd hw.2.2.2)) ⟨pc_blind, vk_recv hX.hRo.2.2.1 hi hS, pc_at hX hro hP hD hS⟩ rfl hn hl.1 hst.symm (lv_room hcat) hdg (by rw [hq.1]; exact ⟨hc, hs⟩)
theorem g_aloadN (hX : Ok X cc nL own) (j : Nat) {n : Fin 4} {i : Nat} (hi : (n : Nat) = i) (hl : lv[j]? = some (i, .null)) (hdg : decode cc pc = .ok (.aload_n n, 1)) (k : G X nL ce sl (pc + 1) lv (.null :: st) ws) : G X nL ce sl pc lv st ws :=
  fun H locs ls hP hD hS h => lv_aload_nN hX.hx hX.hb hdg hi (lv_at h j hl) (k H locs ls hP hD hS h)
theorem g_sioobe (hX : Ok X cc nL RJ0) (hdg : decode cc pc = .ok (.getstatic 1053, 3)) (k0 : G X nL ce sl (pc + 3) lv (.null :: st) ws) (k1 : ∀ t : Nat, G X nL ce sl (pc + 3) lv (.ref t :: st) ws) : G X nL ce sl pc lv st ws := by
  intro H locs ls hP hD hS h
  rcases hX.hRo.2.2.2.2 with hz | ⟨t, hz⟩
  · exact va_gets hX.hx hX.hb hz hS hX.hown (hX.hts _ wd_1_74) (fun _ h => h) hdg (k0 H locs ls hP hD hS h)
  · exact va_gets hX.hx hX.hb hz hS hX.hown (hX.hts _ wd_1_74) (fun _ h => h) hdg (k1 t H locs ls hP hD hS h)
end STRS
theorem c_J3_checkIndex0 {l : Launch} {E : En} {a0 a1 : Int32} (h0 : ¬ a0 < 0) (h1 : a0 < a1) : CP l E yJ3_checkIndex_8e157 cJ3_checkIndex_8e157 3 (some .int) 0 0 0 [] [.int a0, .int a1, .null] [] (fun rv w => rv = some (.int a0) ∧ w = []) :=
  CP.of (lv := [(0, .int a0), (1, .int a1), (2, .null)]) (by decide +kernel) (Nat.le_of_ble_eq_true rfl) rfl (fun X hl hE hro hX hq hn => by
    refine g_iloadn hX 0 rfl rfl dJ3_checkIndex_8e157_0 ?_
    refine g_if_lt hX 9 (by decide) dJ3_checkIndex_8e157_1 (fun c => absurd c h0) (fun _ => ?_)
    refine g_iloadn hX 0 rfl rfl dJ3_checkIndex_8e157_4 ?_
    refine g_iloadn hX 1 rfl rfl dJ3_checkIndex_8e157_5 ?_
    refine g_icmp_lt hX 16 (by decide) dJ3_checkIndex_8e157_6 (fun _ => ?_) (fun c => absurd h1 c)
    refine g_iloadn hX 0 rfl rfl dJ3_checkIndex_8e157_16 ?_
    exact g_iret hX hq (by decide) (by decide) ⟨rfl, rfl⟩ dJ3_checkIndex_8e157_17)
theorem c_J3_checkIndex1 {l : Launch} {E : En} {t : Nat} {a0 a1 : Int32} (h0 : ¬ a0 < 0) (h1 : a0 < a1) : CP l E yJ3_checkIndex_8e157 cJ3_checkIndex_8e157 3 (some .int) 0 0 0 [] [.int a0, .int a1, .ref t] [] (fun rv w => rv = some (.int a0) ∧ w = []) :=
  CP.of (lv := [(0, .int a0), (1, .int a1), (2, .ref t)]) (by decide +kernel) (Nat.le_of_ble_eq_true rfl) rfl (fun X hl hE hro hX hq hn => by
    refine g_iloadn hX 0 rfl rfl dJ3_checkIndex_8e157_0 ?_
    refine g_if_lt hX 9 (by decide) dJ3_checkIndex_8e157_1 (fun c => absurd c h0) (fun _ => ?_)
    refine g_iloadn hX 0 rfl rfl dJ3_checkIndex_8e157_4 ?_
    refine g_iloadn hX 1 rfl rfl dJ3_checkIndex_8e157_5 ?_
    refine g_icmp_lt hX 16 (by decide) dJ3_checkIndex_8e157_6 (fun _ => ?_) (fun c => absurd h1 c)
    refine g_iloadn hX 0 rfl rfl dJ3_checkIndex_8e157_16 ?_
    exact g_iret hX hq (by decide) (by decide) ⟨rfl, rfl⟩ dJ3_checkIndex_8e157_17)
theorem kw_RJ0_J3_checkIndex_8e157 : KwS RJ0 1059 yJ3_checkIndex_8e157 cJ3_checkIndex_8e157 3 (some .int) 3 := ⟨mem_wsS wd_1_76 wd_1_77 wd_1_7 wd_1_78, ⟨by decide +kernel, by decide +kernel, by decide +kernel⟩, by decide⟩
theorem kw_RJ1_J0_checkIndex_df160 : KwS RJ1 9 yJ0_checkIndex_df160 cJ0_checkIndex_df160 2 none 2 := ⟨mem_wsS wd_1_71 wd_1_72 wd_1_4 wd_1_73, ⟨by decide +kernel, by decide +kernel, by decide +kernel⟩, by decide⟩
def f_J0_checkIndex_df160 (a0 a1 : Int32) : Option Int32 := if a0 < 0 then none else if a0 < a1 then some 0 else none
theorem c_J0_checkIndex_df160 {l : Launch} {E : En} {a0 a1 r : Int32} (hf : f_J0_checkIndex_df160 a0 a1 = some r) : CP l E yJ0_checkIndex_df160 cJ0_checkIndex_df160 2 none 1 0 0 [] [.int a0, .int a1] [] (fun rv w => rv = none ∧ w = []) :=
  CP.of (lv := [(0, .int a0), (1, .int a1)]) (by decide +kernel) (Nat.le_of_ble_eq_true rfl) rfl (fun X hl hE hro hX hq hn => by
    unfold f_J0_checkIndex_df160 at hf
    have h0 : ¬ a0 < 0 := fun c => by rw [if_pos c] at hf; cases hf
    have h1 : a0 < a1 := by
      rw [if_neg h0] at hf
      by_cases c : a0 < a1
      · exact c
      · rw [if_neg c] at hf; cases hf
    refine g_iloadn hX 0 rfl rfl dJ0_checkIndex_df160_0 ?_
    refine g_iloadn hX 1 rfl rfl dJ0_checkIndex_df160_1 ?_
    refine g_sioobe hX dJ0_checkIndex_df160_2 ?_ (fun t => ?_)
    · refine g_eqW (app0 _) (g_callS (pre := _) (mid := []) (post := []) [.int a0, .int a1, .null] hX hq kw_RJ0_J3_checkIndex_8e157 (c_J3_checkIndex0 h0 h1) (fun _ h => absurd h List.not_mem_nil) (by decide) (by decide) (by decide) rfl rfl (Nat.le_of_ble_eq_true rfl) dJ0_checkIndex_df160_5 (fun rv ws2 hp2 => ?_))
      obtain ⟨rfl, rfl⟩ := hp2
      refine g_eqW (app0 _).symm ?_
      refine g_pop hX rfl dJ0_checkIndex_df160_8 ?_
      exact g_vret hX hq (by decide) (by decide) ⟨rfl, rfl⟩ dJ0_checkIndex_df160_9
    · refine g_eqW (app0 _) (g_callS (pre := _) (mid := []) (post := []) [.int a0, .int a1, .ref t] hX hq kw_RJ0_J3_checkIndex_8e157 (c_J3_checkIndex1 h0 h1) (fun _ h => absurd h List.not_mem_nil) (by decide) (by decide) (by decide) rfl rfl (Nat.le_of_ble_eq_true rfl) dJ0_checkIndex_df160_5 (fun rv ws2 hp2 => ?_))
      obtain ⟨rfl, rfl⟩ := hp2
      refine g_eqW (app0 _).symm ?_
      refine g_pop hX rfl dJ0_checkIndex_df160_8 ?_
      exact g_vret hX hq (by decide) (by decide) ⟨rfl, rfl⟩ dJ0_checkIndex_df160_9)
def f_J1_canEncode_9a6ad_15 : Option Int32 :=
  some 0
def f_J1_canEncode_9a6ad (a0 : Int32) : Option Int32 :=
  if (a0 < 0 : Prop) then
    f_J1_canEncode_9a6ad_15 
  else
    if (255 < a0 : Prop) then
      f_J1_canEncode_9a6ad_15 
    else
      some 1
set_option maxRecDepth 100000 in
set_option maxHeartbeats 4000000 in
theorem t_J1_canEncode_9a6ad_15 {X : Cx} {PostX : Option Value → va_W → Prop} (hX : Ok X cJ1_canEncode_9a6ad 1 RJ1) (hq : Rq X 0 0 0 (some .boolean) PostX) {u : Int32} (hp : PostX (some (.int u)) [])  (hf : f_J1_canEncode_9a6ad_15  = some u) : G X 1 0 0 15 [] [] [] := by
  unfold f_J1_canEncode_9a6ad_15 at hf
  refine g_iconst hX (v := 0) (by decide) dJ1_canEncode_9a6ad_15 ?_
  obtain rfl := oi hf
  exact g_zret hX hq (by decide) (by decide) (by rfl) hp dJ1_canEncode_9a6ad_16
set_option maxRecDepth 100000 in
set_option maxHeartbeats 4000000 in
theorem t_J1_canEncode_9a6ad_0 {X : Cx} {PostX : Option Value → va_W → Prop} (hX : Ok X cJ1_canEncode_9a6ad 1 RJ1) (hq : Rq X 0 0 0 (some .boolean) PostX) {u : Int32} (hp : PostX (some (.int u)) []) (a0 : Int32) (hf : f_J1_canEncode_9a6ad a0 = some u) : G X 1 0 0 0 [(0, .int a0)] [] [] := by
  unfold f_J1_canEncode_9a6ad at hf
  refine g_iloadn hX 0 rfl rfl dJ1_canEncode_9a6ad_0 ?_
  refine g_if_lt hX 15 (by decide) dJ1_canEncode_9a6ad_1 (fun c1 => ?_) (fun c1 => ?_)
  · have hf := ite_t c1 hf
    refine g_lv [] rfl ?_
    exact t_J1_canEncode_9a6ad_15 hX hq hp  hf
  · have hf := ite_f c1 hf
    refine g_iloadn hX 0 rfl rfl dJ1_canEncode_9a6ad_4 ?_
    refine g_sipush hX (v := 255) (by decide) dJ1_canEncode_9a6ad_5 ?_
    refine g_icmp_gt hX 15 (by decide) dJ1_canEncode_9a6ad_8 (fun c2 => ?_) (fun c2 => ?_)
    · have hf := ite_t c2 hf
      refine g_lv [] rfl ?_
      exact t_J1_canEncode_9a6ad_15 hX hq hp  hf
    · have hf := ite_f c2 hf
      refine g_iconst hX (v := 1) (by decide) dJ1_canEncode_9a6ad_11 ?_
      refine g_goto hX 16 (by decide) dJ1_canEncode_9a6ad_12 ?_
      obtain rfl := oi hf
      exact g_zret hX hq (by decide) (by decide) (by rfl) hp dJ1_canEncode_9a6ad_16
theorem c_J1_canEncode_9a6ad {l : Launch} {E : En} {a0 r : Int32} (hf : f_J1_canEncode_9a6ad a0 = some r) : CP l E yJ1_canEncode_9a6ad cJ1_canEncode_9a6ad 1 (some .boolean) 0 0 0 [] [.int a0] [] (fun rv w => rv = some (.int r) ∧ w = []) :=
  CP.of (lv := [(0, .int a0)]) (by decide +kernel) (Nat.le_of_ble_eq_true rfl) rfl (fun X hl hE hro hX hq hn => t_J1_canEncode_9a6ad_0 hX hq ⟨rfl, rfl⟩ a0 hf)
theorem kw_RJ1_J1_canEncode_9a6ad : KwS RJ1 88 yJ1_canEncode_9a6ad cJ1_canEncode_9a6ad 1 (some .boolean) 1 := ⟨mem_wsS wd_2_44 wd_2_45 wd_1_6 wd_2_46, ⟨by decide +kernel, by decide +kernel, by decide +kernel⟩, by decide⟩
theorem k_RJ1_J1_canEncode_9a6ad {X : Cx} {cc : ByteArray} {nL ce sl pc : Nat} {lv : List (Nat × Value)} {st : List Value} {dX mcX msX : Nat} {retX : Option FieldType} {PostX : Option Value → va_W → Prop} {ws : va_W} (hX : Ok X cc nL RJ1) (hq : Rq X dX mcX msX retX PostX) {a0 r : Int32} (hf : f_J1_canEncode_9a6ad a0 = some r) (hd : 0 < dX) (hc : ce ≤ mcX) (hs : sl ≤ msX) (hcat : (st.map fun v => v.category).sum ≤ 8) (hdg : decode cc pc = .ok (.invokestatic 88, 3)) (kk : G X nL ce sl (pc + 3) lv (.int r :: st) ws) : G X nL ce sl pc lv (.int a0 :: st) ws :=
  g_eqW (app0 ws) (g_callS (pre := ws) (mid := []) (post := []) [.int a0] hX hq kw_RJ1_J1_canEncode_9a6ad (c_J1_canEncode_9a6ad hf) (fun _ h => absurd h List.not_mem_nil) hd hc hs rfl rfl hcat hdg (fun rv ws2 hp => by obtain ⟨rfl, rfl⟩ := hp; exact g_eqW (app0 ws).symm kk))
theorem km_RJ1_min : KwM RJ1 38 Lib.Math.min.name Lib.Math.min.code := ⟨wd_2_50, wd_1_58, wd_1_5, wd_1_59⟩
theorem km_RJ1_max : KwM RJ1 92 Lib.Math.max.name Lib.Math.max.code := ⟨wd_2_47, wd_2_48, wd_1_5, wd_2_49⟩
def f_J0_coder_7d493 (i : Nat) : Option Int32 :=
  some 0
set_option maxRecDepth 100000 in
set_option maxHeartbeats 4000000 in
theorem t_J0_coder_7d493_0 {X : Cx} {i : Nat} (hi : i < 4) {PostX : Option Value → va_W → Prop} (hX : Ok X cJ0_coder_7d493 1 RJ0) (hq : Rq X 0 0 0 (some .byte) PostX) {u : Int32} (hp : PostX (some (.int u)) [])  (hf : f_J0_coder_7d493 i  = some u) : G X 1 0 0 0 [(0, .ref (X.E.aK i))] [] [] := by
  unfold f_J0_coder_7d493 at hf
  refine g_compact hX dJ0_coder_7d493_0 ?_
  refine g_if_eq hX 13 (by decide) dJ0_coder_7d493_3 (fun c => absurd c (by decide)) (fun _ => ?_)
  refine g_aloadn hX 0 rfl rfl dJ0_coder_7d493_6 ?_
  refine g_scod hX hi dJ0_coder_7d493_7 ?_
  refine g_goto hX 14 (by decide) dJ0_coder_7d493_10 ?_
  obtain rfl := oi hf
  exact g_zret hX hq (by decide) (by decide) (by rfl) hp dJ0_coder_7d493_14
theorem c_J0_coder_7d493 {l : Launch} {E : En} {i : Nat} (hi : i < 4) {r : Int32} (hf : f_J0_coder_7d493 i = some r) : CP l E yJ0_coder_7d493 cJ0_coder_7d493 1 (some .byte) 0 0 0 [] [.ref (E.aK i)] [] (fun rv w => rv = some (.int r) ∧ w = []) :=
  CP.of (lv := [(0, .ref (E.aK i))]) (by decide +kernel) (Nat.le_of_ble_eq_true rfl) rfl (fun X hl hE hro hX hq hn => by subst hl; subst hE; exact t_J0_coder_7d493_0 hi hX hq ⟨rfl, rfl⟩ hf)
theorem kw_RJ0_J0_coder_7d493 : KwV RJ0 335 RJ0 yJ0_coder_7d493 cJ0_coder_7d493 1 (some .byte) 0 := ⟨mem_wsV wd_1_51 wd_1_52 wd_1_53 wd_1_4 wd_1_54, rfl, ⟨by decide +kernel, by decide +kernel, by decide +kernel⟩, by decide⟩
def f_J0_isLatin1_aae02 (i : Nat) : Option Int32 :=
  some 1
set_option maxRecDepth 100000 in
set_option maxHeartbeats 4000000 in
theorem t_J0_isLatin1_aae02_0 {X : Cx} {i : Nat} (hi : i < 4) {PostX : Option Value → va_W → Prop} (hX : Ok X cJ0_isLatin1_aae02 1 RJ0) (hq : Rq X 0 0 0 (some .boolean) PostX) {u : Int32} (hp : PostX (some (.int u)) [])  (hf : f_J0_isLatin1_aae02 i  = some u) : G X 1 0 0 0 [(0, .ref (X.E.aK i))] [] [] := by
  unfold f_J0_isLatin1_aae02 at hf
  refine g_compact hX dJ0_isLatin1_aae02_0 ?_
  refine g_if_eq hX 17 (by decide) dJ0_isLatin1_aae02_3 (fun c => absurd c (by decide)) (fun _ => ?_)
  refine g_aloadn hX 0 rfl rfl dJ0_isLatin1_aae02_6 ?_
  refine g_scod hX hi dJ0_isLatin1_aae02_7 ?_
  refine g_if_ne hX 17 (by decide) dJ0_isLatin1_aae02_10 (fun c => absurd c (by decide)) (fun _ => ?_)
  refine g_iconst hX (v := 1) (by decide) dJ0_isLatin1_aae02_13 ?_
  refine g_goto hX 18 (by decide) dJ0_isLatin1_aae02_14 ?_
  obtain rfl := oi hf
  exact g_zret hX hq (by decide) (by decide) (by rfl) hp dJ0_isLatin1_aae02_18
theorem c_J0_isLatin1_aae02 {l : Launch} {E : En} {i : Nat} (hi : i < 4) {r : Int32} (hf : f_J0_isLatin1_aae02 i = some r) : CP l E yJ0_isLatin1_aae02 cJ0_isLatin1_aae02 1 (some .boolean) 0 0 0 [] [.ref (E.aK i)] [] (fun rv w => rv = some (.int r) ∧ w = []) :=
  CP.of (lv := [(0, .ref (E.aK i))]) (by decide +kernel) (Nat.le_of_ble_eq_true rfl) rfl (fun X hl hE hro hX hq hn => by subst hl; subst hE; exact t_J0_isLatin1_aae02_0 hi hX hq ⟨rfl, rfl⟩ hf)
theorem kw_RJ0_J0_isLatin1_aae02 : KwV RJ0 492 RJ0 yJ0_isLatin1_aae02 cJ0_isLatin1_aae02 1 (some .boolean) 0 := ⟨mem_wsV wd_1_64 wd_1_65 wd_1_66 wd_1_4 wd_1_67, rfl, ⟨by decide +kernel, by decide +kernel, by decide +kernel⟩, by decide⟩
def f_J0_length_8abf5 (i : Nat) : Option Int32 :=
  cs (f_J0_coder_7d493 i) fun r2 =>
  some (jshr (nI (strLen.getD i 0)) r2)
set_option maxRecDepth 100000 in
set_option maxHeartbeats 4000000 in
theorem t_J0_length_8abf5_0 {X : Cx} {i : Nat} (hi : i < 4) {PostX : Option Value → va_W → Prop} (hX : Ok X cJ0_length_8abf5 1 RJ0) (hq : Rq X 1 0 0 (some .int) PostX) {u : Int32} (hp : PostX (some (.int u)) [])  (hf : f_J0_length_8abf5 i  = some u) : G X 1 0 0 0 [(0, .ref (X.E.aK i))] [] [] := by
  unfold f_J0_length_8abf5 at hf
  refine g_aloadn hX 0 rfl rfl dJ0_length_8abf5_0 ?_
  refine g_sval hX hi dJ0_length_8abf5_1 ?_
  refine g_slen hX hi dJ0_length_8abf5_4 ?_
  refine g_aloadn hX 0 rfl rfl dJ0_length_8abf5_5 ?_
  obtain ⟨r2, h1, hf⟩ := cs_open hf
  refine g_eqW (app0 _) (g_callVs (pre := _) (mid := []) (post := []) [] hX hq hi kw_RJ0_J0_coder_7d493 (c_J0_coder_7d493 hi h1) (fun _ h => absurd h List.not_mem_nil) (by decide) (by decide) (by decide) rfl rfl (Nat.le_of_ble_eq_true rfl) dJ0_length_8abf5_6 (fun rv ws2 hp2 => ?_))
  obtain ⟨rfl, rfl⟩ := hp2
  refine g_eqW (app0 _).symm ?_
  refine g_jshr hX dJ0_length_8abf5_9 ?_
  obtain rfl := oi hf
  exact g_iret hX hq (by decide) (by decide) hp dJ0_length_8abf5_10
theorem c_J0_length_8abf5 {l : Launch} {E : En} {i : Nat} (hi : i < 4) {r : Int32} (hf : f_J0_length_8abf5 i = some r) : CP l E yJ0_length_8abf5 cJ0_length_8abf5 1 (some .int) 1 0 0 [] [.ref (E.aK i)] [] (fun rv w => rv = some (.int r) ∧ w = []) :=
  CP.of (lv := [(0, .ref (E.aK i))]) (by decide +kernel) (Nat.le_of_ble_eq_true rfl) rfl (fun X hl hE hro hX hq hn => by subst hl; subst hE; exact t_J0_length_8abf5_0 hi hX hq ⟨rfl, rfl⟩ hf)
theorem kw_RJ0_J0_length_8abf5 : KwV RJ0 505 RJ0 yJ0_length_8abf5 cJ0_length_8abf5 1 (some .int) 0 := ⟨mem_wsV wd_2_40 wd_1_48 wd_1_49 wd_1_4 wd_1_50, rfl, ⟨by decide +kernel, by decide +kernel, by decide +kernel⟩, by decide⟩
def f_J1_indexOfChar_4cfef_7 (i : Nat) : Nat → Int32 → Int32 → Int32 → Option Int32
  | 0 => fun _ _ _ => none
  | n + 1 => fun x3 x4 x5 =>
    let lp7 := f_J1_indexOfChar_4cfef_7 i n
    if (x3 ≤ x5 : Prop) then
      some (-1)
    else
      gix x5 (strLen.getD i 0) fun k3 =>
      if (((strByt.getD i []).getD k3 0) = x4 : Prop) then
        some x5
      else
        bI (x5 + 1) fun v5 =>
        lp7 x3 x4 v5
def f_J1_indexOfChar_4cfef (i : Nat) (a1 : Int32) (a2 : Int32) (a3 : Int32) : Option Int32 :=
  bI (ji2b a1) fun v1 =>
  f_J1_indexOfChar_4cfef_7 i 100 a3 v1 a2
set_option maxRecDepth 100000 in
set_option maxHeartbeats 4000000 in
theorem t_J1_indexOfChar_4cfef_7 {X : Cx} {i : Nat} (hi : i < 4) {PostX : Option Value → va_W → Prop} (hX : Ok X cJ1_indexOfChar_4cfef 6 RJ1) (hq : Rq X 0 0 0 (some .int) PostX) {u : Int32} (hp : PostX (some (.int u)) []) : ∀ (n : Nat) (x3 : Int32) (x4 : Int32) (x5 : Int32), f_J1_indexOfChar_4cfef_7 i n x3 x4 x5 = some u → G X 6 0 0 7 [(0, .ref (X.E.aV i)), (3, .int x3), (4, .int x4), (5, .int x5)] [] [] := by
  intro n
  induction n with
  | zero => intro _ _ _ hf; unfold f_J1_indexOfChar_4cfef_7 at hf; cases hf
  | succ n hlp7 =>
  intro x3 x4 x5 hf
  unfold f_J1_indexOfChar_4cfef_7 at hf
  refine g_iload hX 3 rfl dJ1_indexOfChar_4cfef_7 ?_
  refine g_iloadn hX 1 rfl rfl dJ1_indexOfChar_4cfef_9 ?_
  refine g_icmp_ge hX 31 (by decide) dJ1_indexOfChar_4cfef_10 (fun c2 => ?_) (fun c2 => ?_)
  · have hf := ite_t c2 hf
    refine g_iconst hX (v := (-1)) (by decide) dJ1_indexOfChar_4cfef_31 ?_
    obtain rfl := oi hf
    exact g_iret hX hq (by decide) (by decide) hp dJ1_indexOfChar_4cfef_32
  · have hf := ite_f c2 hf
    refine g_aloadn hX 0 rfl rfl dJ1_indexOfChar_4cfef_13 ?_
    refine g_iload hX 3 rfl dJ1_indexOfChar_4cfef_14 ?_
    obtain ⟨k3, jk3, ik3, hf⟩ := gix_open hf
    refine g_sld hX hi ik3 k3 jk3 dJ1_indexOfChar_4cfef_16 ?_
    refine g_iload hX 2 rfl dJ1_indexOfChar_4cfef_17 ?_
    refine g_icmp_ne hX 25 (by decide) dJ1_indexOfChar_4cfef_19 (fun c4 => ?_) (fun c4 => ?_)
    · have hf := ite_f c4 hf
      obtain ⟨v5, ev5, hf⟩ := bI_open hf
      refine g_iinc hX 3 (v := v5) [(5, .int v5), (0, .ref (X.E.aV i)), (3, .int x3), (4, .int x4)] rfl (by rw [ev5]; rfl) (by decide) rfl dJ1_indexOfChar_4cfef_25 ?_
      refine g_goto hX 7 (by decide) dJ1_indexOfChar_4cfef_28 ?_
      refine g_lv [1, 2, 3, 0] rfl ?_
      exact hlp7 _ _ _ hf
    · have hf := ite_t c4 hf
      refine g_iload hX 3 rfl dJ1_indexOfChar_4cfef_22 ?_
      obtain rfl := oi hf
      exact g_iret hX hq (by decide) (by decide) hp dJ1_indexOfChar_4cfef_24
set_option maxRecDepth 100000 in
set_option maxHeartbeats 4000000 in
theorem t_J1_indexOfChar_4cfef_0 {X : Cx} {i : Nat} (hi : i < 4) {PostX : Option Value → va_W → Prop} (hX : Ok X cJ1_indexOfChar_4cfef 6 RJ1) (hq : Rq X 0 0 0 (some .int) PostX) {u : Int32} (hp : PostX (some (.int u)) []) (a1 : Int32) (a2 : Int32) (a3 : Int32) (hf : f_J1_indexOfChar_4cfef i a1 a2 a3 = some u) : G X 6 0 0 0 [(0, .ref (X.E.aV i)), (1, .int a1), (2, .int a2), (3, .int a3)] [] [] := by
  unfold f_J1_indexOfChar_4cfef at hf
  refine g_iloadn hX 1 rfl rfl dJ1_indexOfChar_4cfef_0 ?_
  refine g_ji2b hX dJ1_indexOfChar_4cfef_1 ?_
  obtain ⟨v1, ev1, hf⟩ := bI_open hf
  refine g_nm ev1 ?_
  refine g_istore hX [(4, .int v1), (0, .ref (X.E.aV i)), (1, .int a1), (2, .int a2), (3, .int a3)] (by decide) rfl dJ1_indexOfChar_4cfef_2 ?_
  refine g_iloadn hX 3 rfl rfl dJ1_indexOfChar_4cfef_4 ?_
  refine g_istore hX [(5, .int a2), (4, .int v1), (0, .ref (X.E.aV i)), (1, .int a1), (2, .int a2), (3, .int a3)] (by decide) rfl dJ1_indexOfChar_4cfef_5 ?_
  refine g_lv [2, 5, 1, 0] rfl ?_
  exact t_J1_indexOfChar_4cfef_7 hi hX hq hp _ _ _ _ hf
theorem c_J1_indexOfChar_4cfef {l : Launch} {E : En} {i : Nat} (hi : i < 4) {a1 : Int32} {a2 : Int32} {a3 : Int32} {r : Int32} (hf : f_J1_indexOfChar_4cfef i a1 a2 a3 = some r) : CP l E yJ1_indexOfChar_4cfef cJ1_indexOfChar_4cfef 6 (some .int) 0 0 0 [] [.ref (E.aV i), .int a1, .int a2, .int a3] [] (fun rv w => rv = some (.int r) ∧ w = []) :=
  CP.of (lv := [(0, .ref (E.aV i)), (1, .int a1), (2, .int a2), (3, .int a3)]) (by decide +kernel) (Nat.le_of_ble_eq_true rfl) rfl (fun X hl hE hro hX hq hn => by subst hl; subst hE; exact t_J1_indexOfChar_4cfef_0 hi hX hq ⟨rfl, rfl⟩ a1 a2 a3 hf)
theorem kw_RJ1_J1_indexOfChar_4cfef : KwS RJ1 95 yJ1_indexOfChar_4cfef cJ1_indexOfChar_4cfef 6 (some .int) 4 := ⟨mem_wsS wd_2_51 wd_2_52 wd_1_6 wd_2_53, ⟨by decide +kernel, by decide +kernel, by decide +kernel⟩, by decide⟩
def f_J1_indexOf_4cfef (i : Nat) (a1 : Int32) (a2 : Int32) (a3 : Int32) : Option Int32 :=
  cs (f_J1_canEncode_9a6ad a1) fun r2 =>
  if (r2 = 0 : Prop) then
    some (-1)
  else
    bI (jmax a2 0) fun v4 =>
    bI (jmin a3 (nI (strLen.getD i 0))) fun v5 =>
    if (v4 < v5 : Prop) then
      cs (f_J1_indexOfChar_4cfef i a1 v4 v5) fun r8 =>
      some r8
    else
      some (-1)
set_option maxRecDepth 100000 in
set_option maxHeartbeats 4000000 in
theorem t_J1_indexOf_4cfef_0 {X : Cx} {i : Nat} (hi : i < 4) {PostX : Option Value → va_W → Prop} (hX : Ok X cJ1_indexOf_4cfef 4 RJ1) (hq : Rq X 1 0 0 (some .int) PostX) {u : Int32} (hp : PostX (some (.int u)) []) (a1 : Int32) (a2 : Int32) (a3 : Int32) (hf : f_J1_indexOf_4cfef i a1 a2 a3 = some u) : G X 4 0 0 0 [(0, .ref (X.E.aV i)), (1, .int a1), (2, .int a2), (3, .int a3)] [] [] := by
  unfold f_J1_indexOf_4cfef at hf
  refine g_iloadn hX 1 rfl rfl dJ1_indexOf_4cfef_0 ?_
  obtain ⟨r2, h1, hf⟩ := cs_open hf
  refine g_eqW (app0 _) (g_callS (pre := _) (mid := []) (post := []) [.int a1] hX hq kw_RJ1_J1_canEncode_9a6ad (c_J1_canEncode_9a6ad h1) (fun _ h => absurd h List.not_mem_nil) (by decide) (by decide) (by decide) rfl rfl (Nat.le_of_ble_eq_true rfl) dJ1_indexOf_4cfef_1 (fun rv ws2 hp2 => ?_))
  obtain ⟨rfl, rfl⟩ := hp2
  refine g_eqW (app0 _).symm ?_
  refine g_if_ne hX 9 (by decide) dJ1_indexOf_4cfef_4 (fun c3 => ?_) (fun c3 => ?_)
  · have hf := ite_f c3 hf
    refine g_iloadn hX 2 rfl rfl dJ1_indexOf_4cfef_9 ?_
    refine g_iconst hX (v := 0) (by decide) dJ1_indexOf_4cfef_10 ?_
    refine g_jmax hX hq km_RJ1_max (by decide) (by decide) (by decide) (Nat.le_of_ble_eq_true rfl) dJ1_indexOf_4cfef_11 ?_
    obtain ⟨v4, ev4, hf⟩ := bI_open hf
    refine g_nm ev4 ?_
    refine g_istoren hX [(2, .int v4), (0, .ref (X.E.aV i)), (1, .int a1), (3, .int a3)] rfl (by decide) rfl dJ1_indexOf_4cfef_14 ?_
    refine g_iloadn hX 3 rfl rfl dJ1_indexOf_4cfef_15 ?_
    refine g_aloadn hX 1 rfl rfl dJ1_indexOf_4cfef_16 ?_
    refine g_slen hX hi dJ1_indexOf_4cfef_17 ?_
    refine g_jmin hX hq km_RJ1_min (by decide) (by decide) (by decide) (Nat.le_of_ble_eq_true rfl) dJ1_indexOf_4cfef_18 ?_
    obtain ⟨v5, ev5, hf⟩ := bI_open hf
    refine g_nm ev5 ?_
    refine g_istoren hX [(3, .int v5), (2, .int v4), (0, .ref (X.E.aV i)), (1, .int a1)] rfl (by decide) rfl dJ1_indexOf_4cfef_21 ?_
    refine g_iloadn hX 1 rfl rfl dJ1_indexOf_4cfef_22 ?_
    refine g_iloadn hX 0 rfl rfl dJ1_indexOf_4cfef_23 ?_
    refine g_icmp_lt hX 29 (by decide) dJ1_indexOf_4cfef_24 (fun c6 => ?_) (fun c6 => ?_)
    · have hf := ite_t c6 hf
      refine g_aloadn hX 2 rfl rfl dJ1_indexOf_4cfef_29 ?_
      refine g_iloadn hX 3 rfl rfl dJ1_indexOf_4cfef_30 ?_
      refine g_iloadn hX 1 rfl rfl dJ1_indexOf_4cfef_31 ?_
      refine g_iloadn hX 0 rfl rfl dJ1_indexOf_4cfef_32 ?_
      obtain ⟨r8, h7, hf⟩ := cs_open hf
      refine g_eqW (app0 _) (g_callS (pre := _) (mid := []) (post := []) [.ref (X.E.aV i), .int a1, .int v4, .int v5] hX hq kw_RJ1_J1_indexOfChar_4cfef (c_J1_indexOfChar_4cfef hi h7) (fun _ h => absurd h List.not_mem_nil) (by decide) (by decide) (by decide) rfl rfl (Nat.le_of_ble_eq_true rfl) dJ1_indexOf_4cfef_33 (fun rv ws2 hp2 => ?_))
      obtain ⟨rfl, rfl⟩ := hp2
      refine g_eqW (app0 _).symm ?_
      obtain rfl := oi hf
      exact g_iret hX hq (by decide) (by decide) hp dJ1_indexOf_4cfef_36
    · have hf := ite_f c6 hf
      refine g_iconst hX (v := (-1)) (by decide) dJ1_indexOf_4cfef_27 ?_
      obtain rfl := oi hf
      exact g_iret hX hq (by decide) (by decide) hp dJ1_indexOf_4cfef_28
  · have hf := ite_t c3 hf
    refine g_iconst hX (v := (-1)) (by decide) dJ1_indexOf_4cfef_7 ?_
    obtain rfl := oi hf
    exact g_iret hX hq (by decide) (by decide) hp dJ1_indexOf_4cfef_8
theorem c_J1_indexOf_4cfef {l : Launch} {E : En} {i : Nat} (hi : i < 4) {a1 : Int32} {a2 : Int32} {a3 : Int32} {r : Int32} (hf : f_J1_indexOf_4cfef i a1 a2 a3 = some r) : CP l E yJ1_indexOf_4cfef cJ1_indexOf_4cfef 4 (some .int) 1 0 0 [] [.ref (E.aV i), .int a1, .int a2, .int a3] [] (fun rv w => rv = some (.int r) ∧ w = []) :=
  CP.of (lv := [(0, .ref (E.aV i)), (1, .int a1), (2, .int a2), (3, .int a3)]) (by decide +kernel) (Nat.le_of_ble_eq_true rfl) rfl (fun X hl hE hro hX hq hn => by subst hl; subst hE; exact t_J1_indexOf_4cfef_0 hi hX hq ⟨rfl, rfl⟩ a1 a2 a3 hf)
theorem kw_RJ0_J1_indexOf_4cfef : KwS RJ0 637 yJ1_indexOf_4cfef cJ1_indexOf_4cfef 4 (some .int) 4 := ⟨mem_wsS wd_2_41 wd_2_42 wd_1_6 wd_2_43, ⟨by decide +kernel, by decide +kernel, by decide +kernel⟩, by decide⟩
def f_J0_indexOf_7cf53 (i : Nat) (a1 : Int32) (a2 : Int32) : Option Int32 :=
  cs (f_J0_isLatin1_aae02 i) fun r2 =>
  if (r2 = 0 : Prop) then
    cs (f_J0_length_8abf5 i) fun r5 =>
    none
  else
    cs (f_J0_length_8abf5 i) fun r7 =>
    cs (f_J1_indexOf_4cfef i a1 a2 r7) fun r9 =>
    some r9
set_option maxRecDepth 100000 in
set_option maxHeartbeats 4000000 in
theorem t_J0_indexOf_7cf53_0 {X : Cx} {i : Nat} (hi : i < 4) {PostX : Option Value → va_W → Prop} (hX : Ok X cJ0_indexOf_7cf53 3 RJ0) (hq : Rq X 2 0 0 (some .int) PostX) {u : Int32} (hp : PostX (some (.int u)) []) (a1 : Int32) (a2 : Int32) (hf : f_J0_indexOf_7cf53 i a1 a2 = some u) : G X 3 0 0 0 [(0, .ref (X.E.aK i)), (1, .int a1), (2, .int a2)] [] [] := by
  unfold f_J0_indexOf_7cf53 at hf
  refine g_aloadn hX 0 rfl rfl dJ0_indexOf_7cf53_0 ?_
  obtain ⟨r2, h1, hf⟩ := cs_open hf
  refine g_eqW (app0 _) (g_callVs (pre := _) (mid := []) (post := []) [] hX hq hi kw_RJ0_J0_isLatin1_aae02 (c_J0_isLatin1_aae02 hi h1) (fun _ h => absurd h List.not_mem_nil) (by decide) (by decide) (by decide) rfl rfl (Nat.le_of_ble_eq_true rfl) dJ0_indexOf_7cf53_1 (fun rv ws2 hp2 => ?_))
  obtain ⟨rfl, rfl⟩ := hp2
  refine g_eqW (app0 _).symm ?_
  refine g_if_eq hX 23 (by decide) dJ0_indexOf_7cf53_4 (fun c3 => ?_) (fun c3 => ?_)
  · have hf := ite_t c3 hf
    refine g_aloadn hX 0 rfl rfl dJ0_indexOf_7cf53_23 ?_
    refine g_sval hX hi dJ0_indexOf_7cf53_24 ?_
    refine g_iloadn hX 1 rfl rfl dJ0_indexOf_7cf53_27 ?_
    refine g_iloadn hX 2 rfl rfl dJ0_indexOf_7cf53_28 ?_
    refine g_aloadn hX 0 rfl rfl dJ0_indexOf_7cf53_29 ?_
    obtain ⟨r5, h4, hf⟩ := cs_open hf
    refine g_eqW (app0 _) (g_callVs (pre := _) (mid := []) (post := []) [] hX hq hi kw_RJ0_J0_length_8abf5 (c_J0_length_8abf5 hi h4) (fun _ h => absurd h List.not_mem_nil) (by decide) (by decide) (by decide) rfl rfl (Nat.le_of_ble_eq_true rfl) dJ0_indexOf_7cf53_30 (fun rv ws2 hp2 => ?_))
    obtain ⟨rfl, rfl⟩ := hp2
    refine g_eqW (app0 _).symm ?_
    cases hf
  · have hf := ite_f c3 hf
    refine g_aloadn hX 0 rfl rfl dJ0_indexOf_7cf53_7 ?_
    refine g_sval hX hi dJ0_indexOf_7cf53_8 ?_
    refine g_iloadn hX 1 rfl rfl dJ0_indexOf_7cf53_11 ?_
    refine g_iloadn hX 2 rfl rfl dJ0_indexOf_7cf53_12 ?_
    refine g_aloadn hX 0 rfl rfl dJ0_indexOf_7cf53_13 ?_
    obtain ⟨r7, h6, hf⟩ := cs_open hf
    refine g_eqW (app0 _) (g_callVs (pre := _) (mid := []) (post := []) [] hX hq hi kw_RJ0_J0_length_8abf5 (c_J0_length_8abf5 hi h6) (fun _ h => absurd h List.not_mem_nil) (by decide) (by decide) (by decide) rfl rfl (Nat.le_of_ble_eq_true rfl) dJ0_indexOf_7cf53_14 (fun rv ws2 hp2 => ?_))
    obtain ⟨rfl, rfl⟩ := hp2
    refine g_eqW (app0 _).symm ?_
    obtain ⟨r9, h8, hf⟩ := cs_open hf
    refine g_eqW (app0 _) (g_callS (pre := _) (mid := []) (post := []) [.ref (X.E.aV i), .int a1, .int a2, .int r7] hX hq kw_RJ0_J1_indexOf_4cfef (c_J1_indexOf_4cfef hi h8) (fun _ h => absurd h List.not_mem_nil) (by decide) (by decide) (by decide) rfl rfl (Nat.le_of_ble_eq_true rfl) dJ0_indexOf_7cf53_17 (fun rv ws2 hp2 => ?_))
    obtain ⟨rfl, rfl⟩ := hp2
    refine g_eqW (app0 _).symm ?_
    refine g_goto hX 36 (by decide) dJ0_indexOf_7cf53_20 ?_
    obtain rfl := oi hf
    exact g_iret hX hq (by decide) (by decide) hp dJ0_indexOf_7cf53_36
theorem c_J0_indexOf_7cf53 {l : Launch} {E : En} {i : Nat} (hi : i < 4) {a1 : Int32} {a2 : Int32} {r : Int32} (hf : f_J0_indexOf_7cf53 i a1 a2 = some r) : CP l E yJ0_indexOf_7cf53 cJ0_indexOf_7cf53 3 (some .int) 2 0 0 [] [.ref (E.aK i), .int a1, .int a2] [] (fun rv w => rv = some (.int r) ∧ w = []) :=
  CP.of (lv := [(0, .ref (E.aK i)), (1, .int a1), (2, .int a2)]) (by decide +kernel) (Nat.le_of_ble_eq_true rfl) rfl (fun X hl hE hro hX hq hn => by subst hl; subst hE; exact t_J0_indexOf_7cf53_0 hi hX hq ⟨rfl, rfl⟩ a1 a2 hf)
theorem kw_RJ0_J0_indexOf_7cf53 : KwV RJ0 633 RJ0 yJ0_indexOf_7cf53 cJ0_indexOf_7cf53 3 (some .int) 2 := ⟨mem_wsV wd_2_36 wd_2_37 wd_2_38 wd_1_4 wd_2_39, rfl, ⟨by decide +kernel, by decide +kernel, by decide +kernel⟩, by decide⟩
def f_J0_indexOf_0f7a4 (i : Nat) (a1 : Int32) : Option Int32 :=
  cs (f_J0_indexOf_7cf53 i a1 0) fun r2 =>
  some r2
set_option maxRecDepth 100000 in
set_option maxHeartbeats 4000000 in
theorem t_J0_indexOf_0f7a4_0 {X : Cx} {i : Nat} (hi : i < 4) {PostX : Option Value → va_W → Prop} (hX : Ok X cJ0_indexOf_0f7a4 2 RJ0) (hq : Rq X 3 0 0 (some .int) PostX) {u : Int32} (hp : PostX (some (.int u)) []) (a1 : Int32) (hf : f_J0_indexOf_0f7a4 i a1 = some u) : G X 2 0 0 0 [(0, .ref (X.E.aK i)), (1, .int a1)] [] [] := by
  unfold f_J0_indexOf_0f7a4 at hf
  refine g_aloadn hX 0 rfl rfl dJ0_indexOf_0f7a4_0 ?_
  refine g_iloadn hX 1 rfl rfl dJ0_indexOf_0f7a4_1 ?_
  refine g_iconst hX (v := 0) (by decide) dJ0_indexOf_0f7a4_2 ?_
  obtain ⟨r2, h1, hf⟩ := cs_open hf
  refine g_eqW (app0 _) (g_callVs (pre := _) (mid := []) (post := []) [.int a1, .int 0] hX hq hi kw_RJ0_J0_indexOf_7cf53 (c_J0_indexOf_7cf53 hi h1) (fun _ h => absurd h List.not_mem_nil) (by decide) (by decide) (by decide) rfl rfl (Nat.le_of_ble_eq_true rfl) dJ0_indexOf_0f7a4_3 (fun rv ws2 hp2 => ?_))
  obtain ⟨rfl, rfl⟩ := hp2
  refine g_eqW (app0 _).symm ?_
  obtain rfl := oi hf
  exact g_iret hX hq (by decide) (by decide) hp dJ0_indexOf_0f7a4_6
theorem c_J0_indexOf_0f7a4 {l : Launch} {E : En} {i : Nat} (hi : i < 4) {a1 : Int32} {r : Int32} (hf : f_J0_indexOf_0f7a4 i a1 = some r) : CP l E yJ0_indexOf_0f7a4 cJ0_indexOf_0f7a4 2 (some .int) 3 0 0 [] [.ref (E.aK i), .int a1] [] (fun rv w => rv = some (.int r) ∧ w = []) :=
  CP.of (lv := [(0, .ref (E.aK i)), (1, .int a1)]) (by decide +kernel) (Nat.le_of_ble_eq_true rfl) rfl (fun X hl hE hro hX hq hn => by subst hl; subst hE; exact t_J0_indexOf_0f7a4_0 hi hX hq ⟨rfl, rfl⟩ a1 hf)
def f_J1_charAt_3b067 (i : Nat) (a1 : Int32) : Option Int32 :=
  cs (f_J0_checkIndex_df160 a1 (nI (strLen.getD i 0))) fun r2 =>
  gix a1 (strLen.getD i 0) fun k3 =>
  gch (ji2c (((strByt.getD i []).getD k3 0) &&& 255)) <| some (ji2c (((strByt.getD i []).getD k3 0) &&& 255))
set_option maxRecDepth 100000 in
set_option maxHeartbeats 4000000 in
theorem t_J1_charAt_3b067_0 {X : Cx} {i : Nat} (hi : i < 4) {PostX : Option Value → va_W → Prop} (hX : Ok X cJ1_charAt_3b067 2 RJ1) (hq : Rq X 2 0 0 (some .char) PostX) {u : Int32} (hp : PostX (some (.int u)) []) (a1 : Int32) (hf : f_J1_charAt_3b067 i a1 = some u) : G X 2 0 0 0 [(0, .ref (X.E.aV i)), (1, .int a1)] [] [] := by
  unfold f_J1_charAt_3b067 at hf
  refine g_iloadn hX 1 rfl rfl dJ1_charAt_3b067_0 ?_
  refine g_aloadn hX 0 rfl rfl dJ1_charAt_3b067_1 ?_
  refine g_slen hX hi dJ1_charAt_3b067_2 ?_
  obtain ⟨r2, h1, hf⟩ := cs_open hf
  refine g_eqW (app0 _) (g_callS (pre := _) (mid := []) (post := []) [.int a1, .int (nI (strLen.getD i 0))] hX hq kw_RJ1_J0_checkIndex_df160 (c_J0_checkIndex_df160 h1) (fun _ h => absurd h List.not_mem_nil) (by decide) (by decide) (by decide) rfl rfl (Nat.le_of_ble_eq_true rfl) dJ1_charAt_3b067_3 (fun rv ws2 hp2 => ?_))
  obtain ⟨rfl, rfl⟩ := hp2
  refine g_eqW (app0 _).symm ?_
  refine g_aloadn hX 0 rfl rfl dJ1_charAt_3b067_6 ?_
  refine g_iloadn hX 1 rfl rfl dJ1_charAt_3b067_7 ?_
  obtain ⟨k3, jk3, ik3, hf⟩ := gix_open hf
  refine g_sld hX hi ik3 k3 jk3 dJ1_charAt_3b067_8 ?_
  refine g_sipush hX (v := 255) (by decide) dJ1_charAt_3b067_9 ?_
  refine g_iand hX dJ1_charAt_3b067_12 ?_
  refine g_ji2c hX dJ1_charAt_3b067_13 ?_
  obtain ⟨h4, hf⟩ := gch_open hf
  obtain rfl := oi hf
  exact g_zret hX hq (by decide) (by decide) (nar_c h4) hp dJ1_charAt_3b067_14
theorem c_J1_charAt_3b067 {l : Launch} {E : En} {i : Nat} (hi : i < 4) {a1 : Int32} {r : Int32} (hf : f_J1_charAt_3b067 i a1 = some r) : CP l E yJ1_charAt_3b067 cJ1_charAt_3b067 2 (some .char) 2 0 0 [] [.ref (E.aV i), .int a1] [] (fun rv w => rv = some (.int r) ∧ w = []) :=
  CP.of (lv := [(0, .ref (E.aV i)), (1, .int a1)]) (by decide +kernel) (Nat.le_of_ble_eq_true rfl) rfl (fun X hl hE hro hX hq hn => by subst hl; subst hE; exact t_J1_charAt_3b067_0 hi hX hq ⟨rfl, rfl⟩ a1 hf)
theorem kw_RJ0_J1_charAt_3b067 : KwS RJ0 495 yJ1_charAt_3b067 cJ1_charAt_3b067 2 (some .char) 2 := ⟨mem_wsS wd_1_68 wd_1_69 wd_1_6 wd_1_70, ⟨by decide +kernel, by decide +kernel, by decide +kernel⟩, by decide⟩
def f_J0_charAt_5068e (i : Nat) (a1 : Int32) : Option Int32 :=
  cs (f_J0_isLatin1_aae02 i) fun r2 =>
  if (r2 = 0 : Prop) then
    none
  else
    cs (f_J1_charAt_3b067 i a1) fun r5 =>
    gch r5 <| some r5
set_option maxRecDepth 100000 in
set_option maxHeartbeats 4000000 in
theorem t_J0_charAt_5068e_0 {X : Cx} {i : Nat} (hi : i < 4) {PostX : Option Value → va_W → Prop} (hX : Ok X cJ0_charAt_5068e 2 RJ0) (hq : Rq X 3 0 0 (some .char) PostX) {u : Int32} (hp : PostX (some (.int u)) []) (a1 : Int32) (hf : f_J0_charAt_5068e i a1 = some u) : G X 2 0 0 0 [(0, .ref (X.E.aK i)), (1, .int a1)] [] [] := by
  unfold f_J0_charAt_5068e at hf
  refine g_aloadn hX 0 rfl rfl dJ0_charAt_5068e_0 ?_
  obtain ⟨r2, h1, hf⟩ := cs_open hf
  refine g_eqW (app0 _) (g_callVs (pre := _) (mid := []) (post := []) [] hX hq hi kw_RJ0_J0_isLatin1_aae02 (c_J0_isLatin1_aae02 hi h1) (fun _ h => absurd h List.not_mem_nil) (by decide) (by decide) (by decide) rfl rfl (Nat.le_of_ble_eq_true rfl) dJ0_charAt_5068e_1 (fun rv ws2 hp2 => ?_))
  obtain ⟨rfl, rfl⟩ := hp2
  refine g_eqW (app0 _).symm ?_
  refine g_if_eq hX 16 (by decide) dJ0_charAt_5068e_4 (fun c3 => ?_) (fun c3 => ?_)
  · have hf := ite_t c3 hf
    refine g_aloadn hX 0 rfl rfl dJ0_charAt_5068e_16 ?_
    refine g_sval hX hi dJ0_charAt_5068e_17 ?_
    refine g_iloadn hX 1 rfl rfl dJ0_charAt_5068e_20 ?_
    cases hf
  · have hf := ite_f c3 hf
    refine g_aloadn hX 0 rfl rfl dJ0_charAt_5068e_7 ?_
    refine g_sval hX hi dJ0_charAt_5068e_8 ?_
    refine g_iloadn hX 1 rfl rfl dJ0_charAt_5068e_11 ?_
    obtain ⟨r5, h4, hf⟩ := cs_open hf
    refine g_eqW (app0 _) (g_callS (pre := _) (mid := []) (post := []) [.ref (X.E.aV i), .int a1] hX hq kw_RJ0_J1_charAt_3b067 (c_J1_charAt_3b067 hi h4) (fun _ h => absurd h List.not_mem_nil) (by decide) (by decide) (by decide) rfl rfl (Nat.le_of_ble_eq_true rfl) dJ0_charAt_5068e_12 (fun rv ws2 hp2 => ?_))
    obtain ⟨rfl, rfl⟩ := hp2
    refine g_eqW (app0 _).symm ?_
    obtain ⟨h6, hf⟩ := gch_open hf
    obtain rfl := oi hf
    exact g_zret hX hq (by decide) (by decide) (nar_c h6) hp dJ0_charAt_5068e_15
theorem c_J0_charAt_5068e {l : Launch} {E : En} {i : Nat} (hi : i < 4) {a1 : Int32} {r : Int32} (hf : f_J0_charAt_5068e i a1 = some r) : CP l E yJ0_charAt_5068e cJ0_charAt_5068e 2 (some .char) 3 0 0 [] [.ref (E.aK i), .int a1] [] (fun rv w => rv = some (.int r) ∧ w = []) :=
  CP.of (lv := [(0, .ref (E.aK i)), (1, .int a1)]) (by decide +kernel) (Nat.le_of_ble_eq_true rfl) rfl (fun X hl hE hro hX hq hn => by subst hl; subst hE; exact t_J0_charAt_5068e_0 hi hX hq ⟨rfl, rfl⟩ a1 hf)
theorem kw_RX2_J0_indexOf_0f7a4 : KwV RX2 106 RJ0 yJ0_indexOf_0f7a4 cJ0_indexOf_0f7a4 2 (some .int) 1 := ⟨mem_wsV wd_2_32 wd_2_33 wd_2_34 wd_1_4 wd_2_35, rfl, ⟨by decide +kernel, by decide +kernel, by decide +kernel⟩, by decide⟩
theorem kw_RX2_J0_length_8abf5 : KwV RX2 45 RJ0 yJ0_length_8abf5 cJ0_length_8abf5 1 (some .int) 0 := ⟨mem_wsV wd_1_47 wd_1_48 wd_1_49 wd_1_4 wd_1_50, rfl, ⟨by decide +kernel, by decide +kernel, by decide +kernel⟩, by decide⟩
theorem kw_RX2_J0_charAt_5068e : KwV RX2 56 RJ0 yJ0_charAt_5068e cJ0_charAt_5068e 2 (some .char) 1 := ⟨mem_wsV wd_1_60 wd_1_61 wd_1_62 wd_1_4 wd_1_63, rfl, ⟨by decide +kernel, by decide +kernel, by decide +kernel⟩, by decide⟩

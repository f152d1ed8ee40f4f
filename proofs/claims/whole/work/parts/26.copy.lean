theorem tsw_out_0_6 {x : Int32} (h0 : ¬ x = 0) (h1 : ¬ x = 1) (h2 : ¬ x = 2) (h3 : ¬ x = 3) (h4 : ¬ x = 4) (h5 : ¬ x = 5) (h6 : ¬ x = 6) : x.toInt < 0 ∨ 6 < x.toInt := by
  have g0 : ¬ x.toInt = 0 := tsw_ne h0
  have g1 : ¬ x.toInt = 1 := tsw_ne h1
  have g2 : ¬ x.toInt = 2 := tsw_ne h2
  have g3 : ¬ x.toInt = 3 := tsw_ne h3
  have g4 : ¬ x.toInt = 4 := tsw_ne h4
  have g5 : ¬ x.toInt = 5 := tsw_ne h5
  have g6 : ¬ x.toInt = 6 := tsw_ne h6
  omega
theorem tsw_out_0_9 {x : Int32} (h0 : ¬ x = 0) (h1 : ¬ x = 1) (h2 : ¬ x = 2) (h3 : ¬ x = 3) (h4 : ¬ x = 4) (h5 : ¬ x = 5) (h6 : ¬ x = 6) (h7 : ¬ x = 7) (h8 : ¬ x = 8) (h9 : ¬ x = 9) : x.toInt < 0 ∨ 9 < x.toInt := by
  have g0 : ¬ x.toInt = 0 := tsw_ne h0
  have g1 : ¬ x.toInt = 1 := tsw_ne h1
  have g2 : ¬ x.toInt = 2 := tsw_ne h2
  have g3 : ¬ x.toInt = 3 := tsw_ne h3
  have g4 : ¬ x.toInt = 4 := tsw_ne h4
  have g5 : ¬ x.toInt = 5 := tsw_ne h5
  have g6 : ¬ x.toInt = 6 := tsw_ne h6
  have g7 : ¬ x.toInt = 7 := tsw_ne h7
  have g8 : ¬ x.toInt = 8 := tsw_ne h8
  have g9 : ¬ x.toInt = 9 := tsw_ne h9
  omega
theorem tsw_out_0_3 {x : Int32} (h0 : ¬ x = 0) (h1 : ¬ x = 1) (h2 : ¬ x = 2) (h3 : ¬ x = 3) : x.toInt < 0 ∨ 3 < x.toInt := by
  have g0 : ¬ x.toInt = 0 := tsw_ne h0
  have g1 : ¬ x.toInt = 1 := tsw_ne h1
  have g2 : ¬ x.toInt = 2 := tsw_ne h2
  have g3 : ¬ x.toInt = 3 := tsw_ne h3
  omega
def kcl (k : Int32) : Nat := if k = 1 then 0 else if k = 2 then 3 else if k = 3 then 10 else if k = 4 then 1 else if k = 5 then 5 else if k = 6 then 8 else 6
def rdOf (km num : Int32) : Nat × Int32 × Int32 × Int32 := (kcl (km / 10), km / 10, jrem km 10, num)
theorem kcl_1 {x : Int32} (h : x = 1) : kcl x = 0 := by subst h; rfl
theorem kcl_2 {x : Int32} (h : x = 2) : kcl x = 3 := by subst h; rfl
theorem kcl_3 {x : Int32} (h : x = 3) : kcl x = 10 := by subst h; rfl
theorem kcl_4 {x : Int32} (h : x = 4) : kcl x = 1 := by subst h; rfl
theorem kcl_5 {x : Int32} (h : x = 5) : kcl x = 5 := by subst h; rfl
theorem kcl_6 {x : Int32} (h : x = 6) : kcl x = 8 := by subst h; rfl
theorem kcl_0 {x : Int32} (h1 : ¬ x = 1) (h2 : ¬ x = 2) (h3 : ¬ x = 3) (h4 : ¬ x = 4) (h5 : ¬ x = 5) (h6 : ¬ x = 6) : kcl x = 6 := by unfold kcl; rw [if_neg h1, if_neg h2, if_neg h3, if_neg h4, if_neg h5, if_neg h6]
theorem kwi_RX11_X0_init : KwI RX11 291 yX0_init cX0_init 4 3 := ⟨wd_1_138, wd_1_139, wd_1_10, wd_1_140, rfl, ⟨by decide +kernel, by decide +kernel, by decide +kernel⟩, by decide⟩
theorem kwi_RX11_X3_init : KwI RX11 296 yX3_init cX3_init 4 3 := ⟨wd_1_163, wd_1_164, wd_1_11, wd_1_165, rfl, ⟨by decide +kernel, by decide +kernel, by decide +kernel⟩, by decide⟩
theorem kwi_RX11_X10_init : KwI RX11 299 yX10_init cX10_init 4 3 := ⟨wd_1_173, wd_1_174, wd_1_12, wd_1_175, rfl, ⟨by decide +kernel, by decide +kernel, by decide +kernel⟩, by decide⟩
theorem kwi_RX11_X1_init : KwI RX11 302 yX1_init cX1_init 4 3 := ⟨wd_1_183, wd_1_184, wd_1_13, wd_1_185, rfl, ⟨by decide +kernel, by decide +kernel, by decide +kernel⟩, by decide⟩
theorem kwi_RX11_X5_init : KwI RX11 305 yX5_init cX5_init 4 3 := ⟨wd_1_193, wd_1_194, wd_1_14, wd_1_195, rfl, ⟨by decide +kernel, by decide +kernel, by decide +kernel⟩, by decide⟩
theorem kwi_RX11_X8_init : KwI RX11 308 yX8_init cX8_init 4 3 := ⟨wd_1_203, wd_1_204, wd_1_15, wd_1_205, rfl, ⟨by decide +kernel, by decide +kernel, by decide +kernel⟩, by decide⟩
theorem kwi_RX11_X6_init : KwI RX11 309 yX6_init cX6_init 4 3 := ⟨wd_1_213, wd_1_142, wd_1_9, wd_1_143, rfl, ⟨by decide +kernel, by decide +kernel, by decide +kernel⟩, by decide⟩
set_option maxHeartbeats 4000000 in
theorem c_X11_riderOf {l : Launch} {E : En} {a1 a2 : Int32} : CP l E yX11_riderOf cX11_riderOf 4 (some (.object RX6)) 4 1 3 [] [.int a1, .int a2] [] (fun rv w => ∃ q : Nat, rv = some (.ref q) ∧ w = [(q, rcl (rdOf a1 a2))]) :=
  CP.of (lv := [(0, .int a1), (1, .int a2)]) (by decide +kernel) (Nat.le_of_ble_eq_true rfl) rfl (fun X hl hE hro hX hq hn => by
  subst hl; subst hE
  refine g_iloadn hX 0 rfl rfl dX11_riderOf_0 ?_
  refine g_bipush hX (v := 10) (by decide) dX11_riderOf_1 ?_
  refine g_idiv hX (by decide) dX11_riderOf_3 ?_
  refine g_istoren hX [(2, .int (a1 / 10)), (0, .int a1), (1, .int a2)] rfl (by decide) rfl dX11_riderOf_4 ?_
  refine g_iloadn hX 1 rfl rfl dX11_riderOf_5 ?_
  refine g_bipush hX (v := 10) (by decide) dX11_riderOf_6 ?_
  refine g_jrem hX (by decide) dX11_riderOf_8 ?_
  refine g_istoren hX [(3, .int (jrem a1 10)), (2, .int (a1 / 10)), (0, .int a1), (1, .int a2)] rfl (by decide) rfl dX11_riderOf_9 ?_
  refine g_iloadn hX 1 rfl rfl dX11_riderOf_10 ?_
  by_cases c1 : a1 / 10 = 1
  · refine g_tsin hX 48 c1 (by decide) (by rfl) (by decide) dX11_riderOf_11 ?_
    refine g_new (C := RX0) (T := TX0) (N := 3) (ci := 0) (fs := [.int 0, .int 0, .int 0]) hX hq inX0 tyX0 tyX0_ok wd_1_136 wd_1_137 wd_1_10 rfl dfX0 (by decide) (by decide) dX11_riderOf_48 (fun q => ?_)
    refine g_dup hX rfl dX11_riderOf_51 ?_
    refine g_iloadn hX 1 rfl rfl dX11_riderOf_52 ?_
    refine g_iloadn hX 0 rfl rfl dX11_riderOf_53 ?_
    refine g_iloadn hX 3 rfl rfl dX11_riderOf_54 ?_
    refine g_callI (pre := []) (mid := [(q, .inr (0, [.int 0, .int 0, .int 0]))]) (post := []) [.int (a1 / 10), .int (jrem a1 10), .int a2] hX hq kwi_RX11_X0_init (c_R0_X0_init) (fun _ h => absurd h List.not_mem_nil) (by decide) (by decide) (by decide) rfl rfl (Nat.le_of_ble_eq_true rfl) dX11_riderOf_55 (fun rv ws2 hp => ?_)
    obtain ⟨rfl, rfl⟩ := hp
    exact g_aret hX hq (by decide) (by decide) ⟨q, rfl, by unfold rcl rdOf; rw [kcl_1 c1]; rfl⟩ dX11_riderOf_58
  by_cases c2 : a1 / 10 = 2
  · refine g_tsin hX 59 c2 (by decide) (by rfl) (by decide) dX11_riderOf_11 ?_
    refine g_new (C := RX3) (T := TX3) (N := 3) (ci := 3) (fs := [.int 0, .int 0, .int 0]) hX hq inX3 tyX3 tyX3_ok wd_1_161 wd_1_162 wd_1_11 rfl dfX3 (by decide) (by decide) dX11_riderOf_59 (fun q => ?_)
    refine g_dup hX rfl dX11_riderOf_62 ?_
    refine g_iloadn hX 1 rfl rfl dX11_riderOf_63 ?_
    refine g_iloadn hX 0 rfl rfl dX11_riderOf_64 ?_
    refine g_iloadn hX 3 rfl rfl dX11_riderOf_65 ?_
    refine g_callI (pre := []) (mid := [(q, .inr (3, [.int 0, .int 0, .int 0]))]) (post := []) [.int (a1 / 10), .int (jrem a1 10), .int a2] hX hq kwi_RX11_X3_init (c_R3_X3_init) (fun _ h => absurd h List.not_mem_nil) (by decide) (by decide) (by decide) rfl rfl (Nat.le_of_ble_eq_true rfl) dX11_riderOf_66 (fun rv ws2 hp => ?_)
    obtain ⟨rfl, rfl⟩ := hp
    exact g_aret hX hq (by decide) (by decide) ⟨q, rfl, by unfold rcl rdOf; rw [kcl_2 c2]; rfl⟩ dX11_riderOf_69
  by_cases c3 : a1 / 10 = 3
  · refine g_tsin hX 70 c3 (by decide) (by rfl) (by decide) dX11_riderOf_11 ?_
    refine g_new (C := RX10) (T := TX10) (N := 3) (ci := 10) (fs := [.int 0, .int 0, .int 0]) hX hq inX10 tyX10 tyX10_ok wd_1_171 wd_1_172 wd_1_12 rfl dfX10 (by decide) (by decide) dX11_riderOf_70 (fun q => ?_)
    refine g_dup hX rfl dX11_riderOf_73 ?_
    refine g_iloadn hX 1 rfl rfl dX11_riderOf_74 ?_
    refine g_iloadn hX 0 rfl rfl dX11_riderOf_75 ?_
    refine g_iloadn hX 3 rfl rfl dX11_riderOf_76 ?_
    refine g_callI (pre := []) (mid := [(q, .inr (10, [.int 0, .int 0, .int 0]))]) (post := []) [.int (a1 / 10), .int (jrem a1 10), .int a2] hX hq kwi_RX11_X10_init (c_R10_X10_init) (fun _ h => absurd h List.not_mem_nil) (by decide) (by decide) (by decide) rfl rfl (Nat.le_of_ble_eq_true rfl) dX11_riderOf_77 (fun rv ws2 hp => ?_)
    obtain ⟨rfl, rfl⟩ := hp
    exact g_aret hX hq (by decide) (by decide) ⟨q, rfl, by unfold rcl rdOf; rw [kcl_3 c3]; rfl⟩ dX11_riderOf_80
  by_cases c4 : a1 / 10 = 4
  · refine g_tsin hX 81 c4 (by decide) (by rfl) (by decide) dX11_riderOf_11 ?_
    refine g_new (C := RX1) (T := TX1) (N := 3) (ci := 1) (fs := [.int 0, .int 0, .int 0]) hX hq inX1 tyX1 tyX1_ok wd_1_181 wd_1_182 wd_1_13 rfl dfX1 (by decide) (by decide) dX11_riderOf_81 (fun q => ?_)
    refine g_dup hX rfl dX11_riderOf_84 ?_
    refine g_iloadn hX 1 rfl rfl dX11_riderOf_85 ?_
    refine g_iloadn hX 0 rfl rfl dX11_riderOf_86 ?_
    refine g_iloadn hX 3 rfl rfl dX11_riderOf_87 ?_
    refine g_callI (pre := []) (mid := [(q, .inr (1, [.int 0, .int 0, .int 0]))]) (post := []) [.int (a1 / 10), .int (jrem a1 10), .int a2] hX hq kwi_RX11_X1_init (c_R1_X1_init) (fun _ h => absurd h List.not_mem_nil) (by decide) (by decide) (by decide) rfl rfl (Nat.le_of_ble_eq_true rfl) dX11_riderOf_88 (fun rv ws2 hp => ?_)
    obtain ⟨rfl, rfl⟩ := hp
    exact g_aret hX hq (by decide) (by decide) ⟨q, rfl, by unfold rcl rdOf; rw [kcl_4 c4]; rfl⟩ dX11_riderOf_91
  by_cases c5 : a1 / 10 = 5
  · refine g_tsin hX 92 c5 (by decide) (by rfl) (by decide) dX11_riderOf_11 ?_
    refine g_new (C := RX5) (T := TX5) (N := 3) (ci := 5) (fs := [.int 0, .int 0, .int 0]) hX hq inX5 tyX5 tyX5_ok wd_1_191 wd_1_192 wd_1_14 rfl dfX5 (by decide) (by decide) dX11_riderOf_92 (fun q => ?_)
    refine g_dup hX rfl dX11_riderOf_95 ?_
    refine g_iloadn hX 1 rfl rfl dX11_riderOf_96 ?_
    refine g_iloadn hX 0 rfl rfl dX11_riderOf_97 ?_
    refine g_iloadn hX 3 rfl rfl dX11_riderOf_98 ?_
    refine g_callI (pre := []) (mid := [(q, .inr (5, [.int 0, .int 0, .int 0]))]) (post := []) [.int (a1 / 10), .int (jrem a1 10), .int a2] hX hq kwi_RX11_X5_init (c_R5_X5_init) (fun _ h => absurd h List.not_mem_nil) (by decide) (by decide) (by decide) rfl rfl (Nat.le_of_ble_eq_true rfl) dX11_riderOf_99 (fun rv ws2 hp => ?_)
    obtain ⟨rfl, rfl⟩ := hp
    exact g_aret hX hq (by decide) (by decide) ⟨q, rfl, by unfold rcl rdOf; rw [kcl_5 c5]; rfl⟩ dX11_riderOf_102
  by_cases c6 : a1 / 10 = 6
  · refine g_tsin hX 103 c6 (by decide) (by rfl) (by decide) dX11_riderOf_11 ?_
    refine g_new (C := RX8) (T := TX8) (N := 3) (ci := 8) (fs := [.int 0, .int 0, .int 0]) hX hq inX8 tyX8 tyX8_ok wd_1_201 wd_1_202 wd_1_15 rfl dfX8 (by decide) (by decide) dX11_riderOf_103 (fun q => ?_)
    refine g_dup hX rfl dX11_riderOf_106 ?_
    refine g_iloadn hX 1 rfl rfl dX11_riderOf_107 ?_
    refine g_iloadn hX 0 rfl rfl dX11_riderOf_108 ?_
    refine g_iloadn hX 3 rfl rfl dX11_riderOf_109 ?_
    refine g_callI (pre := []) (mid := [(q, .inr (8, [.int 0, .int 0, .int 0]))]) (post := []) [.int (a1 / 10), .int (jrem a1 10), .int a2] hX hq kwi_RX11_X8_init (c_R8_X8_init) (fun _ h => absurd h List.not_mem_nil) (by decide) (by decide) (by decide) rfl rfl (Nat.le_of_ble_eq_true rfl) dX11_riderOf_110 (fun rv ws2 hp => ?_)
    obtain ⟨rfl, rfl⟩ := hp
    exact g_aret hX hq (by decide) (by decide) ⟨q, rfl, by unfold rcl rdOf; rw [kcl_6 c6]; rfl⟩ dX11_riderOf_113
  refine g_tsout hX 114 (tsw_out_1_6 c1 c2 c3 c4 c5 c6) (by decide) dX11_riderOf_11 ?_
  refine g_new (C := RX6) (T := TX6) (N := 3) (ci := 6) (fs := [.int 0, .int 0, .int 0]) hX hq inX6 tyX6 tyX6_ok wd_1_211 wd_1_212 wd_1_9 rfl dfX6 (by decide) (by decide) dX11_riderOf_114 (fun q => ?_)
  refine g_dup hX rfl dX11_riderOf_117 ?_
  refine g_iloadn hX 1 rfl rfl dX11_riderOf_118 ?_
  refine g_iloadn hX 0 rfl rfl dX11_riderOf_119 ?_
  refine g_iloadn hX 3 rfl rfl dX11_riderOf_120 ?_
  refine g_callI (pre := []) (mid := [(q, .inr (6, [.int 0, .int 0, .int 0]))]) (post := []) [.int (a1 / 10), .int (jrem a1 10), .int a2] hX hq kwi_RX11_X6_init (c_R6_X6_init) (fun _ h => absurd h List.not_mem_nil) (by decide) (by decide) (by decide) rfl rfl (Nat.le_of_ble_eq_true rfl) dX11_riderOf_121 (fun rv ws2 hp => ?_)
  obtain ⟨rfl, rfl⟩ := hp
  exact g_aret hX hq (by decide) (by decide) ⟨q, rfl, by unfold rcl rdOf; rw [kcl_0 c1 c2 c3 c4 c5 c6]; rfl⟩ dX11_riderOf_124)
theorem g_instY {X : Cx} {cc : ByteArray} {nL ce sl pc : Nat} {own : String} {lv : List (Nat × Value)} {st : List Value} {ws : va_W} (hX : Ok X cc nL own) {C nm : String} {index a : Nat} (hr : Recv X C a ws) (hl : Cond.classLink own index nm ∈ wU) (hc : (C, nm) ∈ castQ) (hdg : decode cc pc = .ok (.instanceof index, 3)) (kk : G X nL ce sl (pc + 3) lv (.int 1 :: st) ws) : G X nL ce sl pc lv (.ref a :: st) ws :=
  fun H locs ls hP hD hS h => va_instY hX.hx hX.hb hX.hown (hX.hts _ hl) (hX.hE.2.2.1 _ hc) (hr.cell hX hP hS) hdg (kk H locs ls hP hD hS h)
theorem g_instN {X : Cx} {cc : ByteArray} {nL ce sl pc : Nat} {own : String} {lv : List (Nat × Value)} {st : List Value} {ws : va_W} (hX : Ok X cc nL own) {C nm : String} {index a : Nat} (hr : Recv X C a ws) (hl : Cond.classLink own index nm ∈ wU) (hc : (C, nm) ∈ ncQ) (hdg : decode cc pc = .ok (.instanceof index, 3)) (kk : G X nL ce sl (pc + 3) lv (.int 0 :: st) ws) : G X nL ce sl pc lv (.ref a :: st) ws :=
  fun H locs ls hP hD hS h => va_instNo hX.hx hX.hb hX.hown (hX.hts _ hl) (hX.hE.2.2.2.1 _ hc) (hr.cell hX hP hS) hdg (kk H locs ls hP hD hS h)
theorem g_instS {X : Cx} {cc : ByteArray} {nL ce sl pc : Nat} {own : String} {lv : List (Nat × Value)} {st : List Value} {ws : va_W} (hX : Ok X cc nL own) {C : String} {index a ci : Nat} {T : u_T} {N : Nat} (hr : Recv X C a ws) (hl : Cond.classLink own index C ∈ wU) (hc : vwCl[ci]? = some (C, T, N)) (hdg : decode cc pc = .ok (.instanceof index, 3)) (kk : G X nL ce sl (pc + 3) lv (.int 1 :: st) ws) : G X nL ce sl pc lv (.ref a :: st) ws :=
  fun H locs ls hP hD hS h => va_instS hX.hx hX.hb hX.hown (hX.hts _ hl) (hX.hK.1 ci _ hc).2 (hr.cell hX hP hS) hdg (kk H locs ls hP hD hS h)
def f_isK (D : Nat) (k : Int32) : Int32 :=
  if k = 0 then 1 else
  if k = 1 then (if D = 0 ∨ D = 1 then 1 else 0) else
  if k = 2 then (if D = 3 ∨ D = 5 then 1 else 0) else
  if k = 3 then (if D = 10 ∨ D = 8 then 1 else 0) else
  if k = 4 then (if D = 1 then 1 else 0) else
  if k = 5 then (if D = 5 then 1 else 0) else
  if k = 6 then (if D = 8 then 1 else 0) else
  0
theorem c_X11_isOfKind_0 {l : Launch} {E : En} {q : Nat} {fk fm fn k : Int32} : CP l E yX11_isOfKind cX11_isOfKind 2 (some .boolean) 0 0 0 [(q, .inr (0, [.int fk, .int fm, .int fn]))] [.ref q, .int k] [] (fun rv w => rv = some (.int (f_isK 0 k)) ∧ w = []) :=
  CP.of (lv := [(0, .ref q), (1, .int k)]) (by decide +kernel) (Nat.le_of_ble_eq_true rfl) rfl (fun X hl hE hro hX hq hn => by
  subst hl; subst hE
  have hrv : Recv X RX0 q [] := Recv.ro 0 (by rw [hro]; exact List.mem_cons_self) rfl
  refine g_iloadn hX 1 rfl rfl dX11_isOfKind_0 ?_
  by_cases c0 : k = 0
  · refine g_tsin hX 44 c0 (by decide) (by rfl) (by decide) dX11_isOfKind_1 ?_
    refine g_iconst hX (v := 1) (by decide) dX11_isOfKind_44 ?_
    exact g_zret hX hq (by decide) (by decide) (by rfl) ⟨by rw [c0]; rfl, rfl⟩ dX11_isOfKind_45
  by_cases c1 : k = 1
  · refine g_tsin hX 46 c1 (by decide) (by rfl) (by decide) dX11_isOfKind_1 ?_
    refine g_aloadn hX 0 rfl rfl dX11_isOfKind_46 ?_
    refine g_instS (T := TX0) (N := 3) (ci := 0) hX hrv wd_1_136 rfl dX11_isOfKind_47 ?_
    exact g_zret hX hq (by decide) (by decide) (by rfl) ⟨by rw [c1]; rfl, rfl⟩ dX11_isOfKind_50
  by_cases c2 : k = 2
  · refine g_tsin hX 51 c2 (by decide) (by rfl) (by decide) dX11_isOfKind_1 ?_
    refine g_aloadn hX 0 rfl rfl dX11_isOfKind_51 ?_
    refine g_instN hX hrv wd_1_161 (by decide) dX11_isOfKind_52 ?_
    exact g_zret hX hq (by decide) (by decide) (by rfl) ⟨by rw [c2]; rfl, rfl⟩ dX11_isOfKind_55
  by_cases c3 : k = 3
  · refine g_tsin hX 56 c3 (by decide) (by rfl) (by decide) dX11_isOfKind_1 ?_
    refine g_aloadn hX 0 rfl rfl dX11_isOfKind_56 ?_
    refine g_instN hX hrv wd_1_171 (by decide) dX11_isOfKind_57 ?_
    exact g_zret hX hq (by decide) (by decide) (by rfl) ⟨by rw [c3]; rfl, rfl⟩ dX11_isOfKind_60
  by_cases c4 : k = 4
  · refine g_tsin hX 61 c4 (by decide) (by rfl) (by decide) dX11_isOfKind_1 ?_
    refine g_aloadn hX 0 rfl rfl dX11_isOfKind_61 ?_
    refine g_instN hX hrv wd_1_181 (by decide) dX11_isOfKind_62 ?_
    exact g_zret hX hq (by decide) (by decide) (by rfl) ⟨by rw [c4]; rfl, rfl⟩ dX11_isOfKind_65
  by_cases c5 : k = 5
  · refine g_tsin hX 66 c5 (by decide) (by rfl) (by decide) dX11_isOfKind_1 ?_
    refine g_aloadn hX 0 rfl rfl dX11_isOfKind_66 ?_
    refine g_instN hX hrv wd_1_191 (by decide) dX11_isOfKind_67 ?_
    exact g_zret hX hq (by decide) (by decide) (by rfl) ⟨by rw [c5]; rfl, rfl⟩ dX11_isOfKind_70
  by_cases c6 : k = 6
  · refine g_tsin hX 71 c6 (by decide) (by rfl) (by decide) dX11_isOfKind_1 ?_
    refine g_aloadn hX 0 rfl rfl dX11_isOfKind_71 ?_
    refine g_instN hX hrv wd_1_201 (by decide) dX11_isOfKind_72 ?_
    exact g_zret hX hq (by decide) (by decide) (by rfl) ⟨by rw [c6]; rfl, rfl⟩ dX11_isOfKind_75
  refine g_tsout hX 76 (tsw_out_0_6 c0 c1 c2 c3 c4 c5 c6) (by decide) dX11_isOfKind_1 ?_
  refine g_iconst hX (v := 0) (by decide) dX11_isOfKind_76 ?_
  exact g_zret hX hq (by decide) (by decide) (by rfl) ⟨by unfold f_isK; rw [if_neg c0, if_neg c1, if_neg c2, if_neg c3, if_neg c4, if_neg c5, if_neg c6], rfl⟩ dX11_isOfKind_77)
theorem c_X11_isOfKind_1 {l : Launch} {E : En} {q : Nat} {fk fm fn k : Int32} : CP l E yX11_isOfKind cX11_isOfKind 2 (some .boolean) 0 0 0 [(q, .inr (1, [.int fk, .int fm, .int fn]))] [.ref q, .int k] [] (fun rv w => rv = some (.int (f_isK 1 k)) ∧ w = []) :=
  CP.of (lv := [(0, .ref q), (1, .int k)]) (by decide +kernel) (Nat.le_of_ble_eq_true rfl) rfl (fun X hl hE hro hX hq hn => by
  subst hl; subst hE
  have hrv : Recv X RX1 q [] := Recv.ro 1 (by rw [hro]; exact List.mem_cons_self) rfl
  refine g_iloadn hX 1 rfl rfl dX11_isOfKind_0 ?_
  by_cases c0 : k = 0
  · refine g_tsin hX 44 c0 (by decide) (by rfl) (by decide) dX11_isOfKind_1 ?_
    refine g_iconst hX (v := 1) (by decide) dX11_isOfKind_44 ?_
    exact g_zret hX hq (by decide) (by decide) (by rfl) ⟨by rw [c0]; rfl, rfl⟩ dX11_isOfKind_45
  by_cases c1 : k = 1
  · refine g_tsin hX 46 c1 (by decide) (by rfl) (by decide) dX11_isOfKind_1 ?_
    refine g_aloadn hX 0 rfl rfl dX11_isOfKind_46 ?_
    refine g_instY hX hrv wd_1_136 (by decide) dX11_isOfKind_47 ?_
    exact g_zret hX hq (by decide) (by decide) (by rfl) ⟨by rw [c1]; rfl, rfl⟩ dX11_isOfKind_50
  by_cases c2 : k = 2
  · refine g_tsin hX 51 c2 (by decide) (by rfl) (by decide) dX11_isOfKind_1 ?_
    refine g_aloadn hX 0 rfl rfl dX11_isOfKind_51 ?_
    refine g_instN hX hrv wd_1_161 (by decide) dX11_isOfKind_52 ?_
    exact g_zret hX hq (by decide) (by decide) (by rfl) ⟨by rw [c2]; rfl, rfl⟩ dX11_isOfKind_55
  by_cases c3 : k = 3
  · refine g_tsin hX 56 c3 (by decide) (by rfl) (by decide) dX11_isOfKind_1 ?_
    refine g_aloadn hX 0 rfl rfl dX11_isOfKind_56 ?_
    refine g_instN hX hrv wd_1_171 (by decide) dX11_isOfKind_57 ?_
    exact g_zret hX hq (by decide) (by decide) (by rfl) ⟨by rw [c3]; rfl, rfl⟩ dX11_isOfKind_60
  by_cases c4 : k = 4
  · refine g_tsin hX 61 c4 (by decide) (by rfl) (by decide) dX11_isOfKind_1 ?_
    refine g_aloadn hX 0 rfl rfl dX11_isOfKind_61 ?_
    refine g_instS (T := TX1) (N := 3) (ci := 1) hX hrv wd_1_181 rfl dX11_isOfKind_62 ?_
    exact g_zret hX hq (by decide) (by decide) (by rfl) ⟨by rw [c4]; rfl, rfl⟩ dX11_isOfKind_65
  by_cases c5 : k = 5
  · refine g_tsin hX 66 c5 (by decide) (by rfl) (by decide) dX11_isOfKind_1 ?_
    refine g_aloadn hX 0 rfl rfl dX11_isOfKind_66 ?_
    refine g_instN hX hrv wd_1_191 (by decide) dX11_isOfKind_67 ?_
    exact g_zret hX hq (by decide) (by decide) (by rfl) ⟨by rw [c5]; rfl, rfl⟩ dX11_isOfKind_70
  by_cases c6 : k = 6
  · refine g_tsin hX 71 c6 (by decide) (by rfl) (by decide) dX11_isOfKind_1 ?_
    refine g_aloadn hX 0 rfl rfl dX11_isOfKind_71 ?_
    refine g_instN hX hrv wd_1_201 (by decide) dX11_isOfKind_72 ?_
    exact g_zret hX hq (by decide) (by decide) (by rfl) ⟨by rw [c6]; rfl, rfl⟩ dX11_isOfKind_75
  refine g_tsout hX 76 (tsw_out_0_6 c0 c1 c2 c3 c4 c5 c6) (by decide) dX11_isOfKind_1 ?_
  refine g_iconst hX (v := 0) (by decide) dX11_isOfKind_76 ?_
  exact g_zret hX hq (by decide) (by decide) (by rfl) ⟨by unfold f_isK; rw [if_neg c0, if_neg c1, if_neg c2, if_neg c3, if_neg c4, if_neg c5, if_neg c6], rfl⟩ dX11_isOfKind_77)
theorem c_X11_isOfKind_3 {l : Launch} {E : En} {q : Nat} {fk fm fn k : Int32} : CP l E yX11_isOfKind cX11_isOfKind 2 (some .boolean) 0 0 0 [(q, .inr (3, [.int fk, .int fm, .int fn]))] [.ref q, .int k] [] (fun rv w => rv = some (.int (f_isK 3 k)) ∧ w = []) :=
  CP.of (lv := [(0, .ref q), (1, .int k)]) (by decide +kernel) (Nat.le_of_ble_eq_true rfl) rfl (fun X hl hE hro hX hq hn => by
  subst hl; subst hE
  have hrv : Recv X RX3 q [] := Recv.ro 3 (by rw [hro]; exact List.mem_cons_self) rfl
  refine g_iloadn hX 1 rfl rfl dX11_isOfKind_0 ?_
  by_cases c0 : k = 0
  · refine g_tsin hX 44 c0 (by decide) (by rfl) (by decide) dX11_isOfKind_1 ?_
    refine g_iconst hX (v := 1) (by decide) dX11_isOfKind_44 ?_
    exact g_zret hX hq (by decide) (by decide) (by rfl) ⟨by rw [c0]; rfl, rfl⟩ dX11_isOfKind_45
  by_cases c1 : k = 1
  · refine g_tsin hX 46 c1 (by decide) (by rfl) (by decide) dX11_isOfKind_1 ?_
    refine g_aloadn hX 0 rfl rfl dX11_isOfKind_46 ?_
    refine g_instN hX hrv wd_1_136 (by decide) dX11_isOfKind_47 ?_
    exact g_zret hX hq (by decide) (by decide) (by rfl) ⟨by rw [c1]; rfl, rfl⟩ dX11_isOfKind_50
  by_cases c2 : k = 2
  · refine g_tsin hX 51 c2 (by decide) (by rfl) (by decide) dX11_isOfKind_1 ?_
    refine g_aloadn hX 0 rfl rfl dX11_isOfKind_51 ?_
    refine g_instS (T := TX3) (N := 3) (ci := 3) hX hrv wd_1_161 rfl dX11_isOfKind_52 ?_
    exact g_zret hX hq (by decide) (by decide) (by rfl) ⟨by rw [c2]; rfl, rfl⟩ dX11_isOfKind_55
  by_cases c3 : k = 3
  · refine g_tsin hX 56 c3 (by decide) (by rfl) (by decide) dX11_isOfKind_1 ?_
    refine g_aloadn hX 0 rfl rfl dX11_isOfKind_56 ?_
    refine g_instN hX hrv wd_1_171 (by decide) dX11_isOfKind_57 ?_
    exact g_zret hX hq (by decide) (by decide) (by rfl) ⟨by rw [c3]; rfl, rfl⟩ dX11_isOfKind_60
  by_cases c4 : k = 4
  · refine g_tsin hX 61 c4 (by decide) (by rfl) (by decide) dX11_isOfKind_1 ?_
    refine g_aloadn hX 0 rfl rfl dX11_isOfKind_61 ?_
    refine g_instN hX hrv wd_1_181 (by decide) dX11_isOfKind_62 ?_
    exact g_zret hX hq (by decide) (by decide) (by rfl) ⟨by rw [c4]; rfl, rfl⟩ dX11_isOfKind_65
  by_cases c5 : k = 5
  · refine g_tsin hX 66 c5 (by decide) (by rfl) (by decide) dX11_isOfKind_1 ?_
    refine g_aloadn hX 0 rfl rfl dX11_isOfKind_66 ?_
    refine g_instN hX hrv wd_1_191 (by decide) dX11_isOfKind_67 ?_
    exact g_zret hX hq (by decide) (by decide) (by rfl) ⟨by rw [c5]; rfl, rfl⟩ dX11_isOfKind_70
  by_cases c6 : k = 6
  · refine g_tsin hX 71 c6 (by decide) (by rfl) (by decide) dX11_isOfKind_1 ?_
    refine g_aloadn hX 0 rfl rfl dX11_isOfKind_71 ?_
    refine g_instN hX hrv wd_1_201 (by decide) dX11_isOfKind_72 ?_
    exact g_zret hX hq (by decide) (by decide) (by rfl) ⟨by rw [c6]; rfl, rfl⟩ dX11_isOfKind_75
  refine g_tsout hX 76 (tsw_out_0_6 c0 c1 c2 c3 c4 c5 c6) (by decide) dX11_isOfKind_1 ?_
  refine g_iconst hX (v := 0) (by decide) dX11_isOfKind_76 ?_
  exact g_zret hX hq (by decide) (by decide) (by rfl) ⟨by unfold f_isK; rw [if_neg c0, if_neg c1, if_neg c2, if_neg c3, if_neg c4, if_neg c5, if_neg c6], rfl⟩ dX11_isOfKind_77)
theorem c_X11_isOfKind_5 {l : Launch} {E : En} {q : Nat} {fk fm fn k : Int32} : CP l E yX11_isOfKind cX11_isOfKind 2 (some .boolean) 0 0 0 [(q, .inr (5, [.int fk, .int fm, .int fn]))] [.ref q, .int k] [] (fun rv w => rv = some (.int (f_isK 5 k)) ∧ w = []) :=
  CP.of (lv := [(0, .ref q), (1, .int k)]) (by decide +kernel) (Nat.le_of_ble_eq_true rfl) rfl (fun X hl hE hro hX hq hn => by
  subst hl; subst hE
  have hrv : Recv X RX5 q [] := Recv.ro 5 (by rw [hro]; exact List.mem_cons_self) rfl
  refine g_iloadn hX 1 rfl rfl dX11_isOfKind_0 ?_
  by_cases c0 : k = 0
  · refine g_tsin hX 44 c0 (by decide) (by rfl) (by decide) dX11_isOfKind_1 ?_
    refine g_iconst hX (v := 1) (by decide) dX11_isOfKind_44 ?_
    exact g_zret hX hq (by decide) (by decide) (by rfl) ⟨by rw [c0]; rfl, rfl⟩ dX11_isOfKind_45
  by_cases c1 : k = 1
  · refine g_tsin hX 46 c1 (by decide) (by rfl) (by decide) dX11_isOfKind_1 ?_
    refine g_aloadn hX 0 rfl rfl dX11_isOfKind_46 ?_
    refine g_instN hX hrv wd_1_136 (by decide) dX11_isOfKind_47 ?_
    exact g_zret hX hq (by decide) (by decide) (by rfl) ⟨by rw [c1]; rfl, rfl⟩ dX11_isOfKind_50
  by_cases c2 : k = 2
  · refine g_tsin hX 51 c2 (by decide) (by rfl) (by decide) dX11_isOfKind_1 ?_
    refine g_aloadn hX 0 rfl rfl dX11_isOfKind_51 ?_
    refine g_instY hX hrv wd_1_161 (by decide) dX11_isOfKind_52 ?_
    exact g_zret hX hq (by decide) (by decide) (by rfl) ⟨by rw [c2]; rfl, rfl⟩ dX11_isOfKind_55
  by_cases c3 : k = 3
  · refine g_tsin hX 56 c3 (by decide) (by rfl) (by decide) dX11_isOfKind_1 ?_
    refine g_aloadn hX 0 rfl rfl dX11_isOfKind_56 ?_
    refine g_instN hX hrv wd_1_171 (by decide) dX11_isOfKind_57 ?_
    exact g_zret hX hq (by decide) (by decide) (by rfl) ⟨by rw [c3]; rfl, rfl⟩ dX11_isOfKind_60
  by_cases c4 : k = 4
  · refine g_tsin hX 61 c4 (by decide) (by rfl) (by decide) dX11_isOfKind_1 ?_
    refine g_aloadn hX 0 rfl rfl dX11_isOfKind_61 ?_
    refine g_instN hX hrv wd_1_181 (by decide) dX11_isOfKind_62 ?_
    exact g_zret hX hq (by decide) (by decide) (by rfl) ⟨by rw [c4]; rfl, rfl⟩ dX11_isOfKind_65
  by_cases c5 : k = 5
  · refine g_tsin hX 66 c5 (by decide) (by rfl) (by decide) dX11_isOfKind_1 ?_
    refine g_aloadn hX 0 rfl rfl dX11_isOfKind_66 ?_
    refine g_instS (T := TX5) (N := 3) (ci := 5) hX hrv wd_1_191 rfl dX11_isOfKind_67 ?_
    exact g_zret hX hq (by decide) (by decide) (by rfl) ⟨by rw [c5]; rfl, rfl⟩ dX11_isOfKind_70
  by_cases c6 : k = 6
  · refine g_tsin hX 71 c6 (by decide) (by rfl) (by decide) dX11_isOfKind_1 ?_
    refine g_aloadn hX 0 rfl rfl dX11_isOfKind_71 ?_
    refine g_instN hX hrv wd_1_201 (by decide) dX11_isOfKind_72 ?_
    exact g_zret hX hq (by decide) (by decide) (by rfl) ⟨by rw [c6]; rfl, rfl⟩ dX11_isOfKind_75
  refine g_tsout hX 76 (tsw_out_0_6 c0 c1 c2 c3 c4 c5 c6) (by decide) dX11_isOfKind_1 ?_
  refine g_iconst hX (v := 0) (by decide) dX11_isOfKind_76 ?_
  exact g_zret hX hq (by decide) (by decide) (by rfl) ⟨by unfold f_isK; rw [if_neg c0, if_neg c1, if_neg c2, if_neg c3, if_neg c4, if_neg c5, if_neg c6], rfl⟩ dX11_isOfKind_77)
theorem c_X11_isOfKind_6 {l : Launch} {E : En} {q : Nat} {fk fm fn k : Int32} : CP l E yX11_isOfKind cX11_isOfKind 2 (some .boolean) 0 0 0 [(q, .inr (6, [.int fk, .int fm, .int fn]))] [.ref q, .int k] [] (fun rv w => rv = some (.int (f_isK 6 k)) ∧ w = []) :=
  CP.of (lv := [(0, .ref q), (1, .int k)]) (by decide +kernel) (Nat.le_of_ble_eq_true rfl) rfl (fun X hl hE hro hX hq hn => by
  subst hl; subst hE
  have hrv : Recv X RX6 q [] := Recv.ro 6 (by rw [hro]; exact List.mem_cons_self) rfl
  refine g_iloadn hX 1 rfl rfl dX11_isOfKind_0 ?_
  by_cases c0 : k = 0
  · refine g_tsin hX 44 c0 (by decide) (by rfl) (by decide) dX11_isOfKind_1 ?_
    refine g_iconst hX (v := 1) (by decide) dX11_isOfKind_44 ?_
    exact g_zret hX hq (by decide) (by decide) (by rfl) ⟨by rw [c0]; rfl, rfl⟩ dX11_isOfKind_45
  by_cases c1 : k = 1
  · refine g_tsin hX 46 c1 (by decide) (by rfl) (by decide) dX11_isOfKind_1 ?_
    refine g_aloadn hX 0 rfl rfl dX11_isOfKind_46 ?_
    refine g_instN hX hrv wd_1_136 (by decide) dX11_isOfKind_47 ?_
    exact g_zret hX hq (by decide) (by decide) (by rfl) ⟨by rw [c1]; rfl, rfl⟩ dX11_isOfKind_50
  by_cases c2 : k = 2
  · refine g_tsin hX 51 c2 (by decide) (by rfl) (by decide) dX11_isOfKind_1 ?_
    refine g_aloadn hX 0 rfl rfl dX11_isOfKind_51 ?_
    refine g_instN hX hrv wd_1_161 (by decide) dX11_isOfKind_52 ?_
    exact g_zret hX hq (by decide) (by decide) (by rfl) ⟨by rw [c2]; rfl, rfl⟩ dX11_isOfKind_55
  by_cases c3 : k = 3
  · refine g_tsin hX 56 c3 (by decide) (by rfl) (by decide) dX11_isOfKind_1 ?_
    refine g_aloadn hX 0 rfl rfl dX11_isOfKind_56 ?_
    refine g_instN hX hrv wd_1_171 (by decide) dX11_isOfKind_57 ?_
    exact g_zret hX hq (by decide) (by decide) (by rfl) ⟨by rw [c3]; rfl, rfl⟩ dX11_isOfKind_60
  by_cases c4 : k = 4
  · refine g_tsin hX 61 c4 (by decide) (by rfl) (by decide) dX11_isOfKind_1 ?_
    refine g_aloadn hX 0 rfl rfl dX11_isOfKind_61 ?_
    refine g_instN hX hrv wd_1_181 (by decide) dX11_isOfKind_62 ?_
    exact g_zret hX hq (by decide) (by decide) (by rfl) ⟨by rw [c4]; rfl, rfl⟩ dX11_isOfKind_65
  by_cases c5 : k = 5
  · refine g_tsin hX 66 c5 (by decide) (by rfl) (by decide) dX11_isOfKind_1 ?_
    refine g_aloadn hX 0 rfl rfl dX11_isOfKind_66 ?_
    refine g_instN hX hrv wd_1_191 (by decide) dX11_isOfKind_67 ?_
    exact g_zret hX hq (by decide) (by decide) (by rfl) ⟨by rw [c5]; rfl, rfl⟩ dX11_isOfKind_70
  by_cases c6 : k = 6
  · refine g_tsin hX 71 c6 (by decide) (by rfl) (by decide) dX11_isOfKind_1 ?_
    refine g_aloadn hX 0 rfl rfl dX11_isOfKind_71 ?_
    refine g_instN hX hrv wd_1_201 (by decide) dX11_isOfKind_72 ?_
    exact g_zret hX hq (by decide) (by decide) (by rfl) ⟨by rw [c6]; rfl, rfl⟩ dX11_isOfKind_75
  refine g_tsout hX 76 (tsw_out_0_6 c0 c1 c2 c3 c4 c5 c6) (by decide) dX11_isOfKind_1 ?_
  refine g_iconst hX (v := 0) (by decide) dX11_isOfKind_76 ?_
  exact g_zret hX hq (by decide) (by decide) (by rfl) ⟨by unfold f_isK; rw [if_neg c0, if_neg c1, if_neg c2, if_neg c3, if_neg c4, if_neg c5, if_neg c6], rfl⟩ dX11_isOfKind_77)
theorem c_X11_isOfKind_8 {l : Launch} {E : En} {q : Nat} {fk fm fn k : Int32} : CP l E yX11_isOfKind cX11_isOfKind 2 (some .boolean) 0 0 0 [(q, .inr (8, [.int fk, .int fm, .int fn]))] [.ref q, .int k] [] (fun rv w => rv = some (.int (f_isK 8 k)) ∧ w = []) :=
  CP.of (lv := [(0, .ref q), (1, .int k)]) (by decide +kernel) (Nat.le_of_ble_eq_true rfl) rfl (fun X hl hE hro hX hq hn => by
  subst hl; subst hE
  have hrv : Recv X RX8 q [] := Recv.ro 8 (by rw [hro]; exact List.mem_cons_self) rfl
  refine g_iloadn hX 1 rfl rfl dX11_isOfKind_0 ?_
  by_cases c0 : k = 0
  · refine g_tsin hX 44 c0 (by decide) (by rfl) (by decide) dX11_isOfKind_1 ?_
    refine g_iconst hX (v := 1) (by decide) dX11_isOfKind_44 ?_
    exact g_zret hX hq (by decide) (by decide) (by rfl) ⟨by rw [c0]; rfl, rfl⟩ dX11_isOfKind_45
  by_cases c1 : k = 1
  · refine g_tsin hX 46 c1 (by decide) (by rfl) (by decide) dX11_isOfKind_1 ?_
    refine g_aloadn hX 0 rfl rfl dX11_isOfKind_46 ?_
    refine g_instN hX hrv wd_1_136 (by decide) dX11_isOfKind_47 ?_
    exact g_zret hX hq (by decide) (by decide) (by rfl) ⟨by rw [c1]; rfl, rfl⟩ dX11_isOfKind_50
  by_cases c2 : k = 2
  · refine g_tsin hX 51 c2 (by decide) (by rfl) (by decide) dX11_isOfKind_1 ?_
    refine g_aloadn hX 0 rfl rfl dX11_isOfKind_51 ?_
    refine g_instN hX hrv wd_1_161 (by decide) dX11_isOfKind_52 ?_
    exact g_zret hX hq (by decide) (by decide) (by rfl) ⟨by rw [c2]; rfl, rfl⟩ dX11_isOfKind_55
  by_cases c3 : k = 3
  · refine g_tsin hX 56 c3 (by decide) (by rfl) (by decide) dX11_isOfKind_1 ?_
    refine g_aloadn hX 0 rfl rfl dX11_isOfKind_56 ?_
    refine g_instY hX hrv wd_1_171 (by decide) dX11_isOfKind_57 ?_
    exact g_zret hX hq (by decide) (by decide) (by rfl) ⟨by rw [c3]; rfl, rfl⟩ dX11_isOfKind_60
  by_cases c4 : k = 4
  · refine g_tsin hX 61 c4 (by decide) (by rfl) (by decide) dX11_isOfKind_1 ?_
    refine g_aloadn hX 0 rfl rfl dX11_isOfKind_61 ?_
    refine g_instN hX hrv wd_1_181 (by decide) dX11_isOfKind_62 ?_
    exact g_zret hX hq (by decide) (by decide) (by rfl) ⟨by rw [c4]; rfl, rfl⟩ dX11_isOfKind_65
  by_cases c5 : k = 5
  · refine g_tsin hX 66 c5 (by decide) (by rfl) (by decide) dX11_isOfKind_1 ?_
    refine g_aloadn hX 0 rfl rfl dX11_isOfKind_66 ?_
    refine g_instN hX hrv wd_1_191 (by decide) dX11_isOfKind_67 ?_
    exact g_zret hX hq (by decide) (by decide) (by rfl) ⟨by rw [c5]; rfl, rfl⟩ dX11_isOfKind_70
  by_cases c6 : k = 6
  · refine g_tsin hX 71 c6 (by decide) (by rfl) (by decide) dX11_isOfKind_1 ?_
    refine g_aloadn hX 0 rfl rfl dX11_isOfKind_71 ?_
    refine g_instS (T := TX8) (N := 3) (ci := 8) hX hrv wd_1_201 rfl dX11_isOfKind_72 ?_
    exact g_zret hX hq (by decide) (by decide) (by rfl) ⟨by rw [c6]; rfl, rfl⟩ dX11_isOfKind_75
  refine g_tsout hX 76 (tsw_out_0_6 c0 c1 c2 c3 c4 c5 c6) (by decide) dX11_isOfKind_1 ?_
  refine g_iconst hX (v := 0) (by decide) dX11_isOfKind_76 ?_
  exact g_zret hX hq (by decide) (by decide) (by rfl) ⟨by unfold f_isK; rw [if_neg c0, if_neg c1, if_neg c2, if_neg c3, if_neg c4, if_neg c5, if_neg c6], rfl⟩ dX11_isOfKind_77)
theorem c_X11_isOfKind_10 {l : Launch} {E : En} {q : Nat} {fk fm fn k : Int32} : CP l E yX11_isOfKind cX11_isOfKind 2 (some .boolean) 0 0 0 [(q, .inr (10, [.int fk, .int fm, .int fn]))] [.ref q, .int k] [] (fun rv w => rv = some (.int (f_isK 10 k)) ∧ w = []) :=
  CP.of (lv := [(0, .ref q), (1, .int k)]) (by decide +kernel) (Nat.le_of_ble_eq_true rfl) rfl (fun X hl hE hro hX hq hn => by
  subst hl; subst hE
  have hrv : Recv X RX10 q [] := Recv.ro 10 (by rw [hro]; exact List.mem_cons_self) rfl
  refine g_iloadn hX 1 rfl rfl dX11_isOfKind_0 ?_
  by_cases c0 : k = 0
  · refine g_tsin hX 44 c0 (by decide) (by rfl) (by decide) dX11_isOfKind_1 ?_
    refine g_iconst hX (v := 1) (by decide) dX11_isOfKind_44 ?_
    exact g_zret hX hq (by decide) (by decide) (by rfl) ⟨by rw [c0]; rfl, rfl⟩ dX11_isOfKind_45
  by_cases c1 : k = 1
  · refine g_tsin hX 46 c1 (by decide) (by rfl) (by decide) dX11_isOfKind_1 ?_
    refine g_aloadn hX 0 rfl rfl dX11_isOfKind_46 ?_
    refine g_instN hX hrv wd_1_136 (by decide) dX11_isOfKind_47 ?_
    exact g_zret hX hq (by decide) (by decide) (by rfl) ⟨by rw [c1]; rfl, rfl⟩ dX11_isOfKind_50
  by_cases c2 : k = 2
  · refine g_tsin hX 51 c2 (by decide) (by rfl) (by decide) dX11_isOfKind_1 ?_
    refine g_aloadn hX 0 rfl rfl dX11_isOfKind_51 ?_
    refine g_instN hX hrv wd_1_161 (by decide) dX11_isOfKind_52 ?_
    exact g_zret hX hq (by decide) (by decide) (by rfl) ⟨by rw [c2]; rfl, rfl⟩ dX11_isOfKind_55
  by_cases c3 : k = 3
  · refine g_tsin hX 56 c3 (by decide) (by rfl) (by decide) dX11_isOfKind_1 ?_
    refine g_aloadn hX 0 rfl rfl dX11_isOfKind_56 ?_
    refine g_instS (T := TX10) (N := 3) (ci := 10) hX hrv wd_1_171 rfl dX11_isOfKind_57 ?_
    exact g_zret hX hq (by decide) (by decide) (by rfl) ⟨by rw [c3]; rfl, rfl⟩ dX11_isOfKind_60
  by_cases c4 : k = 4
  · refine g_tsin hX 61 c4 (by decide) (by rfl) (by decide) dX11_isOfKind_1 ?_
    refine g_aloadn hX 0 rfl rfl dX11_isOfKind_61 ?_
    refine g_instN hX hrv wd_1_181 (by decide) dX11_isOfKind_62 ?_
    exact g_zret hX hq (by decide) (by decide) (by rfl) ⟨by rw [c4]; rfl, rfl⟩ dX11_isOfKind_65
  by_cases c5 : k = 5
  · refine g_tsin hX 66 c5 (by decide) (by rfl) (by decide) dX11_isOfKind_1 ?_
    refine g_aloadn hX 0 rfl rfl dX11_isOfKind_66 ?_
    refine g_instN hX hrv wd_1_191 (by decide) dX11_isOfKind_67 ?_
    exact g_zret hX hq (by decide) (by decide) (by rfl) ⟨by rw [c5]; rfl, rfl⟩ dX11_isOfKind_70
  by_cases c6 : k = 6
  · refine g_tsin hX 71 c6 (by decide) (by rfl) (by decide) dX11_isOfKind_1 ?_
    refine g_aloadn hX 0 rfl rfl dX11_isOfKind_71 ?_
    refine g_instN hX hrv wd_1_201 (by decide) dX11_isOfKind_72 ?_
    exact g_zret hX hq (by decide) (by decide) (by rfl) ⟨by rw [c6]; rfl, rfl⟩ dX11_isOfKind_75
  refine g_tsout hX 76 (tsw_out_0_6 c0 c1 c2 c3 c4 c5 c6) (by decide) dX11_isOfKind_1 ?_
  refine g_iconst hX (v := 0) (by decide) dX11_isOfKind_76 ?_
  exact g_zret hX hq (by decide) (by decide) (by rfl) ⟨by unfold f_isK; rw [if_neg c0, if_neg c1, if_neg c2, if_neg c3, if_neg c4, if_neg c5, if_neg c6], rfl⟩ dX11_isOfKind_77)
theorem cpy_all {n : Nat} (F G : Nat → Int32) {j : Nat} (hj : j < n) : va_cpy F G 0 0 n j = F j := by
  unfold va_cpy
  rw [if_pos ⟨Nat.zero_le _, by omega⟩]
  congr 1
  omega
theorem c_X2_copy {l : Launch} {E : En} {a a2 t t2 nm nm2 q0 q2 : Nat} {le le2 v0 v1 v2 v3 v4 v5 u0 u1 u2 u3 u4 u5 : Int32} {F F2 : Nat → Int32} (hfit : ∀ j : Nat, fits .byte (.int (F2 j)) = true) : CP l E yX2_copy cX2_copy 2 none 1 0 0 [] [.ref a, .ref a2] [(a, .inr (2, [.ref nm, .ref t, .int le, .ref q0, .int v0, .int v1, .int v2, .int v3, .int v4, .int v5])), (t, .inl (E.cB, 50, .inl (F))), (a2, .inr (2, [.ref nm2, .ref t2, .int le2, .ref q2, .int u0, .int u1, .int u2, .int u3, .int u4, .int u5])), (t2, .inl (E.cB, 50, .inl F2))] (fun rv w => rv = none ∧ w = [(a, .inr (2, [.ref nm, .ref t, .int le2, .ref q0, .int v0, .int v1, .int v2, .int v3, .int v4, .int v5])), (t, .inl (E.cB, 50, .inl (F2))), (a2, .inr (2, [.ref nm2, .ref t2, .int le2, .ref q2, .int u0, .int u1, .int u2, .int u3, .int u4, .int u5])), (t2, .inl (E.cB, 50, .inl F2))]) :=
  CP.of (lv := [(0, .ref a), (1, .ref a2)]) (by decide +kernel) (Nat.le_of_ble_eq_true rfl) rfl (fun X hl hE hro hX hq hn => by
  subst hl; subst hE
  refine g_aloadn hX 1 rfl rfl dX2_copy_0 ?_
  refine g_get (C := RX2) (T := TX2) (N := 10) hX inX2 2 rfl rfl 1 (by decide) wd_1_99 (fun _ h => h) rfl dX2_copy_1 ?_
  refine g_iconst hX (v := 0) (by decide) dX2_copy_4 ?_
  refine g_aloadn hX 0 rfl rfl dX2_copy_5 ?_
  refine g_get (C := RX2) (T := TX2) (N := 10) hX inX2 0 rfl rfl 1 (by decide) wd_1_99 (fun _ h => h) rfl dX2_copy_6 ?_
  refine g_iconst hX (v := 0) (by decide) dX2_copy_9 ?_
  refine g_bipush hX (v := 50) (by decide) dX2_copy_10 ?_
  refine g_copyi (ty := .byte) hX hq wd_3_155 (by decide) 3 1 1 rfl rfl rfl rfl (by decide) (by decide) (by decide) (by decide) (by decide) (fun j _ => hfit _) (Nat.le_of_ble_eq_true rfl) [(a, .inr (2, [.ref nm, .ref t, .int le, .ref q0, .int v0, .int v1, .int v2, .int v3, .int v4, .int v5])), (t, .inl (X.E.cB, 50, .inl (va_cpy F2 F 0 0 50))), (a2, .inr (2, [.ref nm2, .ref t2, .int le2, .ref q2, .int u0, .int u1, .int u2, .int u3, .int u4, .int u5])), (t2, .inl (X.E.cB, 50, .inl F2))] rfl dX2_copy_12 ?_
  refine g_arrX 1 (g := F2) rfl (fun j hj => cpy_all F2 F hj) [(a, .inr (2, [.ref nm, .ref t, .int le, .ref q0, .int v0, .int v1, .int v2, .int v3, .int v4, .int v5])), (t, .inl (X.E.cB, 50, .inl (F2))), (a2, .inr (2, [.ref nm2, .ref t2, .int le2, .ref q2, .int u0, .int u1, .int u2, .int u3, .int u4, .int u5])), (t2, .inl (X.E.cB, 50, .inl F2))] rfl ?_
  refine g_aloadn hX 0 rfl rfl dX2_copy_15 ?_
  refine g_aloadn hX 1 rfl rfl dX2_copy_16 ?_
  refine g_get (C := RX2) (T := TX2) (N := 10) hX inX2 2 rfl rfl 2 (by decide) wd_1_100 (fun _ h => h) rfl dX2_copy_17 ?_
  refine g_put (C := RX2) (T := TX2) (N := 10) (ty := .int) hX inX2 tyX2 tyX2_ok nmX2 0 rfl rfl 2 (by decide) wd_1_100 (fun _ h => h) rfl (by decide +kernel) rfl rfl (Nat.le_of_ble_eq_true rfl) [(a, .inr (2, [.ref nm, .ref t, .int le2, .ref q0, .int v0, .int v1, .int v2, .int v3, .int v4, .int v5])), (t, .inl (X.E.cB, 50, .inl (F2))), (a2, .inr (2, [.ref nm2, .ref t2, .int le2, .ref q2, .int u0, .int u1, .int u2, .int u3, .int u4, .int u5])), (t2, .inl (X.E.cB, 50, .inl F2))] rfl dX2_copy_20 ?_
  exact g_vret hX hq (by decide) (by decide) ⟨rfl, rfl⟩ dX2_copy_23)
